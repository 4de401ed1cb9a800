def sL_truncateInput : MS := (⟨"PetriNetLaw", "truncateInput", "(LPetriNet;I[J)I"⟩, method_3_code, 4, some .int, 3, 99, 7, 1, 6)
def hL_truncateInput : List (Nat × Nat × Nat × Nat) := [(0, 9, 12, 13)]
set_option maxRecDepth 100000 in
theorem okL_truncateInput : okLW sL_truncateInput hL_truncateInput 125 := ⟨ws_of 624 rfl rfl, ws_of 0 (by decide +kernel) (by decide +kernel), ⟨by decide +kernel, by decide +kernel⟩, by decide +kernel, ws_of 623 (by decide +kernel) (by decide +kernel), ws_of 622 (by decide +kernel) (by decide +kernel)⟩
theorem w_truncateInput {x : CX} {h : MH} {i u : Nat} {s : AS} {v : Int32} (hP : PO h i s) (hu : u < i ∨ i + 119 ≤ u) (ho : mK h u = 13 ∧ mL h u = 1) : CTW x sL_truncateInput hL_truncateInput [.ref i, .int v, .ref u] h (pI (wrP (qTrc s v) h i u)) xNo := by
  refine CTW_of (o := 6) rfl (by decide) (by simp [Value.category, sL_truncateInput]) ?_
  show MG x sL_truncateInput 6 (XH hL_truncateInput) _ _ 0 (1, 6) [.ref i, .int v, .ref u, .null] [] h
  refine G_aload_n (k := 2) (by decide +kernel) ?_
  refine G_iconst (n := 0) (by decide +kernel) ?_
  refine G_aload_n (k := 0) (by decide +kernel) ?_
  refine G_iload_n (k := 1) (by decide +kernel) ?_
  have hH : hdO sL_truncateInput hL_truncateInput 4 [.ref i, .int v, .ref u, .null] [eIA] := fun n E hE => match n, hE with
    | 0, hE => by
      cases hE
      exact ⟨[], ⟨0, 9, 12, 13⟩, [], 3, 1, 1, rfl, (fun _ hy => nomatch hy), by decide, by decide, lkIA, csIA, ⟨by decide, by show okSt _ _; first | rfl | trivial | decide, Or.inl ⟨rfl, 3, rfl, by decide +kernel⟩⟩, by decide +kernel, rfl, by decide +kernel⟩
    | n + 1, hE => by cases hE
  exact w_core (As := [.int v]) (y := sX4_truncateInput) (k := 7) (of := 6) (E := 15) rfl rfl rfl rfl (Or.inl ⟨by decide, hP.1.1⟩) in_X4_truncateInput (by decide) (by decide) (Nat.le_refl _) (Nat.le_refl _) (c_truncateInput hP) hH hu ho (by decide +kernel) (by decide +kernel) (by decide +kernel) (by decide +kernel) rfl (by decide +kernel) (by decide +kernel)
def sL_setTokens : MS := (⟨"PetriNetLaw", "setTokens", "(LPetriNet;II[J)I"⟩, method_4_code, 5, some .int, 4, 99, 7, 2, 12)
def hL_setTokens : List (Nat × Nat × Nat × Nat) := [(0, 10, 13, 19), (0, 10, 17, 13)]
set_option maxRecDepth 100000 in
theorem okL_setTokens : okLW sL_setTokens hL_setTokens 142 := ⟨ws_of 703 rfl rfl, ws_of 0 (by decide +kernel) (by decide +kernel), ⟨by decide +kernel, by decide +kernel⟩, by decide +kernel, ws_of 702 (by decide +kernel) (by decide +kernel), ws_of 701 (by decide +kernel) (by decide +kernel)⟩
theorem w_setTokens {x : CX} {h : MH} {i u np nt : Nat} {s : AS} {p t : Int32} (hP : PO h i s) (hB : NB (aW s) np nt) (hu : u < i ∨ i + 119 ≤ u) (ho : mK h u = 13 ∧ mL h u = 1) : CTW x sL_setTokens hL_setTokens [.ref i, .int p, .int t, .ref u] h (pI (wrP (qST s np p t) h i u)) xNo := by
  refine CTW_of (o := 6) rfl (by decide) (by simp [Value.category, sL_setTokens]) ?_
  show MG x sL_setTokens 6 (XH hL_setTokens) _ _ 0 (2, 12) [.ref i, .int p, .int t, .ref u, .null] [] h
  refine G_aload_n (k := 3) (by decide +kernel) ?_
  refine G_iconst (n := 0) (by decide +kernel) ?_
  refine G_aload_n (k := 0) (by decide +kernel) ?_
  refine G_iload_n (k := 1) (by decide +kernel) ?_
  refine G_iload_n (k := 2) (by decide +kernel) ?_
  have hH : hdO sL_setTokens hL_setTokens 5 [.ref i, .int p, .int t, .ref u, .null] [eIB, eIA] := fun n E hE => match n, hE with
    | 0, hE => by
      cases hE
      exact ⟨[], ⟨0, 10, 13, 19⟩, [⟨0, 10, 17, 13⟩], 4, 2, 1, rfl, (fun _ hy => nomatch hy), by decide, by decide, lkIB, csIB, ⟨by decide, by show okSt _ _; first | rfl | trivial | decide, Or.inr ⟨rfl, by decide +kernel⟩⟩, by decide +kernel, rfl, by decide +kernel⟩
    | 1, hE => by
      cases hE
      exact ⟨[⟨0, 10, 13, 19⟩], ⟨0, 10, 17, 13⟩, [], 4, 2, 2, rfl, List.forall_mem_cons.mpr ⟨Or.inr ⟨by decide, eIB, lkIB, by decide⟩, (fun _ hy => nomatch hy)⟩, by decide, by decide, lkIA, csIA, ⟨by decide, by show okSt _ _; first | rfl | trivial | decide, Or.inr ⟨rfl, by decide +kernel⟩⟩, by decide +kernel, rfl, by decide +kernel⟩
    | n + 2, hE => by cases hE
  exact w_core (As := [.int p, .int t]) (y := sX4_setTokens) (k := 15) (of := 11) (E := 21) rfl rfl rfl rfl (Or.inl ⟨by decide, hP.1.1⟩) in_X4_setTokens (by decide) (by decide) (Nat.le_refl _) (Nat.le_refl _) (c_setTokens hP hB) hH hu ho (by decide +kernel) (by decide +kernel) (by decide +kernel) (by decide +kernel) rfl (by decide +kernel) (by decide +kernel)
def sL_setCapacity : MS := (⟨"PetriNetLaw", "setCapacity", "(LPetriNet;II[J)I"⟩, method_5_code, 5, some .int, 4, 99, 7, 3, 18)
def hL_setCapacity : List (Nat × Nat × Nat × Nat) := [(0, 10, 13, 19), (0, 10, 17, 13), (0, 10, 21, 24)]
set_option maxRecDepth 100000 in
theorem okL_setCapacity : okLW sL_setCapacity hL_setCapacity 146 := ⟨ws_of 731 rfl rfl, ws_of 0 (by decide +kernel) (by decide +kernel), ⟨by decide +kernel, by decide +kernel⟩, by decide +kernel, ws_of 730 (by decide +kernel) (by decide +kernel), ws_of 729 (by decide +kernel) (by decide +kernel)⟩
theorem w_setCapacity {x : CX} {h : MH} {i u np nt : Nat} {s : AS} {p t : Int32} (hP : PO h i s) (hB : NB (aW s) np nt) (hu : u < i ∨ i + 119 ≤ u) (ho : mK h u = 13 ∧ mL h u = 1) : CTW x sL_setCapacity hL_setCapacity [.ref i, .int p, .int t, .ref u] h (pI (wrP (qSC s np p t) h i u)) xNo := by
  refine CTW_of (o := 6) rfl (by decide) (by simp [Value.category, sL_setCapacity]) ?_
  show MG x sL_setCapacity 6 (XH hL_setCapacity) _ _ 0 (3, 18) [.ref i, .int p, .int t, .ref u, .null] [] h
  refine G_aload_n (k := 3) (by decide +kernel) ?_
  refine G_iconst (n := 0) (by decide +kernel) ?_
  refine G_aload_n (k := 0) (by decide +kernel) ?_
  refine G_iload_n (k := 1) (by decide +kernel) ?_
  refine G_iload_n (k := 2) (by decide +kernel) ?_
  have hH : hdO sL_setCapacity hL_setCapacity 5 [.ref i, .int p, .int t, .ref u, .null] [eIB, eIA, eIS] := fun n E hE => match n, hE with
    | 0, hE => by
      cases hE
      exact ⟨[], ⟨0, 10, 13, 19⟩, [⟨0, 10, 17, 13⟩, ⟨0, 10, 21, 24⟩], 4, 2, 1, rfl, (fun _ hy => nomatch hy), by decide, by decide, lkIB, csIB, ⟨by decide, by show okSt _ _; first | rfl | trivial | decide, Or.inr ⟨rfl, by decide +kernel⟩⟩, by decide +kernel, rfl, by decide +kernel⟩
    | 1, hE => by
      cases hE
      exact ⟨[⟨0, 10, 13, 19⟩], ⟨0, 10, 17, 13⟩, [⟨0, 10, 21, 24⟩], 4, 2, 2, rfl, List.forall_mem_cons.mpr ⟨Or.inr ⟨by decide, eIB, lkIB, by decide⟩, (fun _ hy => nomatch hy)⟩, by decide, by decide, lkIA, csIA, ⟨by decide, by show okSt _ _; first | rfl | trivial | decide, Or.inr ⟨rfl, by decide +kernel⟩⟩, by decide +kernel, rfl, by decide +kernel⟩
    | 2, hE => by
      cases hE
      exact ⟨[⟨0, 10, 13, 19⟩, ⟨0, 10, 17, 13⟩], ⟨0, 10, 21, 24⟩, [], 4, 2, 3, rfl, List.forall_mem_cons.mpr ⟨Or.inr ⟨by decide, eIB, lkIB, by decide⟩, List.forall_mem_cons.mpr ⟨Or.inr ⟨by decide, eIA, lkIA, by decide⟩, (fun _ hy => nomatch hy)⟩⟩, by decide, by decide, lkIS, csIS, ⟨by decide, by show okSt _ _; first | rfl | trivial | decide, Or.inr ⟨rfl, by decide +kernel⟩⟩, by decide +kernel, rfl, by decide +kernel⟩
    | n + 3, hE => by cases hE
  exact w_core (As := [.int p, .int t]) (y := sX4_setCapacity) (k := 21) (of := 15) (E := 25) rfl rfl rfl rfl (Or.inl ⟨by decide, hP.1.1⟩) in_X4_setCapacity (by decide) (by decide) (Nat.le_refl _) (Nat.le_refl _) (c_setCapacity hP hB) hH hu ho (by decide +kernel) (by decide +kernel) (by decide +kernel) (by decide +kernel) rfl (by decide +kernel) (by decide +kernel)
def sL_setInput : MS := (⟨"PetriNetLaw", "setInput", "(LPetriNet;III[J)I"⟩, method_6_code, 6, some .int, 5, 99, 8, 3, 18)
def hL_setInput : List (Nat × Nat × Nat × Nat) := [(0, 12, 15, 19), (0, 12, 19, 13)]
set_option maxRecDepth 100000 in
theorem okL_setInput : okLW sL_setInput hL_setInput 149 := ⟨ws_of 755 rfl rfl, ws_of 0 (by decide +kernel) (by decide +kernel), ⟨by decide +kernel, by decide +kernel⟩, by decide +kernel, ws_of 754 (by decide +kernel) (by decide +kernel), ws_of 753 (by decide +kernel) (by decide +kernel)⟩
theorem w_setInput {x : CX} {h : MH} {i u np nt : Nat} {s : AS} {p t v : Int32} (hP : PO h i s) (hB : NB (aW s) np nt) (hu : u < i ∨ i + 119 ≤ u) (ho : mK h u = 13 ∧ mL h u = 1) : CTW x sL_setInput hL_setInput [.ref i, .int p, .int t, .int v, .ref u] h (pI (wrP (qArc s np nt 28 p t v) h i u)) xNo := by
  refine CTW_of (o := 6) rfl (by decide) (by simp [Value.category, sL_setInput]) ?_
  show MG x sL_setInput 6 (XH hL_setInput) _ _ 0 (3, 18) [.ref i, .int p, .int t, .int v, .ref u, .null] [] h
  refine G_aload (k := 4) (by decide +kernel) ?_
  refine G_iconst (n := 0) (by decide +kernel) ?_
  refine G_aload_n (k := 0) (by decide +kernel) ?_
  refine G_iload_n (k := 1) (by decide +kernel) ?_
  refine G_iload_n (k := 2) (by decide +kernel) ?_
  refine G_iload_n (k := 3) (by decide +kernel) ?_
  have hH : hdO sL_setInput hL_setInput 7 [.ref i, .int p, .int t, .int v, .ref u, .null] [eIB, eIA] := fun n E hE => match n, hE with
    | 0, hE => by
      cases hE
      exact ⟨[], ⟨0, 12, 15, 19⟩, [⟨0, 12, 19, 13⟩], 5, 2, 1, rfl, (fun _ hy => nomatch hy), by decide, by decide, lkIB, csIB, ⟨by decide, by show okSt _ _; first | rfl | trivial | decide, Or.inr ⟨rfl, by decide +kernel⟩⟩, by decide +kernel, rfl, by decide +kernel⟩
    | 1, hE => by
      cases hE
      exact ⟨[⟨0, 12, 15, 19⟩], ⟨0, 12, 19, 13⟩, [], 5, 2, 2, rfl, List.forall_mem_cons.mpr ⟨Or.inr ⟨by decide, eIB, lkIB, by decide⟩, (fun _ hy => nomatch hy)⟩, by decide, by decide, lkIA, csIA, ⟨by decide, by show okSt _ _; first | rfl | trivial | decide, Or.inr ⟨rfl, by decide +kernel⟩⟩, by decide +kernel, rfl, by decide +kernel⟩
    | n + 2, hE => by cases hE
  exact w_core (As := [.int p, .int t, .int v]) (y := sX4_setInput) (k := 26) (of := 11) (E := 23) rfl rfl rfl rfl (Or.inl ⟨by decide, hP.1.1⟩) in_X4_setInput (by decide) (by decide) (Nat.le_refl _) (Nat.le_refl _) (c_setInput hP hB) hH hu ho (by decide +kernel) (by decide +kernel) (by decide +kernel) (by decide +kernel) rfl (by decide +kernel) (by decide +kernel)
def sL_setOutput : MS := (⟨"PetriNetLaw", "setOutput", "(LPetriNet;III[J)I"⟩, method_7_code, 6, some .int, 5, 99, 8, 3, 18)
def hL_setOutput : List (Nat × Nat × Nat × Nat) := [(0, 12, 15, 19), (0, 12, 19, 13)]
set_option maxRecDepth 100000 in
theorem okL_setOutput : okLW sL_setOutput hL_setOutput 153 := ⟨ws_of 771 rfl rfl, ws_of 0 (by decide +kernel) (by decide +kernel), ⟨by decide +kernel, by decide +kernel⟩, by decide +kernel, ws_of 770 (by decide +kernel) (by decide +kernel), ws_of 769 (by decide +kernel) (by decide +kernel)⟩
theorem w_setOutput {x : CX} {h : MH} {i u np nt : Nat} {s : AS} {t p v : Int32} (hP : PO h i s) (hB : NB (aW s) np nt) (hu : u < i ∨ i + 119 ≤ u) (ho : mK h u = 13 ∧ mL h u = 1) : CTW x sL_setOutput hL_setOutput [.ref i, .int t, .int p, .int v, .ref u] h (pI (wrP (qArc s np nt 108 p t v) h i u)) xNo := by
  refine CTW_of (o := 6) rfl (by decide) (by simp [Value.category, sL_setOutput]) ?_
  show MG x sL_setOutput 6 (XH hL_setOutput) _ _ 0 (3, 18) [.ref i, .int t, .int p, .int v, .ref u, .null] [] h
  refine G_aload (k := 4) (by decide +kernel) ?_
  refine G_iconst (n := 0) (by decide +kernel) ?_
  refine G_aload_n (k := 0) (by decide +kernel) ?_
  refine G_iload_n (k := 1) (by decide +kernel) ?_
  refine G_iload_n (k := 2) (by decide +kernel) ?_
  refine G_iload_n (k := 3) (by decide +kernel) ?_
  have hH : hdO sL_setOutput hL_setOutput 7 [.ref i, .int t, .int p, .int v, .ref u, .null] [eIB, eIA] := fun n E hE => match n, hE with
    | 0, hE => by
      cases hE
      exact ⟨[], ⟨0, 12, 15, 19⟩, [⟨0, 12, 19, 13⟩], 5, 2, 1, rfl, (fun _ hy => nomatch hy), by decide, by decide, lkIB, csIB, ⟨by decide, by show okSt _ _; first | rfl | trivial | decide, Or.inr ⟨rfl, by decide +kernel⟩⟩, by decide +kernel, rfl, by decide +kernel⟩
    | 1, hE => by
      cases hE
      exact ⟨[⟨0, 12, 15, 19⟩], ⟨0, 12, 19, 13⟩, [], 5, 2, 2, rfl, List.forall_mem_cons.mpr ⟨Or.inr ⟨by decide, eIB, lkIB, by decide⟩, (fun _ hy => nomatch hy)⟩, by decide, by decide, lkIA, csIA, ⟨by decide, by show okSt _ _; first | rfl | trivial | decide, Or.inr ⟨rfl, by decide +kernel⟩⟩, by decide +kernel, rfl, by decide +kernel⟩
    | n + 2, hE => by cases hE
  exact w_core (As := [.int t, .int p, .int v]) (y := sX4_setOutput) (k := 30) (of := 11) (E := 23) rfl rfl rfl rfl (Or.inl ⟨by decide, hP.1.1⟩) in_X4_setOutput (by decide) (by decide) (Nat.le_refl _) (Nat.le_refl _) (c_setOutput hP hB) hH hu ho (by decide +kernel) (by decide +kernel) (by decide +kernel) (by decide +kernel) rfl (by decide +kernel) (by decide +kernel)
def sL_setInhibitor : MS := (⟨"PetriNetLaw", "setInhibitor", "(LPetriNet;III[J)I"⟩, method_8_code, 6, some .int, 5, 99, 8, 3, 18)
def hL_setInhibitor : List (Nat × Nat × Nat × Nat) := [(0, 12, 15, 19), (0, 12, 19, 13)]
set_option maxRecDepth 100000 in
theorem okL_setInhibitor : okLW sL_setInhibitor hL_setInhibitor 156 := ⟨ws_of 778 rfl rfl, ws_of 0 (by decide +kernel) (by decide +kernel), ⟨by decide +kernel, by decide +kernel⟩, by decide +kernel, ws_of 777 (by decide +kernel) (by decide +kernel), ws_of 776 (by decide +kernel) (by decide +kernel)⟩
theorem w_setInhibitor {x : CX} {h : MH} {i u np nt : Nat} {s : AS} {p t v : Int32} (hP : PO h i s) (hB : NB (aW s) np nt) (hu : u < i ∨ i + 119 ≤ u) (ho : mK h u = 13 ∧ mL h u = 1) : CTW x sL_setInhibitor hL_setInhibitor [.ref i, .int p, .int t, .int v, .ref u] h (pI (wrP (qArc s np nt 188 p t v) h i u)) xNo := by
  refine CTW_of (o := 6) rfl (by decide) (by simp [Value.category, sL_setInhibitor]) ?_
  show MG x sL_setInhibitor 6 (XH hL_setInhibitor) _ _ 0 (3, 18) [.ref i, .int p, .int t, .int v, .ref u, .null] [] h
  refine G_aload (k := 4) (by decide +kernel) ?_
  refine G_iconst (n := 0) (by decide +kernel) ?_
  refine G_aload_n (k := 0) (by decide +kernel) ?_
  refine G_iload_n (k := 1) (by decide +kernel) ?_
  refine G_iload_n (k := 2) (by decide +kernel) ?_
  refine G_iload_n (k := 3) (by decide +kernel) ?_
  have hH : hdO sL_setInhibitor hL_setInhibitor 7 [.ref i, .int p, .int t, .int v, .ref u, .null] [eIB, eIA] := fun n E hE => match n, hE with
    | 0, hE => by
      cases hE
      exact ⟨[], ⟨0, 12, 15, 19⟩, [⟨0, 12, 19, 13⟩], 5, 2, 1, rfl, (fun _ hy => nomatch hy), by decide, by decide, lkIB, csIB, ⟨by decide, by show okSt _ _; first | rfl | trivial | decide, Or.inr ⟨rfl, by decide +kernel⟩⟩, by decide +kernel, rfl, by decide +kernel⟩
    | 1, hE => by
      cases hE
      exact ⟨[⟨0, 12, 15, 19⟩], ⟨0, 12, 19, 13⟩, [], 5, 2, 2, rfl, List.forall_mem_cons.mpr ⟨Or.inr ⟨by decide, eIB, lkIB, by decide⟩, (fun _ hy => nomatch hy)⟩, by decide, by decide, lkIA, csIA, ⟨by decide, by show okSt _ _; first | rfl | trivial | decide, Or.inr ⟨rfl, by decide +kernel⟩⟩, by decide +kernel, rfl, by decide +kernel⟩
    | n + 2, hE => by cases hE
  exact w_core (As := [.int p, .int t, .int v]) (y := sX4_setInhibitor) (k := 33) (of := 11) (E := 23) rfl rfl rfl rfl (Or.inl ⟨by decide, hP.1.1⟩) in_X4_setInhibitor (by decide) (by decide) (Nat.le_refl _) (Nat.le_refl _) (c_setInhibitor hP hB) hH hu ho (by decide +kernel) (by decide +kernel) (by decide +kernel) (by decide +kernel) rfl (by decide +kernel) (by decide +kernel)
def sL_fire : MS := (⟨"PetriNetLaw", "fire", "(LPetriNet;I[J)I"⟩, method_9_code, 4, some .int, 3, 99, 7, 2, 12)
def hL_fire : List (Nat × Nat × Nat × Nat) := [(0, 9, 12, 19), (0, 9, 15, 24)]
set_option maxRecDepth 100000 in
theorem okL_fire : okLW sL_fire hL_fire 159 := ⟨ws_of 785 rfl rfl, ws_of 0 (by decide +kernel) (by decide +kernel), ⟨by decide +kernel, by decide +kernel⟩, by decide +kernel, ws_of 784 (by decide +kernel) (by decide +kernel), ws_of 783 (by decide +kernel) (by decide +kernel)⟩
theorem w_fire {x : CX} {h : MH} {i u np nt : Nat} {s : AS} {t : Int32} (hP : PO h i s) (hB : NB (aW s) np nt) (hu : u < i ∨ i + 119 ≤ u) (ho : mK h u = 13 ∧ mL h u = 1) : CTW x sL_fire hL_fire [.ref i, .int t, .ref u] h (pI (wrP (qFire s np nt t) h i u)) xNo := by
  refine CTW_of (o := 6) rfl (by decide) (by simp [Value.category, sL_fire]) ?_
  show MG x sL_fire 6 (XH hL_fire) _ _ 0 (2, 12) [.ref i, .int t, .ref u, .null] [] h
  refine G_aload_n (k := 2) (by decide +kernel) ?_
  refine G_iconst (n := 0) (by decide +kernel) ?_
  refine G_aload_n (k := 0) (by decide +kernel) ?_
  refine G_iload_n (k := 1) (by decide +kernel) ?_
  have hH : hdO sL_fire hL_fire 4 [.ref i, .int t, .ref u, .null] [eIB, eIS] := fun n E hE => match n, hE with
    | 0, hE => by
      cases hE
      exact ⟨[], ⟨0, 9, 12, 19⟩, [⟨0, 9, 15, 24⟩], 3, 1, 1, rfl, (fun _ hy => nomatch hy), by decide, by decide, lkIB, csIB, ⟨by decide, by show okSt _ _; first | rfl | trivial | decide, Or.inl ⟨rfl, 3, rfl, by decide +kernel⟩⟩, by decide +kernel, rfl, by decide +kernel⟩
    | 1, hE => by
      cases hE
      exact ⟨[⟨0, 9, 12, 19⟩], ⟨0, 9, 15, 24⟩, [], 3, 1, 2, rfl, List.forall_mem_cons.mpr ⟨Or.inr ⟨by decide, eIB, lkIB, by decide⟩, (fun _ hy => nomatch hy)⟩, by decide, by decide, lkIS, csIS, ⟨by decide, by show okSt _ _; first | rfl | trivial | decide, Or.inl ⟨rfl, 3, rfl, by decide +kernel⟩⟩, by decide +kernel, rfl, by decide +kernel⟩
    | n + 2, hE => by cases hE
  exact w_core (As := [.int t]) (y := sX4_fire) (k := 36) (of := 9) (E := 18) rfl rfl rfl rfl (Or.inl ⟨by decide, hP.1.1⟩) in_X4_fire (by decide) (by decide) (Nat.le_refl _) (Nat.le_refl _) (c_fire hP hB) hH hu ho (by decide +kernel) (by decide +kernel) (by decide +kernel) (by decide +kernel) rfl (by decide +kernel) (by decide +kernel)
def sL_run : MS := (⟨"PetriNetLaw", "run", "(LPetriNet;I[J)I"⟩, method_10_code, 4, some .int, 3, 99, 7, 1, 6)
def hL_run : List (Nat × Nat × Nat × Nat) := [(0, 9, 12, 13)]
set_option maxRecDepth 100000 in
theorem okL_run : okLW sL_run hL_run 162 := ⟨ws_of 794 rfl rfl, ws_of 0 (by decide +kernel) (by decide +kernel), ⟨by decide +kernel, by decide +kernel⟩, by decide +kernel, ws_of 793 (by decide +kernel) (by decide +kernel), ws_of 792 (by decide +kernel) (by decide +kernel)⟩
theorem w_run {x : CX} {h : MH} {i u np nt : Nat} {s : AS} {v : Int32} (hP : PO h i s) (hB : NB (aW s) np nt) (hu : u < i ∨ i + 119 ≤ u) (ho : mK h u = 13 ∧ mL h u = 1) : CTW x sL_run hL_run [.ref i, .int v, .ref u] h (pI (wrP (qRun s np nt v) h i u)) xNo := by
  refine CTW_of (o := 6) rfl (by decide) (by simp [Value.category, sL_run]) ?_
  show MG x sL_run 6 (XH hL_run) _ _ 0 (1, 6) [.ref i, .int v, .ref u, .null] [] h
  refine G_aload_n (k := 2) (by decide +kernel) ?_
  refine G_iconst (n := 0) (by decide +kernel) ?_
  refine G_aload_n (k := 0) (by decide +kernel) ?_
  refine G_iload_n (k := 1) (by decide +kernel) ?_
  have hH : hdO sL_run hL_run 4 [.ref i, .int v, .ref u, .null] [eIA] := fun n E hE => match n, hE with
    | 0, hE => by
      cases hE
      exact ⟨[], ⟨0, 9, 12, 13⟩, [], 3, 1, 1, rfl, (fun _ hy => nomatch hy), by decide, by decide, lkIA, csIA, ⟨by decide, by show okSt _ _; first | rfl | trivial | decide, Or.inl ⟨rfl, 3, rfl, by decide +kernel⟩⟩, by decide +kernel, rfl, by decide +kernel⟩
    | n + 1, hE => by cases hE
  exact w_core (As := [.int v]) (y := sX4_run) (k := 39) (of := 6) (E := 15) rfl rfl rfl rfl (Or.inl ⟨by decide, hP.1.1⟩) in_X4_run (by decide) (by decide) (Nat.le_refl _) (Nat.le_refl _) (c_run hP hB) hH hu ho (by decide +kernel) (by decide +kernel) (by decide +kernel) (by decide +kernel) rfl (by decide +kernel) (by decide +kernel)
def sL_moveToMarking : MS := (⟨"PetriNetLaw", "moveToMarking", "(LPetriNet;I[J)I"⟩, method_11_code, 4, some .int, 3, 99, 7, 1, 6)
def hL_moveToMarking : List (Nat × Nat × Nat × Nat) := [(0, 9, 12, 45)]
set_option maxRecDepth 100000 in
theorem okL_moveToMarking : okLW sL_moveToMarking hL_moveToMarking 165 := ⟨ws_of 801 rfl rfl, ws_of 0 (by decide +kernel) (by decide +kernel), ⟨by decide +kernel, by decide +kernel⟩, by decide +kernel, ws_of 800 (by decide +kernel) (by decide +kernel), ws_of 799 (by decide +kernel) (by decide +kernel)⟩
theorem w_moveToMarking {x : CX} {h : MH} {i u np nt : Nat} {s : AS} {v : Int32} (hP : PO h i s) (hB : NB (aW s) np nt) (hu : u < i ∨ i + 119 ≤ u) (ho : mK h u = 13 ∧ mL h u = 1) : CTW x sL_moveToMarking hL_moveToMarking [.ref i, .int v, .ref u] h (pI (wrP (qMM s np nt v) h i u)) xNo := by
  refine CTW_of (o := 6) rfl (by decide) (by simp [Value.category, sL_moveToMarking]) ?_
  show MG x sL_moveToMarking 6 (XH hL_moveToMarking) _ _ 0 (1, 6) [.ref i, .int v, .ref u, .null] [] h
  refine G_aload_n (k := 2) (by decide +kernel) ?_
  refine G_iconst (n := 0) (by decide +kernel) ?_
  refine G_aload_n (k := 0) (by decide +kernel) ?_
  refine G_iload_n (k := 1) (by decide +kernel) ?_
  have hH : hdO sL_moveToMarking hL_moveToMarking 4 [.ref i, .int v, .ref u, .null] [eNE] := fun n E hE => match n, hE with
    | 0, hE => by
      cases hE
      exact ⟨[], ⟨0, 9, 12, 45⟩, [], 3, 1, 1, rfl, (fun _ hy => nomatch hy), by decide, by decide, lkNE, csNE, ⟨by decide, by show okSt _ _; first | rfl | trivial | decide, Or.inl ⟨rfl, 3, rfl, by decide +kernel⟩⟩, by decide +kernel, rfl, by decide +kernel⟩
    | n + 1, hE => by cases hE
  exact w_core (As := [.int v]) (y := sX4_moveToMarking) (k := 42) (of := 6) (E := 15) rfl rfl rfl rfl (Or.inl ⟨by decide, hP.1.1⟩) in_X4_moveToMarking (by decide) (by decide) (Nat.le_refl _) (Nat.le_refl _) (c_moveToMarking hP hB) hH hu ho (by decide +kernel) (by decide +kernel) (by decide +kernel) (by decide +kernel) rfl (by decide +kernel) (by decide +kernel)
def sL_restoreSnapshot : MS := (⟨"PetriNetLaw", "restoreSnapshot", "(LPetriNet;[J)I"⟩, method_12_code, 3, some .int, 2, 99, 6, 1, 6)
def hL_restoreSnapshot : List (Nat × Nat × Nat × Nat) := [(0, 8, 11, 45)]
set_option maxRecDepth 100000 in
theorem okL_restoreSnapshot : okLW sL_restoreSnapshot hL_restoreSnapshot 184 := ⟨ws_of 829 rfl rfl, ws_of 0 (by decide +kernel) (by decide +kernel), ⟨by decide +kernel, by decide +kernel⟩, by decide +kernel, ws_of 828 (by decide +kernel) (by decide +kernel), ws_of 827 (by decide +kernel) (by decide +kernel)⟩
theorem w_restoreSnapshot {x : CX} {h : MH} {i u : Nat} {s : AS} (hP : PO h i s) (hG : aH s → ∃ np nt, NB (aS s) np nt) (hu : u < i ∨ i + 119 ≤ u) (ho : mK h u = 13 ∧ mL h u = 1) : CTW x sL_restoreSnapshot hL_restoreSnapshot [.ref i, .ref u] h (pI (wrP (qRes s) h i u)) xNo := by
  refine CTW_of (o := 6) rfl (by decide) (by simp [Value.category, sL_restoreSnapshot]) ?_
  show MG x sL_restoreSnapshot 6 (XH hL_restoreSnapshot) _ _ 0 (1, 6) [.ref i, .ref u, .null] [] h
  refine G_aload_n (k := 1) (by decide +kernel) ?_
  refine G_iconst (n := 0) (by decide +kernel) ?_
  refine G_aload_n (k := 0) (by decide +kernel) ?_
  have hH : hdO sL_restoreSnapshot hL_restoreSnapshot 3 [.ref i, .ref u, .null] [eNE] := fun n E hE => match n, hE with
    | 0, hE => by
      cases hE
      exact ⟨[], ⟨0, 8, 11, 45⟩, [], 2, 1, 1, rfl, (fun _ hy => nomatch hy), by decide, by decide, lkNE, csNE, ⟨by decide, by show okSt _ _; first | rfl | trivial | decide, Or.inl ⟨rfl, 2, rfl, by decide +kernel⟩⟩, by decide +kernel, rfl, by decide +kernel⟩
    | n + 1, hE => by cases hE
  exact w_core (As := []) (y := sX4_restoreSnapshot) (k := 47) (of := 6) (E := 14) rfl rfl rfl rfl (Or.inl ⟨by decide, hP.1.1⟩) in_X4_restoreSnapshot (by decide) (by decide) (Nat.le_refl _) (Nat.le_refl _) (c_restoreSnapshot hP hG) hH hu ho (by decide +kernel) (by decide +kernel) (by decide +kernel) (by decide +kernel) rfl (by decide +kernel) (by decide +kernel)
def sL_tokens : MS := (⟨"PetriNetLaw", "tokens", "(LPetriNet;I[J)I"⟩, method_13_code, 4, some .int, 3, 99, 7, 1, 6)
def hL_tokens : List (Nat × Nat × Nat × Nat) := [(0, 9, 12, 19)]
set_option maxRecDepth 100000 in
theorem okL_tokens : okLW sL_tokens hL_tokens 204 := ⟨ws_of 841 rfl rfl, ws_of 0 (by decide +kernel) (by decide +kernel), ⟨by decide +kernel, by decide +kernel⟩, by decide +kernel, ws_of 840 (by decide +kernel) (by decide +kernel), ws_of 839 (by decide +kernel) (by decide +kernel)⟩
theorem w_tokens {x : CX} {h : MH} {i u np nt : Nat} {s : AS} {v : Int32} (hP : PO h i s) (hB : NB (aW s) np nt) (hu : u < i ∨ i + 119 ≤ u) (ho : mK h u = 13 ∧ mL h u = 1) : CTW x sL_tokens hL_tokens [.ref i, .int v, .ref u] h (pI (wrP (qTok s np v) h i u)) xNo := by
  refine CTW_of (o := 6) rfl (by decide) (by simp [Value.category, sL_tokens]) ?_
  show MG x sL_tokens 6 (XH hL_tokens) _ _ 0 (1, 6) [.ref i, .int v, .ref u, .null] [] h
  refine G_aload_n (k := 2) (by decide +kernel) ?_
  refine G_iconst (n := 0) (by decide +kernel) ?_
  refine G_aload_n (k := 0) (by decide +kernel) ?_
  refine G_iload_n (k := 1) (by decide +kernel) ?_
  have hH : hdO sL_tokens hL_tokens 4 [.ref i, .int v, .ref u, .null] [eIB] := fun n E hE => match n, hE with
    | 0, hE => by
      cases hE
      exact ⟨[], ⟨0, 9, 12, 19⟩, [], 3, 1, 1, rfl, (fun _ hy => nomatch hy), by decide, by decide, lkIB, csIB, ⟨by decide, by show okSt _ _; first | rfl | trivial | decide, Or.inl ⟨rfl, 3, rfl, by decide +kernel⟩⟩, by decide +kernel, rfl, by decide +kernel⟩
    | n + 1, hE => by cases hE
  exact w_core (As := [.int v]) (y := sX4_tokens) (k := 51) (of := 6) (E := 15) rfl rfl rfl rfl (Or.inl ⟨by decide, hP.1.1⟩) in_X4_tokens (by decide) (by decide) (Nat.le_refl _) (Nat.le_refl _) (c_tokens hP hB) hH hu ho (by decide +kernel) (by decide +kernel) (by decide +kernel) (by decide +kernel) rfl (by decide +kernel) (by decide +kernel)
def sL_capacity : MS := (⟨"PetriNetLaw", "capacity", "(LPetriNet;I[J)I"⟩, method_14_code, 4, some .int, 3, 99, 7, 1, 6)
def hL_capacity : List (Nat × Nat × Nat × Nat) := [(0, 9, 12, 19)]
set_option maxRecDepth 100000 in
theorem okL_capacity : okLW sL_capacity hL_capacity 207 := ⟨ws_of 848 rfl rfl, ws_of 0 (by decide +kernel) (by decide +kernel), ⟨by decide +kernel, by decide +kernel⟩, by decide +kernel, ws_of 847 (by decide +kernel) (by decide +kernel), ws_of 846 (by decide +kernel) (by decide +kernel)⟩
theorem w_capacity {x : CX} {h : MH} {i u np nt : Nat} {s : AS} {v : Int32} (hP : PO h i s) (hB : NB (aW s) np nt) (hu : u < i ∨ i + 119 ≤ u) (ho : mK h u = 13 ∧ mL h u = 1) : CTW x sL_capacity hL_capacity [.ref i, .int v, .ref u] h (pI (wrP (qCap s np v) h i u)) xNo := by
  refine CTW_of (o := 6) rfl (by decide) (by simp [Value.category, sL_capacity]) ?_
  show MG x sL_capacity 6 (XH hL_capacity) _ _ 0 (1, 6) [.ref i, .int v, .ref u, .null] [] h
  refine G_aload_n (k := 2) (by decide +kernel) ?_
  refine G_iconst (n := 0) (by decide +kernel) ?_
  refine G_aload_n (k := 0) (by decide +kernel) ?_
  refine G_iload_n (k := 1) (by decide +kernel) ?_
  have hH : hdO sL_capacity hL_capacity 4 [.ref i, .int v, .ref u, .null] [eIB] := fun n E hE => match n, hE with
    | 0, hE => by
      cases hE
      exact ⟨[], ⟨0, 9, 12, 19⟩, [], 3, 1, 1, rfl, (fun _ hy => nomatch hy), by decide, by decide, lkIB, csIB, ⟨by decide, by show okSt _ _; first | rfl | trivial | decide, Or.inl ⟨rfl, 3, rfl, by decide +kernel⟩⟩, by decide +kernel, rfl, by decide +kernel⟩
    | n + 1, hE => by cases hE
  exact w_core (As := [.int v]) (y := sX4_capacity) (k := 54) (of := 6) (E := 15) rfl rfl rfl rfl (Or.inl ⟨by decide, hP.1.1⟩) in_X4_capacity (by decide) (by decide) (Nat.le_refl _) (Nat.le_refl _) (c_capacity hP hB) hH hu ho (by decide +kernel) (by decide +kernel) (by decide +kernel) (by decide +kernel) rfl (by decide +kernel) (by decide +kernel)
def sL_effect : MS := (⟨"PetriNetLaw", "effect", "(LPetriNet;II[J)I"⟩, method_15_code, 5, some .int, 4, 99, 7, 2, 12)
def hL_effect : List (Nat × Nat × Nat × Nat) := [(0, 10, 13, 19)]
set_option maxRecDepth 100000 in
theorem okL_effect : okLW sL_effect hL_effect 210 := ⟨ws_of 855 rfl rfl, ws_of 0 (by decide +kernel) (by decide +kernel), ⟨by decide +kernel, by decide +kernel⟩, by decide +kernel, ws_of 854 (by decide +kernel) (by decide +kernel), ws_of 853 (by decide +kernel) (by decide +kernel)⟩
theorem w_effect {x : CX} {h : MH} {i u np nt : Nat} {s : AS} {t p : Int32} (hP : PO h i s) (hB : NB (aW s) np nt) (hu : u < i ∨ i + 119 ≤ u) (ho : mK h u = 13 ∧ mL h u = 1) : CTW x sL_effect hL_effect [.ref i, .int t, .int p, .ref u] h (pI (wrP (qEff s np nt t p) h i u)) xNo := by
  refine CTW_of (o := 6) rfl (by decide) (by simp [Value.category, sL_effect]) ?_
  show MG x sL_effect 6 (XH hL_effect) _ _ 0 (2, 12) [.ref i, .int t, .int p, .ref u, .null] [] h
  refine G_aload_n (k := 3) (by decide +kernel) ?_
  refine G_iconst (n := 0) (by decide +kernel) ?_
  refine G_aload_n (k := 0) (by decide +kernel) ?_
  refine G_iload_n (k := 1) (by decide +kernel) ?_
  refine G_iload_n (k := 2) (by decide +kernel) ?_
  have hH : hdO sL_effect hL_effect 5 [.ref i, .int t, .int p, .ref u, .null] [eIB] := fun n E hE => match n, hE with
    | 0, hE => by
      cases hE
      exact ⟨[], ⟨0, 10, 13, 19⟩, [], 4, 2, 1, rfl, (fun _ hy => nomatch hy), by decide, by decide, lkIB, csIB, ⟨by decide, by show okSt _ _; first | rfl | trivial | decide, Or.inr ⟨rfl, by decide +kernel⟩⟩, by decide +kernel, rfl, by decide +kernel⟩
    | n + 1, hE => by cases hE
  exact w_core (As := [.int t, .int p]) (y := sX4_effect) (k := 57) (of := 7) (E := 17) rfl rfl rfl rfl (Or.inl ⟨by decide, hP.1.1⟩) in_X4_effect (by decide) (by decide) (Nat.le_refl _) (Nat.le_refl _) (c_effect hP hB) hH hu ho (by decide +kernel) (by decide +kernel) (by decide +kernel) (by decide +kernel) rfl (by decide +kernel) (by decide +kernel)
def sL_inputPlaces : MS := (⟨"PetriNetLaw", "inputPlaces", "(LPetriNet;I[J)I"⟩, method_16_code, 4, some .int, 3, 99, 7, 1, 6)
def hL_inputPlaces : List (Nat × Nat × Nat × Nat) := [(0, 9, 12, 19)]
set_option maxRecDepth 100000 in
theorem okL_inputPlaces : okLW sL_inputPlaces hL_inputPlaces 217 := ⟨ws_of 863 rfl rfl, ws_of 0 (by decide +kernel) (by decide +kernel), ⟨by decide +kernel, by decide +kernel⟩, by decide +kernel, ws_of 862 (by decide +kernel) (by decide +kernel), ws_of 861 (by decide +kernel) (by decide +kernel)⟩
theorem w_inputPlaces {x : CX} {h : MH} {i u np nt : Nat} {s : AS} {t : Int32} (hP : PO h i s) (hB : NB (aW s) np nt) (hu : u < i ∨ i + 119 ≤ u) (ho : mK h u = 13 ∧ mL h u = 1) : CTW x sL_inputPlaces hL_inputPlaces [.ref i, .int t, .ref u] h (pI (wrP (qPl s np nt 28 t) h i u)) xNo := by
  refine CTW_of (o := 6) rfl (by decide) (by simp [Value.category, sL_inputPlaces]) ?_
  show MG x sL_inputPlaces 6 (XH hL_inputPlaces) _ _ 0 (1, 6) [.ref i, .int t, .ref u, .null] [] h
  refine G_aload_n (k := 2) (by decide +kernel) ?_
  refine G_iconst (n := 0) (by decide +kernel) ?_
  refine G_aload_n (k := 0) (by decide +kernel) ?_
  refine G_iload_n (k := 1) (by decide +kernel) ?_
  have hH : hdO sL_inputPlaces hL_inputPlaces 4 [.ref i, .int t, .ref u, .null] [eIB] := fun n E hE => match n, hE with
    | 0, hE => by
      cases hE
      exact ⟨[], ⟨0, 9, 12, 19⟩, [], 3, 1, 1, rfl, (fun _ hy => nomatch hy), by decide, by decide, lkIB, csIB, ⟨by decide, by show okSt _ _; first | rfl | trivial | decide, Or.inl ⟨rfl, 3, rfl, by decide +kernel⟩⟩, by decide +kernel, rfl, by decide +kernel⟩
    | n + 1, hE => by cases hE
  exact w_core (As := [.int t]) (y := sX4_inputPlaces) (k := 60) (of := 6) (E := 15) rfl rfl rfl rfl (Or.inl ⟨by decide, hP.1.1⟩) in_X4_inputPlaces (by decide) (by decide) (Nat.le_refl _) (Nat.le_refl _) (c_inputPlaces hP hB) hH hu ho (by decide +kernel) (by decide +kernel) (by decide +kernel) (by decide +kernel) rfl (by decide +kernel) (by decide +kernel)
def sL_outputPlaces : MS := (⟨"PetriNetLaw", "outputPlaces", "(LPetriNet;I[J)I"⟩, method_17_code, 4, some .int, 3, 99, 7, 1, 6)
def hL_outputPlaces : List (Nat × Nat × Nat × Nat) := [(0, 9, 12, 19)]
set_option maxRecDepth 100000 in
theorem okL_outputPlaces : okLW sL_outputPlaces hL_outputPlaces 220 := ⟨ws_of 875 rfl rfl, ws_of 0 (by decide +kernel) (by decide +kernel), ⟨by decide +kernel, by decide +kernel⟩, by decide +kernel, ws_of 874 (by decide +kernel) (by decide +kernel), ws_of 873 (by decide +kernel) (by decide +kernel)⟩
theorem w_outputPlaces {x : CX} {h : MH} {i u np nt : Nat} {s : AS} {t : Int32} (hP : PO h i s) (hB : NB (aW s) np nt) (hu : u < i ∨ i + 119 ≤ u) (ho : mK h u = 13 ∧ mL h u = 1) : CTW x sL_outputPlaces hL_outputPlaces [.ref i, .int t, .ref u] h (pI (wrP (qPl s np nt 108 t) h i u)) xNo := by
  refine CTW_of (o := 6) rfl (by decide) (by simp [Value.category, sL_outputPlaces]) ?_
  show MG x sL_outputPlaces 6 (XH hL_outputPlaces) _ _ 0 (1, 6) [.ref i, .int t, .ref u, .null] [] h
  refine G_aload_n (k := 2) (by decide +kernel) ?_
  refine G_iconst (n := 0) (by decide +kernel) ?_
  refine G_aload_n (k := 0) (by decide +kernel) ?_
  refine G_iload_n (k := 1) (by decide +kernel) ?_
  have hH : hdO sL_outputPlaces hL_outputPlaces 4 [.ref i, .int t, .ref u, .null] [eIB] := fun n E hE => match n, hE with
    | 0, hE => by
      cases hE
      exact ⟨[], ⟨0, 9, 12, 19⟩, [], 3, 1, 1, rfl, (fun _ hy => nomatch hy), by decide, by decide, lkIB, csIB, ⟨by decide, by show okSt _ _; first | rfl | trivial | decide, Or.inl ⟨rfl, 3, rfl, by decide +kernel⟩⟩, by decide +kernel, rfl, by decide +kernel⟩
    | n + 1, hE => by cases hE
  exact w_core (As := [.int t]) (y := sX4_outputPlaces) (k := 63) (of := 6) (E := 15) rfl rfl rfl rfl (Or.inl ⟨by decide, hP.1.1⟩) in_X4_outputPlaces (by decide) (by decide) (Nat.le_refl _) (Nat.le_refl _) (c_outputPlaces hP hB) hH hu ho (by decide +kernel) (by decide +kernel) (by decide +kernel) (by decide +kernel) rfl (by decide +kernel) (by decide +kernel)
def sL_consumers : MS := (⟨"PetriNetLaw", "consumers", "(LPetriNet;I[J)I"⟩, method_18_code, 4, some .int, 3, 99, 7, 1, 6)
def hL_consumers : List (Nat × Nat × Nat × Nat) := [(0, 9, 12, 19)]
set_option maxRecDepth 100000 in
theorem okL_consumers : okLW sL_consumers hL_consumers 223 := ⟨ws_of 882 rfl rfl, ws_of 0 (by decide +kernel) (by decide +kernel), ⟨by decide +kernel, by decide +kernel⟩, by decide +kernel, ws_of 881 (by decide +kernel) (by decide +kernel), ws_of 880 (by decide +kernel) (by decide +kernel)⟩
theorem w_consumers {x : CX} {h : MH} {i u np nt : Nat} {s : AS} {p : Int32} (hP : PO h i s) (hB : NB (aW s) np nt) (hu : u < i ∨ i + 119 ≤ u) (ho : mK h u = 13 ∧ mL h u = 1) : CTW x sL_consumers hL_consumers [.ref i, .int p, .ref u] h (pI (wrP (qCon s np nt p) h i u)) xNo := by
  refine CTW_of (o := 6) rfl (by decide) (by simp [Value.category, sL_consumers]) ?_
  show MG x sL_consumers 6 (XH hL_consumers) _ _ 0 (1, 6) [.ref i, .int p, .ref u, .null] [] h
  refine G_aload_n (k := 2) (by decide +kernel) ?_
  refine G_iconst (n := 0) (by decide +kernel) ?_
  refine G_aload_n (k := 0) (by decide +kernel) ?_
  refine G_iload_n (k := 1) (by decide +kernel) ?_
  have hH : hdO sL_consumers hL_consumers 4 [.ref i, .int p, .ref u, .null] [eIB] := fun n E hE => match n, hE with
    | 0, hE => by
      cases hE
      exact ⟨[], ⟨0, 9, 12, 19⟩, [], 3, 1, 1, rfl, (fun _ hy => nomatch hy), by decide, by decide, lkIB, csIB, ⟨by decide, by show okSt _ _; first | rfl | trivial | decide, Or.inl ⟨rfl, 3, rfl, by decide +kernel⟩⟩, by decide +kernel, rfl, by decide +kernel⟩
    | n + 1, hE => by cases hE
  exact w_core (As := [.int p]) (y := sX4_consumers) (k := 66) (of := 6) (E := 15) rfl rfl rfl rfl (Or.inl ⟨by decide, hP.1.1⟩) in_X4_consumers (by decide) (by decide) (Nat.le_refl _) (Nat.le_refl _) (c_consumers hP hB) hH hu ho (by decide +kernel) (by decide +kernel) (by decide +kernel) (by decide +kernel) rfl (by decide +kernel) (by decide +kernel)
def sL_whyNotEnabled : MS := (⟨"PetriNetLaw", "whyNotEnabled", "(LPetriNet;I[J)I"⟩, method_19_code, 4, some .int, 3, 99, 7, 1, 6)
def hL_whyNotEnabled : List (Nat × Nat × Nat × Nat) := [(0, 9, 12, 19)]
set_option maxRecDepth 100000 in
theorem okL_whyNotEnabled : okLW sL_whyNotEnabled hL_whyNotEnabled 226 := ⟨ws_of 889 rfl rfl, ws_of 0 (by decide +kernel) (by decide +kernel), ⟨by decide +kernel, by decide +kernel⟩, by decide +kernel, ws_of 888 (by decide +kernel) (by decide +kernel), ws_of 887 (by decide +kernel) (by decide +kernel)⟩
theorem w_whyNotEnabled {x : CX} {h : MH} {i u np nt : Nat} {s : AS} {t : Int32} (hP : PO h i s) (hB : NB (aW s) np nt) (hu : u < i ∨ i + 119 ≤ u) (ho : mK h u = 13 ∧ mL h u = 1) : CTW x sL_whyNotEnabled hL_whyNotEnabled [.ref i, .int t, .ref u] h (pI (wrP (qWhy s np nt t) h i u)) xNo := by
  refine CTW_of (o := 6) rfl (by decide) (by simp [Value.category, sL_whyNotEnabled]) ?_
  show MG x sL_whyNotEnabled 6 (XH hL_whyNotEnabled) _ _ 0 (1, 6) [.ref i, .int t, .ref u, .null] [] h
  refine G_aload_n (k := 2) (by decide +kernel) ?_
  refine G_iconst (n := 0) (by decide +kernel) ?_
  refine G_aload_n (k := 0) (by decide +kernel) ?_
  refine G_iload_n (k := 1) (by decide +kernel) ?_
  have hH : hdO sL_whyNotEnabled hL_whyNotEnabled 4 [.ref i, .int t, .ref u, .null] [eIB] := fun n E hE => match n, hE with
    | 0, hE => by
      cases hE
      exact ⟨[], ⟨0, 9, 12, 19⟩, [], 3, 1, 1, rfl, (fun _ hy => nomatch hy), by decide, by decide, lkIB, csIB, ⟨by decide, by show okSt _ _; first | rfl | trivial | decide, Or.inl ⟨rfl, 3, rfl, by decide +kernel⟩⟩, by decide +kernel, rfl, by decide +kernel⟩
    | n + 1, hE => by cases hE
  exact w_core (As := [.int t]) (y := sX4_whyNotEnabled) (k := 69) (of := 6) (E := 15) rfl rfl rfl rfl (Or.inl ⟨by decide, hP.1.1⟩) in_X4_whyNotEnabled (by decide) (by decide) (Nat.le_refl _) (Nat.le_refl _) (c_whyNotEnabled hP hB) hH hu ho (by decide +kernel) (by decide +kernel) (by decide +kernel) (by decide +kernel) rfl (by decide +kernel) (by decide +kernel)
def sL_blockingPlace : MS := (⟨"PetriNetLaw", "blockingPlace", "(LPetriNet;I[J)I"⟩, method_20_code, 4, some .int, 3, 99, 7, 1, 6)
def hL_blockingPlace : List (Nat × Nat × Nat × Nat) := [(0, 9, 12, 19)]
set_option maxRecDepth 100000 in
theorem okL_blockingPlace : okLW sL_blockingPlace hL_blockingPlace 229 := ⟨ws_of 900 rfl rfl, ws_of 0 (by decide +kernel) (by decide +kernel), ⟨by decide +kernel, by decide +kernel⟩, by decide +kernel, ws_of 899 (by decide +kernel) (by decide +kernel), ws_of 898 (by decide +kernel) (by decide +kernel)⟩
theorem w_blockingPlace {x : CX} {h : MH} {i u np nt : Nat} {s : AS} {t : Int32} (hP : PO h i s) (hB : NB (aW s) np nt) (hu : u < i ∨ i + 119 ≤ u) (ho : mK h u = 13 ∧ mL h u = 1) : CTW x sL_blockingPlace hL_blockingPlace [.ref i, .int t, .ref u] h (pI (wrP (qBlk s np nt t) h i u)) xNo := by
  refine CTW_of (o := 6) rfl (by decide) (by simp [Value.category, sL_blockingPlace]) ?_
  show MG x sL_blockingPlace 6 (XH hL_blockingPlace) _ _ 0 (1, 6) [.ref i, .int t, .ref u, .null] [] h
  refine G_aload_n (k := 2) (by decide +kernel) ?_
  refine G_iconst (n := 0) (by decide +kernel) ?_
  refine G_aload_n (k := 0) (by decide +kernel) ?_
  refine G_iload_n (k := 1) (by decide +kernel) ?_
  have hH : hdO sL_blockingPlace hL_blockingPlace 4 [.ref i, .int t, .ref u, .null] [eIB] := fun n E hE => match n, hE with
    | 0, hE => by
      cases hE
      exact ⟨[], ⟨0, 9, 12, 19⟩, [], 3, 1, 1, rfl, (fun _ hy => nomatch hy), by decide, by decide, lkIB, csIB, ⟨by decide, by show okSt _ _; first | rfl | trivial | decide, Or.inl ⟨rfl, 3, rfl, by decide +kernel⟩⟩, by decide +kernel, rfl, by decide +kernel⟩
    | n + 1, hE => by cases hE
  exact w_core (As := [.int t]) (y := sX4_blockingPlace) (k := 72) (of := 6) (E := 15) rfl rfl rfl rfl (Or.inl ⟨by decide, hP.1.1⟩) in_X4_blockingPlace (by decide) (by decide) (Nat.le_refl _) (Nat.le_refl _) (c_blockingPlace hP hB) hH hu ho (by decide +kernel) (by decide +kernel) (by decide +kernel) (by decide +kernel) rfl (by decide +kernel) (by decide +kernel)
def sL_firings : MS := (⟨"PetriNetLaw", "firings", "(LPetriNet;I[J)I"⟩, method_21_code, 4, some .int, 3, 99, 7, 1, 6)
def hL_firings : List (Nat × Nat × Nat × Nat) := [(0, 9, 12, 19)]
set_option maxRecDepth 100000 in
theorem okL_firings : okLW sL_firings hL_firings 241 := ⟨ws_of 912 rfl rfl, ws_of 0 (by decide +kernel) (by decide +kernel), ⟨by decide +kernel, by decide +kernel⟩, by decide +kernel, ws_of 911 (by decide +kernel) (by decide +kernel), ws_of 910 (by decide +kernel) (by decide +kernel)⟩
theorem w_firings {x : CX} {h : MH} {i u np nt : Nat} {s : AS} {v : Int32} (hP : PO h i s) (hB : NB (aW s) np nt) (hu : u < i ∨ i + 119 ≤ u) (ho : mK h u = 13 ∧ mL h u = 1) : CTW x sL_firings hL_firings [.ref i, .int v, .ref u] h (pI (wrP (qFrd s nt v) h i u)) xNo := by
  refine CTW_of (o := 6) rfl (by decide) (by simp [Value.category, sL_firings]) ?_
  show MG x sL_firings 6 (XH hL_firings) _ _ 0 (1, 6) [.ref i, .int v, .ref u, .null] [] h
  refine G_aload_n (k := 2) (by decide +kernel) ?_
  refine G_iconst (n := 0) (by decide +kernel) ?_
  refine G_aload_n (k := 0) (by decide +kernel) ?_
  refine G_iload_n (k := 1) (by decide +kernel) ?_
  have hH : hdO sL_firings hL_firings 4 [.ref i, .int v, .ref u, .null] [eIB] := fun n E hE => match n, hE with
    | 0, hE => by
      cases hE
      exact ⟨[], ⟨0, 9, 12, 19⟩, [], 3, 1, 1, rfl, (fun _ hy => nomatch hy), by decide, by decide, lkIB, csIB, ⟨by decide, by show okSt _ _; first | rfl | trivial | decide, Or.inl ⟨rfl, 3, rfl, by decide +kernel⟩⟩, by decide +kernel, rfl, by decide +kernel⟩
    | n + 1, hE => by cases hE
  exact w_core (As := [.int v]) (y := sX4_firings) (k := 75) (of := 6) (E := 15) rfl rfl rfl rfl (Or.inl ⟨by decide, hP.1.1⟩) in_X4_firings (by decide) (by decide) (Nat.le_refl _) (Nat.le_refl _) (c_firings hP hB) hH hu ho (by decide +kernel) (by decide +kernel) (by decide +kernel) (by decide +kernel) rfl (by decide +kernel) (by decide +kernel)
def sL_firesInRow : MS := (⟨"PetriNetLaw", "firesInRow", "(LPetriNet;I[J)I"⟩, method_22_code, 4, some .int, 3, 99, 7, 1, 6)
def hL_firesInRow : List (Nat × Nat × Nat × Nat) := [(0, 9, 12, 19)]
set_option maxRecDepth 100000 in
theorem okL_firesInRow : okLW sL_firesInRow hL_firesInRow 248 := ⟨ws_of 919 rfl rfl, ws_of 0 (by decide +kernel) (by decide +kernel), ⟨by decide +kernel, by decide +kernel⟩, by decide +kernel, ws_of 918 (by decide +kernel) (by decide +kernel), ws_of 917 (by decide +kernel) (by decide +kernel)⟩
theorem w_firesInRow {x : CX} {h : MH} {i u np nt : Nat} {s : AS} {t : Int32} (hP : PO h i s) (hB : NB (aW s) np nt) (hu : u < i ∨ i + 119 ≤ u) (ho : mK h u = 13 ∧ mL h u = 1) : CTW x sL_firesInRow hL_firesInRow [.ref i, .int t, .ref u] h (pI (wrP (qRow s np nt t) h i u)) xNo := by
  refine CTW_of (o := 6) rfl (by decide) (by simp [Value.category, sL_firesInRow]) ?_
  show MG x sL_firesInRow 6 (XH hL_firesInRow) _ _ 0 (1, 6) [.ref i, .int t, .ref u, .null] [] h
  refine G_aload_n (k := 2) (by decide +kernel) ?_
  refine G_iconst (n := 0) (by decide +kernel) ?_
  refine G_aload_n (k := 0) (by decide +kernel) ?_
  refine G_iload_n (k := 1) (by decide +kernel) ?_
  have hH : hdO sL_firesInRow hL_firesInRow 4 [.ref i, .int t, .ref u, .null] [eIB] := fun n E hE => match n, hE with
    | 0, hE => by
      cases hE
      exact ⟨[], ⟨0, 9, 12, 19⟩, [], 3, 1, 1, rfl, (fun _ hy => nomatch hy), by decide, by decide, lkIB, csIB, ⟨by decide, by show okSt _ _; first | rfl | trivial | decide, Or.inl ⟨rfl, 3, rfl, by decide +kernel⟩⟩, by decide +kernel, rfl, by decide +kernel⟩
    | n + 1, hE => by cases hE
  exact w_core (As := [.int t]) (y := sX4_firesInRow) (k := 78) (of := 6) (E := 15) rfl rfl rfl rfl (Or.inl ⟨by decide, hP.1.1⟩) in_X4_firesInRow (by decide) (by decide) (Nat.le_refl _) (Nat.le_refl _) (c_firesInRow hP hB) hH hu ho (by decide +kernel) (by decide +kernel) (by decide +kernel) (by decide +kernel) rfl (by decide +kernel) (by decide +kernel)
def sL_areInConflict : MS := (⟨"PetriNetLaw", "areInConflict", "(LPetriNet;II[J)I"⟩, method_23_code, 5, some .int, 4, 99, 7, 2, 12)
def hL_areInConflict : List (Nat × Nat × Nat × Nat) := [(0, 17, 20, 19)]
set_option maxRecDepth 100000 in
theorem okL_areInConflict : okLW sL_areInConflict hL_areInConflict 251 := ⟨ws_of 926 rfl rfl, ws_of 0 (by decide +kernel) (by decide +kernel), ⟨by decide +kernel, by decide +kernel⟩, by decide +kernel, ws_of 925 (by decide +kernel) (by decide +kernel), ws_of 924 (by decide +kernel) (by decide +kernel)⟩
theorem w_areInConflict {x : CX} {h : MH} {i u np nt : Nat} {s : AS} {a b : Int32} (hP : PO h i s) (hB : NB (aW s) np nt) (hu : u < i ∨ i + 119 ≤ u) (ho : mK h u = 13 ∧ mL h u = 1) : CTW x sL_areInConflict hL_areInConflict [.ref i, .int a, .int b, .ref u] h (pI (wrP (qCfl s np nt a b) h i u)) xNo := by
  refine CTW_of (o := 6) rfl (by decide) (by simp [Value.category, sL_areInConflict]) ?_
  show MG x sL_areInConflict 6 (XH hL_areInConflict) _ _ 0 (2, 12) [.ref i, .int a, .int b, .ref u, .null] [] h
  refine G_aload_n (k := 3) (by decide +kernel) ?_
  refine G_iconst (n := 0) (by decide +kernel) ?_
  refine G_aload_n (k := 0) (by decide +kernel) ?_
  refine G_iload_n (k := 1) (by decide +kernel) ?_
  refine G_iload_n (k := 2) (by decide +kernel) ?_
  have hH : hdO sL_areInConflict hL_areInConflict 5 [.ref i, .int a, .int b, .ref u, .null] [eIB] := fun n E hE => match n, hE with
    | 0, hE => by
      cases hE
      exact ⟨[], ⟨0, 17, 20, 19⟩, [], 4, 2, 1, rfl, (fun _ hy => nomatch hy), by decide, by decide, lkIB, csIB, ⟨by decide, by show okSt _ _; first | rfl | trivial | decide, Or.inr ⟨rfl, by decide +kernel⟩⟩, by decide +kernel, rfl, by decide +kernel⟩
    | n + 1, hE => by cases hE
  exact w_coreZ (As := [.int a, .int b]) (y := sX4_areInConflict) (k := 81) (of := 7) (E := 24) z_ite rfl rfl rfl rfl (Or.inl ⟨by decide, hP.1.1⟩) in_X4_areInConflict (by decide) (by decide) (Nat.le_refl _) (Nat.le_refl _) (c_areInConflict hP hB) hH hu ho (by decide +kernel) (by decide +kernel) (by decide +kernel) (by decide +kernel) (by decide +kernel) (by decide +kernel) (by decide +kernel) rfl (by decide +kernel) (by decide +kernel)
def sL_markingTokens : MS := (⟨"PetriNetLaw", "markingTokens", "(LPetriNet;II[J)I"⟩, method_24_code, 5, some .int, 4, 99, 7, 2, 12)
def hL_markingTokens : List (Nat × Nat × Nat × Nat) := [(0, 10, 13, 19), (0, 10, 17, 45)]
set_option maxRecDepth 100000 in
theorem okL_markingTokens : okLW sL_markingTokens hL_markingTokens 262 := ⟨ws_of 937 rfl rfl, ws_of 0 (by decide +kernel) (by decide +kernel), ⟨by decide +kernel, by decide +kernel⟩, by decide +kernel, ws_of 936 (by decide +kernel) (by decide +kernel), ws_of 935 (by decide +kernel) (by decide +kernel)⟩
theorem w_markingTokens {x : CX} {h : MH} {i u np nt : Nat} {s : AS} {v p : Int32} (hP : PO h i s) (hB : NB (aW s) np nt) (hu : u < i ∨ i + 119 ≤ u) (ho : mK h u = 13 ∧ mL h u = 1) : CTW x sL_markingTokens hL_markingTokens [.ref i, .int v, .int p, .ref u] h (pI (wrP (qMT s np nt v p) h i u)) xNo := by
  refine CTW_of (o := 6) rfl (by decide) (by simp [Value.category, sL_markingTokens]) ?_
  show MG x sL_markingTokens 6 (XH hL_markingTokens) _ _ 0 (2, 12) [.ref i, .int v, .int p, .ref u, .null] [] h
  refine G_aload_n (k := 3) (by decide +kernel) ?_
  refine G_iconst (n := 0) (by decide +kernel) ?_
  refine G_aload_n (k := 0) (by decide +kernel) ?_
  refine G_iload_n (k := 1) (by decide +kernel) ?_
  refine G_iload_n (k := 2) (by decide +kernel) ?_
  have hH : hdO sL_markingTokens hL_markingTokens 5 [.ref i, .int v, .int p, .ref u, .null] [eIB, eNE] := fun n E hE => match n, hE with
    | 0, hE => by
      cases hE
      exact ⟨[], ⟨0, 10, 13, 19⟩, [⟨0, 10, 17, 45⟩], 4, 2, 1, rfl, (fun _ hy => nomatch hy), by decide, by decide, lkIB, csIB, ⟨by decide, by show okSt _ _; first | rfl | trivial | decide, Or.inr ⟨rfl, by decide +kernel⟩⟩, by decide +kernel, rfl, by decide +kernel⟩
    | 1, hE => by
      cases hE
      exact ⟨[⟨0, 10, 13, 19⟩], ⟨0, 10, 17, 45⟩, [], 4, 2, 2, rfl, List.forall_mem_cons.mpr ⟨Or.inr ⟨by decide, eIB, lkIB, by decide⟩, (fun _ hy => nomatch hy)⟩, by decide, by decide, lkNE, csNE, ⟨by decide, by show okSt _ _; first | rfl | trivial | decide, Or.inr ⟨rfl, by decide +kernel⟩⟩, by decide +kernel, rfl, by decide +kernel⟩
    | n + 2, hE => by cases hE
  exact w_core (As := [.int v, .int p]) (y := sX4_markingTokens) (k := 85) (of := 11) (E := 21) rfl rfl rfl rfl (Or.inl ⟨by decide, hP.1.1⟩) in_X4_markingTokens (by decide) (by decide) (Nat.le_refl _) (Nat.le_refl _) (c_markingTokens hP hB) hH hu ho (by decide +kernel) (by decide +kernel) (by decide +kernel) (by decide +kernel) rfl (by decide +kernel) (by decide +kernel)
def sL_markingDistance : MS := (⟨"PetriNetLaw", "markingDistance", "(LPetriNet;I[J)I"⟩, method_25_code, 4, some .int, 3, 99, 7, 1, 6)
def hL_markingDistance : List (Nat × Nat × Nat × Nat) := [(0, 9, 12, 45)]
set_option maxRecDepth 100000 in
theorem okL_markingDistance : okLW sL_markingDistance hL_markingDistance 265 := ⟨ws_of 945 rfl rfl, ws_of 0 (by decide +kernel) (by decide +kernel), ⟨by decide +kernel, by decide +kernel⟩, by decide +kernel, ws_of 944 (by decide +kernel) (by decide +kernel), ws_of 943 (by decide +kernel) (by decide +kernel)⟩
theorem w_markingDistance {x : CX} {h : MH} {i u np nt : Nat} {s : AS} {v : Int32} (hP : PO h i s) (hB : NB (aW s) np nt) (hu : u < i ∨ i + 119 ≤ u) (ho : mK h u = 13 ∧ mL h u = 1) : CTW x sL_markingDistance hL_markingDistance [.ref i, .int v, .ref u] h (pI (wrP (qMD s np nt v) h i u)) xNo := by
  refine CTW_of (o := 6) rfl (by decide) (by simp [Value.category, sL_markingDistance]) ?_
  show MG x sL_markingDistance 6 (XH hL_markingDistance) _ _ 0 (1, 6) [.ref i, .int v, .ref u, .null] [] h
  refine G_aload_n (k := 2) (by decide +kernel) ?_
  refine G_iconst (n := 0) (by decide +kernel) ?_
  refine G_aload_n (k := 0) (by decide +kernel) ?_
  refine G_iload_n (k := 1) (by decide +kernel) ?_
  have hH : hdO sL_markingDistance hL_markingDistance 4 [.ref i, .int v, .ref u, .null] [eNE] := fun n E hE => match n, hE with
    | 0, hE => by
      cases hE
      exact ⟨[], ⟨0, 9, 12, 45⟩, [], 3, 1, 1, rfl, (fun _ hy => nomatch hy), by decide, by decide, lkNE, csNE, ⟨by decide, by show okSt _ _; first | rfl | trivial | decide, Or.inl ⟨rfl, 3, rfl, by decide +kernel⟩⟩, by decide +kernel, rfl, by decide +kernel⟩
    | n + 1, hE => by cases hE
  exact w_core (As := [.int v]) (y := sX4_markingDistance) (k := 88) (of := 6) (E := 15) rfl rfl rfl rfl (Or.inl ⟨by decide, hP.1.1⟩) in_X4_markingDistance (by decide) (by decide) (Nat.le_refl _) (Nat.le_refl _) (c_markingDistance hP hB) hH hu ho (by decide +kernel) (by decide +kernel) (by decide +kernel) (by decide +kernel) rfl (by decide +kernel) (by decide +kernel)
def sL_markingTransition : MS := (⟨"PetriNetLaw", "markingTransition", "(LPetriNet;I[J)I"⟩, method_26_code, 4, some .int, 3, 99, 7, 1, 6)
def hL_markingTransition : List (Nat × Nat × Nat × Nat) := [(0, 9, 12, 45)]
set_option maxRecDepth 100000 in
theorem okL_markingTransition : okLW sL_markingTransition hL_markingTransition 268 := ⟨ws_of 952 rfl rfl, ws_of 0 (by decide +kernel) (by decide +kernel), ⟨by decide +kernel, by decide +kernel⟩, by decide +kernel, ws_of 951 (by decide +kernel) (by decide +kernel), ws_of 950 (by decide +kernel) (by decide +kernel)⟩
theorem w_markingTransition {x : CX} {h : MH} {i u np nt : Nat} {s : AS} {v : Int32} (hP : PO h i s) (hB : NB (aW s) np nt) (hu : u < i ∨ i + 119 ≤ u) (ho : mK h u = 13 ∧ mL h u = 1) : CTW x sL_markingTransition hL_markingTransition [.ref i, .int v, .ref u] h (pI (wrP (qMF s np nt v) h i u)) xNo := by
  refine CTW_of (o := 6) rfl (by decide) (by simp [Value.category, sL_markingTransition]) ?_
  show MG x sL_markingTransition 6 (XH hL_markingTransition) _ _ 0 (1, 6) [.ref i, .int v, .ref u, .null] [] h
  refine G_aload_n (k := 2) (by decide +kernel) ?_
  refine G_iconst (n := 0) (by decide +kernel) ?_
  refine G_aload_n (k := 0) (by decide +kernel) ?_
  refine G_iload_n (k := 1) (by decide +kernel) ?_
  have hH : hdO sL_markingTransition hL_markingTransition 4 [.ref i, .int v, .ref u, .null] [eNE] := fun n E hE => match n, hE with
    | 0, hE => by
      cases hE
      exact ⟨[], ⟨0, 9, 12, 45⟩, [], 3, 1, 1, rfl, (fun _ hy => nomatch hy), by decide, by decide, lkNE, csNE, ⟨by decide, by show okSt _ _; first | rfl | trivial | decide, Or.inl ⟨rfl, 3, rfl, by decide +kernel⟩⟩, by decide +kernel, rfl, by decide +kernel⟩
    | n + 1, hE => by cases hE
  exact w_core (As := [.int v]) (y := sX4_markingTransition) (k := 91) (of := 6) (E := 15) rfl rfl rfl rfl (Or.inl ⟨by decide, hP.1.1⟩) in_X4_markingTransition (by decide) (by decide) (Nat.le_refl _) (Nat.le_refl _) (c_markingTransition hP hB) hH hu ho (by decide +kernel) (by decide +kernel) (by decide +kernel) (by decide +kernel) rfl (by decide +kernel) (by decide +kernel)
def sL_bound : MS := (⟨"PetriNetLaw", "bound", "(LPetriNet;I[J)I"⟩, method_27_code, 4, some .int, 3, 99, 7, 1, 6)
def hL_bound : List (Nat × Nat × Nat × Nat) := [(0, 9, 12, 19)]
set_option maxRecDepth 100000 in
theorem okL_bound : okLW sL_bound hL_bound 279 := ⟨ws_of 959 rfl rfl, ws_of 0 (by decide +kernel) (by decide +kernel), ⟨by decide +kernel, by decide +kernel⟩, by decide +kernel, ws_of 958 (by decide +kernel) (by decide +kernel), ws_of 957 (by decide +kernel) (by decide +kernel)⟩
theorem w_bound {x : CX} {h : MH} {i u np nt : Nat} {s : AS} {p : Int32} (hP : PO h i s) (hB : NB (aW s) np nt) (hu : u < i ∨ i + 119 ≤ u) (ho : mK h u = 13 ∧ mL h u = 1) : CTW x sL_bound hL_bound [.ref i, .int p, .ref u] h (pI (wrP (qBnd s np nt p) h i u)) xNo := by
  refine CTW_of (o := 6) rfl (by decide) (by simp [Value.category, sL_bound]) ?_
  show MG x sL_bound 6 (XH hL_bound) _ _ 0 (1, 6) [.ref i, .int p, .ref u, .null] [] h
  refine G_aload_n (k := 2) (by decide +kernel) ?_
  refine G_iconst (n := 0) (by decide +kernel) ?_
  refine G_aload_n (k := 0) (by decide +kernel) ?_
  refine G_iload_n (k := 1) (by decide +kernel) ?_
  have hH : hdO sL_bound hL_bound 4 [.ref i, .int p, .ref u, .null] [eIB] := fun n E hE => match n, hE with
    | 0, hE => by
      cases hE
      exact ⟨[], ⟨0, 9, 12, 19⟩, [], 3, 1, 1, rfl, (fun _ hy => nomatch hy), by decide, by decide, lkIB, csIB, ⟨by decide, by show okSt _ _; first | rfl | trivial | decide, Or.inl ⟨rfl, 3, rfl, by decide +kernel⟩⟩, by decide +kernel, rfl, by decide +kernel⟩
    | n + 1, hE => by cases hE
  exact w_core (As := [.int p]) (y := sX4_bound) (k := 94) (of := 6) (E := 15) rfl rfl rfl rfl (Or.inl ⟨by decide, hP.1.1⟩) in_X4_bound (by decide) (by decide) (Nat.le_refl _) (Nat.le_refl _) (c_bound hP hB) hH hu ho (by decide +kernel) (by decide +kernel) (by decide +kernel) (by decide +kernel) rfl (by decide +kernel) (by decide +kernel)
def sL_canFire : MS := (⟨"PetriNetLaw", "canFire", "(LPetriNet;I[J)I"⟩, method_28_code, 4, some .int, 3, 99, 7, 1, 6)
def hL_canFire : List (Nat × Nat × Nat × Nat) := [(0, 16, 19, 19)]
set_option maxRecDepth 100000 in
theorem okL_canFire : okLW sL_canFire hL_canFire 282 := ⟨ws_of 967 rfl rfl, ws_of 0 (by decide +kernel) (by decide +kernel), ⟨by decide +kernel, by decide +kernel⟩, by decide +kernel, ws_of 966 (by decide +kernel) (by decide +kernel), ws_of 965 (by decide +kernel) (by decide +kernel)⟩
theorem w_canFire {x : CX} {h : MH} {i u np nt : Nat} {s : AS} {t : Int32} (hP : PO h i s) (hB : NB (aW s) np nt) (hu : u < i ∨ i + 119 ≤ u) (ho : mK h u = 13 ∧ mL h u = 1) : CTW x sL_canFire hL_canFire [.ref i, .int t, .ref u] h (pI (wrP (qCF s np nt t) h i u)) xNo := by
  refine CTW_of (o := 6) rfl (by decide) (by simp [Value.category, sL_canFire]) ?_
  show MG x sL_canFire 6 (XH hL_canFire) _ _ 0 (1, 6) [.ref i, .int t, .ref u, .null] [] h
  refine G_aload_n (k := 2) (by decide +kernel) ?_
  refine G_iconst (n := 0) (by decide +kernel) ?_
  refine G_aload_n (k := 0) (by decide +kernel) ?_
  refine G_iload_n (k := 1) (by decide +kernel) ?_
  have hH : hdO sL_canFire hL_canFire 4 [.ref i, .int t, .ref u, .null] [eIB] := fun n E hE => match n, hE with
    | 0, hE => by
      cases hE
      exact ⟨[], ⟨0, 16, 19, 19⟩, [], 3, 1, 1, rfl, (fun _ hy => nomatch hy), by decide, by decide, lkIB, csIB, ⟨by decide, by show okSt _ _; first | rfl | trivial | decide, Or.inl ⟨rfl, 3, rfl, by decide +kernel⟩⟩, by decide +kernel, rfl, by decide +kernel⟩
    | n + 1, hE => by cases hE
  exact w_coreZ (As := [.int t]) (y := sX4_canFire) (k := 97) (of := 6) (E := 22) z_ite rfl rfl rfl rfl (Or.inl ⟨by decide, hP.1.1⟩) in_X4_canFire (by decide) (by decide) (Nat.le_refl _) (Nat.le_refl _) (c_canFire hP hB) hH hu ho (by decide +kernel) (by decide +kernel) (by decide +kernel) (by decide +kernel) (by decide +kernel) (by decide +kernel) (by decide +kernel) rfl (by decide +kernel) (by decide +kernel)
def sL_distanceToEmpty : MS := (⟨"PetriNetLaw", "distanceToEmpty", "(LPetriNet;I[J)I"⟩, method_29_code, 4, some .int, 3, 99, 7, 1, 6)
def hL_distanceToEmpty : List (Nat × Nat × Nat × Nat) := [(0, 9, 12, 19)]
set_option maxRecDepth 100000 in
theorem okL_distanceToEmpty : okLW sL_distanceToEmpty hL_distanceToEmpty 289 := ⟨ws_of 975 rfl rfl, ws_of 0 (by decide +kernel) (by decide +kernel), ⟨by decide +kernel, by decide +kernel⟩, by decide +kernel, ws_of 974 (by decide +kernel) (by decide +kernel), ws_of 973 (by decide +kernel) (by decide +kernel)⟩
theorem w_distanceToEmpty {x : CX} {h : MH} {i u np nt : Nat} {s : AS} {p : Int32} (hP : PO h i s) (hB : NB (aW s) np nt) (hu : u < i ∨ i + 119 ≤ u) (ho : mK h u = 13 ∧ mL h u = 1) : CTW x sL_distanceToEmpty hL_distanceToEmpty [.ref i, .int p, .ref u] h (pI (wrP (qDE s np nt p) h i u)) xNo := by
  refine CTW_of (o := 6) rfl (by decide) (by simp [Value.category, sL_distanceToEmpty]) ?_
  show MG x sL_distanceToEmpty 6 (XH hL_distanceToEmpty) _ _ 0 (1, 6) [.ref i, .int p, .ref u, .null] [] h
  refine G_aload_n (k := 2) (by decide +kernel) ?_
  refine G_iconst (n := 0) (by decide +kernel) ?_
  refine G_aload_n (k := 0) (by decide +kernel) ?_
  refine G_iload_n (k := 1) (by decide +kernel) ?_
  have hH : hdO sL_distanceToEmpty hL_distanceToEmpty 4 [.ref i, .int p, .ref u, .null] [eIB] := fun n E hE => match n, hE with
    | 0, hE => by
      cases hE
      exact ⟨[], ⟨0, 9, 12, 19⟩, [], 3, 1, 1, rfl, (fun _ hy => nomatch hy), by decide, by decide, lkIB, csIB, ⟨by decide, by show okSt _ _; first | rfl | trivial | decide, Or.inl ⟨rfl, 3, rfl, by decide +kernel⟩⟩, by decide +kernel, rfl, by decide +kernel⟩
    | n + 1, hE => by cases hE
  exact w_core (As := [.int p]) (y := sX4_distanceToEmpty) (k := 101) (of := 6) (E := 15) rfl rfl rfl rfl (Or.inl ⟨by decide, hP.1.1⟩) in_X4_distanceToEmpty (by decide) (by decide) (Nat.le_refl _) (Nat.le_refl _) (c_distanceToEmpty hP hB) hH hu ho (by decide +kernel) (by decide +kernel) (by decide +kernel) (by decide +kernel) rfl (by decide +kernel) (by decide +kernel)
def sL_isPlaceInvariant : MS := (⟨"PetriNetLaw", "isPlaceInvariant", "(LPetriNet;I[J)I"⟩, method_30_code, 4, some .int, 3, 99, 7, 1, 6)
def hL_isPlaceInvariant : List (Nat × Nat × Nat × Nat) := [(0, 16, 19, 13)]
set_option maxRecDepth 100000 in
theorem okL_isPlaceInvariant : okLW sL_isPlaceInvariant hL_isPlaceInvariant 292 := ⟨ws_of 982 rfl rfl, ws_of 0 (by decide +kernel) (by decide +kernel), ⟨by decide +kernel, by decide +kernel⟩, by decide +kernel, ws_of 981 (by decide +kernel) (by decide +kernel), ws_of 980 (by decide +kernel) (by decide +kernel)⟩
theorem w_isPlaceInvariant {x : CX} {h : MH} {i u np nt : Nat} {s : AS} {v : Int32} (hP : PO h i s) (hB : NB (aW s) np nt) (hu : u < i ∨ i + 119 ≤ u) (ho : mK h u = 13 ∧ mL h u = 1) : CTW x sL_isPlaceInvariant hL_isPlaceInvariant [.ref i, .int v, .ref u] h (pI (wrP (qPI s np nt v) h i u)) xNo := by
  refine CTW_of (o := 6) rfl (by decide) (by simp [Value.category, sL_isPlaceInvariant]) ?_
  show MG x sL_isPlaceInvariant 6 (XH hL_isPlaceInvariant) _ _ 0 (1, 6) [.ref i, .int v, .ref u, .null] [] h
  refine G_aload_n (k := 2) (by decide +kernel) ?_
  refine G_iconst (n := 0) (by decide +kernel) ?_
  refine G_aload_n (k := 0) (by decide +kernel) ?_
  refine G_iload_n (k := 1) (by decide +kernel) ?_
  have hH : hdO sL_isPlaceInvariant hL_isPlaceInvariant 4 [.ref i, .int v, .ref u, .null] [eIA] := fun n E hE => match n, hE with
    | 0, hE => by
      cases hE
      exact ⟨[], ⟨0, 16, 19, 13⟩, [], 3, 1, 1, rfl, (fun _ hy => nomatch hy), by decide, by decide, lkIA, csIA, ⟨by decide, by show okSt _ _; first | rfl | trivial | decide, Or.inl ⟨rfl, 3, rfl, by decide +kernel⟩⟩, by decide +kernel, rfl, by decide +kernel⟩
    | n + 1, hE => by cases hE
  exact w_coreZ (As := [.int v]) (y := sX4_isPlaceInvariant) (k := 104) (of := 6) (E := 22) z_ite rfl rfl rfl rfl (Or.inl ⟨by decide, hP.1.1⟩) in_X4_isPlaceInvariant (by decide) (by decide) (Nat.le_refl _) (Nat.le_refl _) (c_isPlaceInvariant hP hB) hH hu ho (by decide +kernel) (by decide +kernel) (by decide +kernel) (by decide +kernel) (by decide +kernel) (by decide +kernel) (by decide +kernel) rfl (by decide +kernel) (by decide +kernel)
def sL_isTransitionInvariant : MS := (⟨"PetriNetLaw", "isTransitionInvariant", "(LPetriNet;I[J)I"⟩, method_31_code, 4, some .int, 3, 99, 7, 1, 6)
def hL_isTransitionInvariant : List (Nat × Nat × Nat × Nat) := [(0, 16, 19, 13)]
set_option maxRecDepth 100000 in
theorem okL_isTransitionInvariant : okLW sL_isTransitionInvariant hL_isTransitionInvariant 295 := ⟨ws_of 995 rfl rfl, ws_of 0 (by decide +kernel) (by decide +kernel), ⟨by decide +kernel, by decide +kernel⟩, by decide +kernel, ws_of 994 (by decide +kernel) (by decide +kernel), ws_of 993 (by decide +kernel) (by decide +kernel)⟩
theorem w_isTransitionInvariant {x : CX} {h : MH} {i u np nt : Nat} {s : AS} {v : Int32} (hP : PO h i s) (hB : NB (aW s) np nt) (hu : u < i ∨ i + 119 ≤ u) (ho : mK h u = 13 ∧ mL h u = 1) : CTW x sL_isTransitionInvariant hL_isTransitionInvariant [.ref i, .int v, .ref u] h (pI (wrP (qTI s np nt v) h i u)) xNo := by
  refine CTW_of (o := 6) rfl (by decide) (by simp [Value.category, sL_isTransitionInvariant]) ?_
  show MG x sL_isTransitionInvariant 6 (XH hL_isTransitionInvariant) _ _ 0 (1, 6) [.ref i, .int v, .ref u, .null] [] h
  refine G_aload_n (k := 2) (by decide +kernel) ?_
  refine G_iconst (n := 0) (by decide +kernel) ?_
  refine G_aload_n (k := 0) (by decide +kernel) ?_
  refine G_iload_n (k := 1) (by decide +kernel) ?_
  have hH : hdO sL_isTransitionInvariant hL_isTransitionInvariant 4 [.ref i, .int v, .ref u, .null] [eIA] := fun n E hE => match n, hE with
    | 0, hE => by
      cases hE
      exact ⟨[], ⟨0, 16, 19, 13⟩, [], 3, 1, 1, rfl, (fun _ hy => nomatch hy), by decide, by decide, lkIA, csIA, ⟨by decide, by show okSt _ _; first | rfl | trivial | decide, Or.inl ⟨rfl, 3, rfl, by decide +kernel⟩⟩, by decide +kernel, rfl, by decide +kernel⟩
    | n + 1, hE => by cases hE
  exact w_coreZ (As := [.int v]) (y := sX4_isTransitionInvariant) (k := 107) (of := 6) (E := 22) z_ite rfl rfl rfl rfl (Or.inl ⟨by decide, hP.1.1⟩) in_X4_isTransitionInvariant (by decide) (by decide) (Nat.le_refl _) (Nat.le_refl _) (c_isTransitionInvariant hP hB) hH hu ho (by decide +kernel) (by decide +kernel) (by decide +kernel) (by decide +kernel) (by decide +kernel) (by decide +kernel) (by decide +kernel) rfl (by decide +kernel) (by decide +kernel)
def sL_weightedTokens : MS := (⟨"PetriNetLaw", "weightedTokens", "(LPetriNet;I[J)I"⟩, method_32_code, 4, some .int, 3, 99, 7, 1, 6)
def hL_weightedTokens : List (Nat × Nat × Nat × Nat) := [(0, 9, 12, 13)]
set_option maxRecDepth 100000 in
theorem okL_weightedTokens : okLW sL_weightedTokens hL_weightedTokens 298 := ⟨ws_of 1006 rfl rfl, ws_of 0 (by decide +kernel) (by decide +kernel), ⟨by decide +kernel, by decide +kernel⟩, by decide +kernel, ws_of 1005 (by decide +kernel) (by decide +kernel), ws_of 1004 (by decide +kernel) (by decide +kernel)⟩
theorem w_weightedTokens {x : CX} {h : MH} {i u np nt : Nat} {s : AS} {v : Int32} (hP : PO h i s) (hB : NB (aW s) np nt) (hu : u < i ∨ i + 119 ≤ u) (ho : mK h u = 13 ∧ mL h u = 1) : CTW x sL_weightedTokens hL_weightedTokens [.ref i, .int v, .ref u] h (pI (wrP (qWT s np v) h i u)) xNo := by
  refine CTW_of (o := 6) rfl (by decide) (by simp [Value.category, sL_weightedTokens]) ?_
  show MG x sL_weightedTokens 6 (XH hL_weightedTokens) _ _ 0 (1, 6) [.ref i, .int v, .ref u, .null] [] h
  refine G_aload_n (k := 2) (by decide +kernel) ?_
  refine G_iconst (n := 0) (by decide +kernel) ?_
  refine G_aload_n (k := 0) (by decide +kernel) ?_
  refine G_iload_n (k := 1) (by decide +kernel) ?_
  have hH : hdO sL_weightedTokens hL_weightedTokens 4 [.ref i, .int v, .ref u, .null] [eIA] := fun n E hE => match n, hE with
    | 0, hE => by
      cases hE
      exact ⟨[], ⟨0, 9, 12, 13⟩, [], 3, 1, 1, rfl, (fun _ hy => nomatch hy), by decide, by decide, lkIA, csIA, ⟨by decide, by show okSt _ _; first | rfl | trivial | decide, Or.inl ⟨rfl, 3, rfl, by decide +kernel⟩⟩, by decide +kernel, rfl, by decide +kernel⟩
    | n + 1, hE => by cases hE
  exact w_core (As := [.int v]) (y := sX4_weightedTokens) (k := 110) (of := 6) (E := 15) rfl rfl rfl rfl (Or.inl ⟨by decide, hP.1.1⟩) in_X4_weightedTokens (by decide) (by decide) (Nat.le_refl _) (Nat.le_refl _) (c_weightedTokens hP hB) hH hu ho (by decide +kernel) (by decide +kernel) (by decide +kernel) (by decide +kernel) rfl (by decide +kernel) (by decide +kernel)
def sL_tokensAfterRun : MS := (⟨"PetriNetLaw", "tokensAfterRun", "(LPetriNet;II[J)I"⟩, method_33_code, 5, some .int, 4, 99, 7, 2, 12)
def hL_tokensAfterRun : List (Nat × Nat × Nat × Nat) := [(0, 10, 13, 19), (0, 10, 17, 13)]
set_option maxRecDepth 100000 in
theorem okL_tokensAfterRun : okLW sL_tokensAfterRun hL_tokensAfterRun 313 := ⟨ws_of 1013 rfl rfl, ws_of 0 (by decide +kernel) (by decide +kernel), ⟨by decide +kernel, by decide +kernel⟩, by decide +kernel, ws_of 1012 (by decide +kernel) (by decide +kernel), ws_of 1011 (by decide +kernel) (by decide +kernel)⟩
theorem w_tokensAfterRun {x : CX} {h : MH} {i u np nt : Nat} {s : AS} {p m : Int32} (hP : PO h i s) (hB : NB (aW s) np nt) (hu : u < i ∨ i + 119 ≤ u) (ho : mK h u = 13 ∧ mL h u = 1) : CTW x sL_tokensAfterRun hL_tokensAfterRun [.ref i, .int p, .int m, .ref u] h (pI (wrP (qTR s np nt p m) h i u)) xNo := by
  refine CTW_of (o := 6) rfl (by decide) (by simp [Value.category, sL_tokensAfterRun]) ?_
  show MG x sL_tokensAfterRun 6 (XH hL_tokensAfterRun) _ _ 0 (2, 12) [.ref i, .int p, .int m, .ref u, .null] [] h
  refine G_aload_n (k := 3) (by decide +kernel) ?_
  refine G_iconst (n := 0) (by decide +kernel) ?_
  refine G_aload_n (k := 0) (by decide +kernel) ?_
  refine G_iload_n (k := 1) (by decide +kernel) ?_
  refine G_iload_n (k := 2) (by decide +kernel) ?_
  have hH : hdO sL_tokensAfterRun hL_tokensAfterRun 5 [.ref i, .int p, .int m, .ref u, .null] [eIB, eIA] := fun n E hE => match n, hE with
    | 0, hE => by
      cases hE
      exact ⟨[], ⟨0, 10, 13, 19⟩, [⟨0, 10, 17, 13⟩], 4, 2, 1, rfl, (fun _ hy => nomatch hy), by decide, by decide, lkIB, csIB, ⟨by decide, by show okSt _ _; first | rfl | trivial | decide, Or.inr ⟨rfl, by decide +kernel⟩⟩, by decide +kernel, rfl, by decide +kernel⟩
    | 1, hE => by
      cases hE
      exact ⟨[⟨0, 10, 13, 19⟩], ⟨0, 10, 17, 13⟩, [], 4, 2, 2, rfl, List.forall_mem_cons.mpr ⟨Or.inr ⟨by decide, eIB, lkIB, by decide⟩, (fun _ hy => nomatch hy)⟩, by decide, by decide, lkIA, csIA, ⟨by decide, by show okSt _ _; first | rfl | trivial | decide, Or.inr ⟨rfl, by decide +kernel⟩⟩, by decide +kernel, rfl, by decide +kernel⟩
    | n + 2, hE => by cases hE
  exact w_core (As := [.int p, .int m]) (y := sX4_tokensAfterRun) (k := 113) (of := 11) (E := 21) rfl rfl rfl rfl (Or.inl ⟨by decide, hP.1.1⟩) in_X4_tokensAfterRun (by decide) (by decide) (Nat.le_refl _) (Nat.le_refl _) (c_tokensAfterRun hP hB) hH hu ho (by decide +kernel) (by decide +kernel) (by decide +kernel) (by decide +kernel) rfl (by decide +kernel) (by decide +kernel)
