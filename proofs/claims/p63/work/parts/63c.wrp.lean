theorem w_setTokens {x : CX} {h : MH} {i np nt : Nat} {s : AS} {p t : Int32} (hP : PO h i s) (hB : NB (aW s) np nt) : CTW x sL_setTokens hL_setTokens [.ref i, .int p, .int t] h (pI (wrQ (qST s np p t) h i)) xNo := by
  refine CTW_of (o := 6) rfl (by decide) (by simp [Value.category, sL_setTokens]) ?_
  show MG x sL_setTokens 6 (XH hL_setTokens) _ _ 0 (2, 12) [.ref i, .int p, .int t, .null] [] h
  refine G_aload_n (k := 0) (by decide +kernel) ?_
  refine G_iload_n (k := 1) (by decide +kernel) ?_
  refine G_iload_n (k := 2) (by decide +kernel) ?_
  have hH : hdO sL_setTokens hL_setTokens 3 [.ref i, .int p, .int t, .null] [eIB, eIA] := fun n E hE => match n, hE with
    | 0, hE => by
      cases hE
      exact ⟨[], ⟨0, 6, 7, 24⟩, [⟨0, 6, 12, 26⟩], 3, 1, rfl, (fun _ hy => nomatch hy), by decide, by decide, lkIB, csIB, ⟨by decide, by show okSt _ _; first | rfl | trivial | decide, Or.inl ⟨rfl, 3, rfl, by decide +kernel⟩⟩, by decide +kernel, by decide +kernel⟩
    | 1, hE => by
      cases hE
      exact ⟨[⟨0, 6, 7, 24⟩], ⟨0, 6, 12, 26⟩, [], 3, 1, rfl, List.forall_mem_cons.mpr ⟨Or.inr ⟨by decide, eIB, lkIB, by decide⟩, (fun _ hy => nomatch hy)⟩, by decide, by decide, lkIA, csIA, ⟨by decide, by show okSt _ _; first | rfl | trivial | decide, Or.inl ⟨rfl, 3, rfl, by decide +kernel⟩⟩, by decide +kernel, by decide +kernel⟩
    | n + 2, hE => by cases hE
  exact w_core (As := [.int p, .int t]) (y := sX4_setTokens) (k := 19) rfl rfl rfl rfl (Or.inl ⟨by decide, hP.1.1⟩) in_X4_setTokens (by decide) (by decide) (Nat.le_refl _) (Nat.le_refl _) (c_setTokens hP hB) hH (by decide +kernel) (by decide +kernel)
theorem w_setCapacity {x : CX} {h : MH} {i np nt : Nat} {s : AS} {p t : Int32} (hP : PO h i s) (hB : NB (aW s) np nt) : CTW x sL_setCapacity hL_setCapacity [.ref i, .int p, .int t] h (pI (wrQ (qSC s np p t) h i)) xNo := by
  refine CTW_of (o := 6) rfl (by decide) (by simp [Value.category, sL_setCapacity]) ?_
  show MG x sL_setCapacity 6 (XH hL_setCapacity) _ _ 0 (3, 18) [.ref i, .int p, .int t, .null] [] h
  refine G_aload_n (k := 0) (by decide +kernel) ?_
  refine G_iload_n (k := 1) (by decide +kernel) ?_
  refine G_iload_n (k := 2) (by decide +kernel) ?_
  have hH : hdO sL_setCapacity hL_setCapacity 3 [.ref i, .int p, .int t, .null] [eIB, eIA, eIS] := fun n E hE => match n, hE with
    | 0, hE => by
      cases hE
      exact ⟨[], ⟨0, 6, 7, 24⟩, [⟨0, 6, 12, 26⟩, ⟨0, 6, 17, 31⟩], 3, 1, rfl, (fun _ hy => nomatch hy), by decide, by decide, lkIB, csIB, ⟨by decide, by show okSt _ _; first | rfl | trivial | decide, Or.inl ⟨rfl, 3, rfl, by decide +kernel⟩⟩, by decide +kernel, by decide +kernel⟩
    | 1, hE => by
      cases hE
      exact ⟨[⟨0, 6, 7, 24⟩], ⟨0, 6, 12, 26⟩, [⟨0, 6, 17, 31⟩], 3, 1, rfl, List.forall_mem_cons.mpr ⟨Or.inr ⟨by decide, eIB, lkIB, by decide⟩, (fun _ hy => nomatch hy)⟩, by decide, by decide, lkIA, csIA, ⟨by decide, by show okSt _ _; first | rfl | trivial | decide, Or.inl ⟨rfl, 3, rfl, by decide +kernel⟩⟩, by decide +kernel, by decide +kernel⟩
    | 2, hE => by
      cases hE
      exact ⟨[⟨0, 6, 7, 24⟩, ⟨0, 6, 12, 26⟩], ⟨0, 6, 17, 31⟩, [], 3, 1, rfl, List.forall_mem_cons.mpr ⟨Or.inr ⟨by decide, eIB, lkIB, by decide⟩, List.forall_mem_cons.mpr ⟨Or.inr ⟨by decide, eIA, lkIA, by decide⟩, (fun _ hy => nomatch hy)⟩⟩, by decide, by decide, lkIS, csIS, ⟨by decide, by show okSt _ _; first | rfl | trivial | decide, Or.inl ⟨rfl, 3, rfl, by decide +kernel⟩⟩, by decide +kernel, by decide +kernel⟩
    | n + 3, hE => by cases hE
  exact w_core (As := [.int p, .int t]) (y := sX4_setCapacity) (k := 28) rfl rfl rfl rfl (Or.inl ⟨by decide, hP.1.1⟩) in_X4_setCapacity (by decide) (by decide) (Nat.le_refl _) (Nat.le_refl _) (c_setCapacity hP hB) hH (by decide +kernel) (by decide +kernel)
theorem w_setInput {x : CX} {h : MH} {i np nt : Nat} {s : AS} {p t v : Int32} (hP : PO h i s) (hB : NB (aW s) np nt) : CTW x sL_setInput hL_setInput [.ref i, .int p, .int t, .int v] h (pI (wrQ (qArc s np nt 28 p t v) h i)) xNo := by
  refine CTW_of (o := 6) rfl (by decide) (by simp [Value.category, sL_setInput]) ?_
  show MG x sL_setInput 6 (XH hL_setInput) _ _ 0 (3, 18) [.ref i, .int p, .int t, .int v, .null] [] h
  refine G_aload_n (k := 0) (by decide +kernel) ?_
  refine G_iload_n (k := 1) (by decide +kernel) ?_
  refine G_iload_n (k := 2) (by decide +kernel) ?_
  refine G_iload_n (k := 3) (by decide +kernel) ?_
  have hH : hdO sL_setInput hL_setInput 4 [.ref i, .int p, .int t, .int v, .null] [eIB, eIA] := fun n E hE => match n, hE with
    | 0, hE => by
      cases hE
      exact ⟨[], ⟨0, 7, 8, 24⟩, [⟨0, 7, 14, 26⟩], 4, 2, rfl, (fun _ hy => nomatch hy), by decide, by decide, lkIB, csIB, ⟨by decide, by show okSt _ _; first | rfl | trivial | decide, Or.inr ⟨rfl, by decide +kernel⟩⟩, by decide +kernel, by decide +kernel⟩
    | 1, hE => by
      cases hE
      exact ⟨[⟨0, 7, 8, 24⟩], ⟨0, 7, 14, 26⟩, [], 4, 2, rfl, List.forall_mem_cons.mpr ⟨Or.inr ⟨by decide, eIB, lkIB, by decide⟩, (fun _ hy => nomatch hy)⟩, by decide, by decide, lkIA, csIA, ⟨by decide, by show okSt _ _; first | rfl | trivial | decide, Or.inr ⟨rfl, by decide +kernel⟩⟩, by decide +kernel, by decide +kernel⟩
    | n + 2, hE => by cases hE
  exact w_core (As := [.int p, .int t, .int v]) (y := sX4_setInput) (k := 33) rfl rfl rfl rfl (Or.inl ⟨by decide, hP.1.1⟩) in_X4_setInput (by decide) (by decide) (Nat.le_refl _) (Nat.le_refl _) (c_setInput hP hB) hH (by decide +kernel) (by decide +kernel)
theorem w_setOutput {x : CX} {h : MH} {i np nt : Nat} {s : AS} {t p v : Int32} (hP : PO h i s) (hB : NB (aW s) np nt) : CTW x sL_setOutput hL_setOutput [.ref i, .int t, .int p, .int v] h (pI (wrQ (qArc s np nt 108 p t v) h i)) xNo := by
  refine CTW_of (o := 6) rfl (by decide) (by simp [Value.category, sL_setOutput]) ?_
  show MG x sL_setOutput 6 (XH hL_setOutput) _ _ 0 (3, 18) [.ref i, .int t, .int p, .int v, .null] [] h
  refine G_aload_n (k := 0) (by decide +kernel) ?_
  refine G_iload_n (k := 1) (by decide +kernel) ?_
  refine G_iload_n (k := 2) (by decide +kernel) ?_
  refine G_iload_n (k := 3) (by decide +kernel) ?_
  have hH : hdO sL_setOutput hL_setOutput 4 [.ref i, .int t, .int p, .int v, .null] [eIB, eIA] := fun n E hE => match n, hE with
    | 0, hE => by
      cases hE
      exact ⟨[], ⟨0, 7, 8, 24⟩, [⟨0, 7, 14, 26⟩], 4, 2, rfl, (fun _ hy => nomatch hy), by decide, by decide, lkIB, csIB, ⟨by decide, by show okSt _ _; first | rfl | trivial | decide, Or.inr ⟨rfl, by decide +kernel⟩⟩, by decide +kernel, by decide +kernel⟩
    | 1, hE => by
      cases hE
      exact ⟨[⟨0, 7, 8, 24⟩], ⟨0, 7, 14, 26⟩, [], 4, 2, rfl, List.forall_mem_cons.mpr ⟨Or.inr ⟨by decide, eIB, lkIB, by decide⟩, (fun _ hy => nomatch hy)⟩, by decide, by decide, lkIA, csIA, ⟨by decide, by show okSt _ _; first | rfl | trivial | decide, Or.inr ⟨rfl, by decide +kernel⟩⟩, by decide +kernel, by decide +kernel⟩
    | n + 2, hE => by cases hE
  exact w_core (As := [.int t, .int p, .int v]) (y := sX4_setOutput) (k := 37) rfl rfl rfl rfl (Or.inl ⟨by decide, hP.1.1⟩) in_X4_setOutput (by decide) (by decide) (Nat.le_refl _) (Nat.le_refl _) (c_setOutput hP hB) hH (by decide +kernel) (by decide +kernel)
theorem w_setInhibitor {x : CX} {h : MH} {i np nt : Nat} {s : AS} {p t v : Int32} (hP : PO h i s) (hB : NB (aW s) np nt) : CTW x sL_setInhibitor hL_setInhibitor [.ref i, .int p, .int t, .int v] h (pI (wrQ (qArc s np nt 188 p t v) h i)) xNo := by
  refine CTW_of (o := 6) rfl (by decide) (by simp [Value.category, sL_setInhibitor]) ?_
  show MG x sL_setInhibitor 6 (XH hL_setInhibitor) _ _ 0 (3, 18) [.ref i, .int p, .int t, .int v, .null] [] h
  refine G_aload_n (k := 0) (by decide +kernel) ?_
  refine G_iload_n (k := 1) (by decide +kernel) ?_
  refine G_iload_n (k := 2) (by decide +kernel) ?_
  refine G_iload_n (k := 3) (by decide +kernel) ?_
  have hH : hdO sL_setInhibitor hL_setInhibitor 4 [.ref i, .int p, .int t, .int v, .null] [eIB, eIA] := fun n E hE => match n, hE with
    | 0, hE => by
      cases hE
      exact ⟨[], ⟨0, 7, 8, 24⟩, [⟨0, 7, 14, 26⟩], 4, 2, rfl, (fun _ hy => nomatch hy), by decide, by decide, lkIB, csIB, ⟨by decide, by show okSt _ _; first | rfl | trivial | decide, Or.inr ⟨rfl, by decide +kernel⟩⟩, by decide +kernel, by decide +kernel⟩
    | 1, hE => by
      cases hE
      exact ⟨[⟨0, 7, 8, 24⟩], ⟨0, 7, 14, 26⟩, [], 4, 2, rfl, List.forall_mem_cons.mpr ⟨Or.inr ⟨by decide, eIB, lkIB, by decide⟩, (fun _ hy => nomatch hy)⟩, by decide, by decide, lkIA, csIA, ⟨by decide, by show okSt _ _; first | rfl | trivial | decide, Or.inr ⟨rfl, by decide +kernel⟩⟩, by decide +kernel, by decide +kernel⟩
    | n + 2, hE => by cases hE
  exact w_core (As := [.int p, .int t, .int v]) (y := sX4_setInhibitor) (k := 40) rfl rfl rfl rfl (Or.inl ⟨by decide, hP.1.1⟩) in_X4_setInhibitor (by decide) (by decide) (Nat.le_refl _) (Nat.le_refl _) (c_setInhibitor hP hB) hH (by decide +kernel) (by decide +kernel)
theorem w_fire {x : CX} {h : MH} {i np nt : Nat} {s : AS} {t : Int32} (hP : PO h i s) (hB : NB (aW s) np nt) : CTW x sL_fire hL_fire [.ref i, .int t] h (pI (wrQ (qFire s np nt t) h i)) xNo := by
  refine CTW_of (o := 6) rfl (by decide) (by simp [Value.category, sL_fire]) ?_
  show MG x sL_fire 6 (XH hL_fire) _ _ 0 (2, 12) [.ref i, .int t, .null] [] h
  refine G_aload_n (k := 0) (by decide +kernel) ?_
  refine G_iload_n (k := 1) (by decide +kernel) ?_
  have hH : hdO sL_fire hL_fire 2 [.ref i, .int t, .null] [eIB, eIS] := fun n E hE => match n, hE with
    | 0, hE => by
      cases hE
      exact ⟨[], ⟨0, 5, 6, 24⟩, [⟨0, 5, 11, 31⟩], 2, 1, rfl, (fun _ hy => nomatch hy), by decide, by decide, lkIB, csIB, ⟨by decide, by show okSt _ _; first | rfl | trivial | decide, Or.inl ⟨rfl, 2, rfl, by decide +kernel⟩⟩, by decide +kernel, by decide +kernel⟩
    | 1, hE => by
      cases hE
      exact ⟨[⟨0, 5, 6, 24⟩], ⟨0, 5, 11, 31⟩, [], 2, 1, rfl, List.forall_mem_cons.mpr ⟨Or.inr ⟨by decide, eIB, lkIB, by decide⟩, (fun _ hy => nomatch hy)⟩, by decide, by decide, lkIS, csIS, ⟨by decide, by show okSt _ _; first | rfl | trivial | decide, Or.inl ⟨rfl, 2, rfl, by decide +kernel⟩⟩, by decide +kernel, by decide +kernel⟩
    | n + 2, hE => by cases hE
  exact w_core (As := [.int t]) (y := sX4_fire) (k := 43) rfl rfl rfl rfl (Or.inl ⟨by decide, hP.1.1⟩) in_X4_fire (by decide) (by decide) (Nat.le_refl _) (Nat.le_refl _) (c_fire hP hB) hH (by decide +kernel) (by decide +kernel)
theorem w_run {x : CX} {h : MH} {i np nt : Nat} {s : AS} {v : Int32} (hP : PO h i s) (hB : NB (aW s) np nt) : CTW x sL_run hL_run [.ref i, .int v] h (pI (wrQ (qRun s np nt v) h i)) xNo := by
  refine CTW_of (o := 6) rfl (by decide) (by simp [Value.category, sL_run]) ?_
  show MG x sL_run 6 (XH hL_run) _ _ 0 (1, 6) [.ref i, .int v, .null] [] h
  refine G_aload_n (k := 0) (by decide +kernel) ?_
  refine G_iload_n (k := 1) (by decide +kernel) ?_
  have hH : hdO sL_run hL_run 2 [.ref i, .int v, .null] [eIA] := fun n E hE => match n, hE with
    | 0, hE => by
      cases hE
      exact ⟨[], ⟨0, 5, 6, 26⟩, [], 2, 1, rfl, (fun _ hy => nomatch hy), by decide, by decide, lkIA, csIA, ⟨by decide, by show okSt _ _; first | rfl | trivial | decide, Or.inl ⟨rfl, 2, rfl, by decide +kernel⟩⟩, by decide +kernel, by decide +kernel⟩
    | n + 1, hE => by cases hE
  exact w_core (As := [.int v]) (y := sX4_run) (k := 47) rfl rfl rfl rfl (Or.inl ⟨by decide, hP.1.1⟩) in_X4_run (by decide) (by decide) (Nat.le_refl _) (Nat.le_refl _) (c_run hP hB) hH (by decide +kernel) (by decide +kernel)
theorem w_moveToMarking {x : CX} {h : MH} {i np nt : Nat} {s : AS} {v : Int32} (hP : PO h i s) (hB : NB (aW s) np nt) : CTW x sL_moveToMarking hL_moveToMarking [.ref i, .int v] h (pI (wrQ (qMM s np nt v) h i)) xNo := by
  refine CTW_of (o := 6) rfl (by decide) (by simp [Value.category, sL_moveToMarking]) ?_
  show MG x sL_moveToMarking 6 (XH hL_moveToMarking) _ _ 0 (1, 6) [.ref i, .int v, .null] [] h
  refine G_aload_n (k := 0) (by decide +kernel) ?_
  refine G_iload_n (k := 1) (by decide +kernel) ?_
  have hH : hdO sL_moveToMarking hL_moveToMarking 2 [.ref i, .int v, .null] [eNE] := fun n E hE => match n, hE with
    | 0, hE => by
      cases hE
      exact ⟨[], ⟨0, 5, 6, 53⟩, [], 2, 1, rfl, (fun _ hy => nomatch hy), by decide, by decide, lkNE, csNE, ⟨by decide, by show okSt _ _; first | rfl | trivial | decide, Or.inl ⟨rfl, 2, rfl, by decide +kernel⟩⟩, by decide +kernel, by decide +kernel⟩
    | n + 1, hE => by cases hE
  exact w_core (As := [.int v]) (y := sX4_moveToMarking) (k := 50) rfl rfl rfl rfl (Or.inl ⟨by decide, hP.1.1⟩) in_X4_moveToMarking (by decide) (by decide) (Nat.le_refl _) (Nat.le_refl _) (c_moveToMarking hP hB) hH (by decide +kernel) (by decide +kernel)
theorem w_tokens {x : CX} {h : MH} {i np nt : Nat} {s : AS} {v : Int32} (hP : PO h i s) (hB : NB (aW s) np nt) : CTW x sL_tokens hL_tokens [.ref i, .int v] h (pI (wrQ (qTok s np v) h i)) xNo := by
  refine CTW_of (o := 6) rfl (by decide) (by simp [Value.category, sL_tokens]) ?_
  show MG x sL_tokens 6 (XH hL_tokens) _ _ 0 (1, 6) [.ref i, .int v, .null] [] h
  refine G_aload_n (k := 0) (by decide +kernel) ?_
  refine G_iload_n (k := 1) (by decide +kernel) ?_
  have hH : hdO sL_tokens hL_tokens 2 [.ref i, .int v, .null] [eIB] := fun n E hE => match n, hE with
    | 0, hE => by
      cases hE
      exact ⟨[], ⟨0, 5, 6, 24⟩, [], 2, 1, rfl, (fun _ hy => nomatch hy), by decide, by decide, lkIB, csIB, ⟨by decide, by show okSt _ _; first | rfl | trivial | decide, Or.inl ⟨rfl, 2, rfl, by decide +kernel⟩⟩, by decide +kernel, by decide +kernel⟩
    | n + 1, hE => by cases hE
  exact w_core (As := [.int v]) (y := sX4_tokens) (k := 55) rfl rfl rfl rfl (Or.inl ⟨by decide, hP.1.1⟩) in_X4_tokens (by decide) (by decide) (Nat.le_refl _) (Nat.le_refl _) (c_tokens hP hB) hH (by decide +kernel) (by decide +kernel)
theorem w_capacity {x : CX} {h : MH} {i np nt : Nat} {s : AS} {v : Int32} (hP : PO h i s) (hB : NB (aW s) np nt) : CTW x sL_capacity hL_capacity [.ref i, .int v] h (pI (wrQ (qCap s np v) h i)) xNo := by
  refine CTW_of (o := 6) rfl (by decide) (by simp [Value.category, sL_capacity]) ?_
  show MG x sL_capacity 6 (XH hL_capacity) _ _ 0 (1, 6) [.ref i, .int v, .null] [] h
  refine G_aload_n (k := 0) (by decide +kernel) ?_
  refine G_iload_n (k := 1) (by decide +kernel) ?_
  have hH : hdO sL_capacity hL_capacity 2 [.ref i, .int v, .null] [eIB] := fun n E hE => match n, hE with
    | 0, hE => by
      cases hE
      exact ⟨[], ⟨0, 5, 6, 24⟩, [], 2, 1, rfl, (fun _ hy => nomatch hy), by decide, by decide, lkIB, csIB, ⟨by decide, by show okSt _ _; first | rfl | trivial | decide, Or.inl ⟨rfl, 2, rfl, by decide +kernel⟩⟩, by decide +kernel, by decide +kernel⟩
    | n + 1, hE => by cases hE
  exact w_core (As := [.int v]) (y := sX4_capacity) (k := 58) rfl rfl rfl rfl (Or.inl ⟨by decide, hP.1.1⟩) in_X4_capacity (by decide) (by decide) (Nat.le_refl _) (Nat.le_refl _) (c_capacity hP hB) hH (by decide +kernel) (by decide +kernel)
theorem w_whyNotEnabled {x : CX} {h : MH} {i np nt : Nat} {s : AS} {t : Int32} (hP : PO h i s) (hB : NB (aW s) np nt) : CTW x sL_whyNotEnabled hL_whyNotEnabled [.ref i, .int t] h (pI (wrQ (qWhy s np nt t) h i)) xNo := by
  refine CTW_of (o := 6) rfl (by decide) (by simp [Value.category, sL_whyNotEnabled]) ?_
  show MG x sL_whyNotEnabled 6 (XH hL_whyNotEnabled) _ _ 0 (1, 6) [.ref i, .int t, .null] [] h
  refine G_aload_n (k := 0) (by decide +kernel) ?_
  refine G_iload_n (k := 1) (by decide +kernel) ?_
  have hH : hdO sL_whyNotEnabled hL_whyNotEnabled 2 [.ref i, .int t, .null] [eIB] := fun n E hE => match n, hE with
    | 0, hE => by
      cases hE
      exact ⟨[], ⟨0, 5, 6, 24⟩, [], 2, 1, rfl, (fun _ hy => nomatch hy), by decide, by decide, lkIB, csIB, ⟨by decide, by show okSt _ _; first | rfl | trivial | decide, Or.inl ⟨rfl, 2, rfl, by decide +kernel⟩⟩, by decide +kernel, by decide +kernel⟩
    | n + 1, hE => by cases hE
  exact w_core (As := [.int t]) (y := sX4_whyNotEnabled) (k := 79) rfl rfl rfl rfl (Or.inl ⟨by decide, hP.1.1⟩) in_X4_whyNotEnabled (by decide) (by decide) (Nat.le_refl _) (Nat.le_refl _) (c_whyNotEnabled hP hB) hH (by decide +kernel) (by decide +kernel)
theorem w_blockingPlace {x : CX} {h : MH} {i np nt : Nat} {s : AS} {t : Int32} (hP : PO h i s) (hB : NB (aW s) np nt) : CTW x sL_blockingPlace hL_blockingPlace [.ref i, .int t] h (pI (wrQ (qBlk s np nt t) h i)) xNo := by
  refine CTW_of (o := 6) rfl (by decide) (by simp [Value.category, sL_blockingPlace]) ?_
  show MG x sL_blockingPlace 6 (XH hL_blockingPlace) _ _ 0 (1, 6) [.ref i, .int t, .null] [] h
  refine G_aload_n (k := 0) (by decide +kernel) ?_
  refine G_iload_n (k := 1) (by decide +kernel) ?_
  have hH : hdO sL_blockingPlace hL_blockingPlace 2 [.ref i, .int t, .null] [eIB] := fun n E hE => match n, hE with
    | 0, hE => by
      cases hE
      exact ⟨[], ⟨0, 5, 6, 24⟩, [], 2, 1, rfl, (fun _ hy => nomatch hy), by decide, by decide, lkIB, csIB, ⟨by decide, by show okSt _ _; first | rfl | trivial | decide, Or.inl ⟨rfl, 2, rfl, by decide +kernel⟩⟩, by decide +kernel, by decide +kernel⟩
    | n + 1, hE => by cases hE
  exact w_core (As := [.int t]) (y := sX4_blockingPlace) (k := 82) rfl rfl rfl rfl (Or.inl ⟨by decide, hP.1.1⟩) in_X4_blockingPlace (by decide) (by decide) (Nat.le_refl _) (Nat.le_refl _) (c_blockingPlace hP hB) hH (by decide +kernel) (by decide +kernel)
theorem w_firesInRow {x : CX} {h : MH} {i np nt : Nat} {s : AS} {t : Int32} (hP : PO h i s) (hB : NB (aW s) np nt) : CTW x sL_firesInRow hL_firesInRow [.ref i, .int t] h (pI (wrQ (qRow s np nt t) h i)) xNo := by
  refine CTW_of (o := 6) rfl (by decide) (by simp [Value.category, sL_firesInRow]) ?_
  show MG x sL_firesInRow 6 (XH hL_firesInRow) _ _ 0 (1, 6) [.ref i, .int t, .null] [] h
  refine G_aload_n (k := 0) (by decide +kernel) ?_
  refine G_iload_n (k := 1) (by decide +kernel) ?_
  have hH : hdO sL_firesInRow hL_firesInRow 2 [.ref i, .int t, .null] [eIB] := fun n E hE => match n, hE with
    | 0, hE => by
      cases hE
      exact ⟨[], ⟨0, 5, 6, 24⟩, [], 2, 1, rfl, (fun _ hy => nomatch hy), by decide, by decide, lkIB, csIB, ⟨by decide, by show okSt _ _; first | rfl | trivial | decide, Or.inl ⟨rfl, 2, rfl, by decide +kernel⟩⟩, by decide +kernel, by decide +kernel⟩
    | n + 1, hE => by cases hE
  exact w_core (As := [.int t]) (y := sX4_firesInRow) (k := 88) rfl rfl rfl rfl (Or.inl ⟨by decide, hP.1.1⟩) in_X4_firesInRow (by decide) (by decide) (Nat.le_refl _) (Nat.le_refl _) (c_firesInRow hP hB) hH (by decide +kernel) (by decide +kernel)
theorem w_firings {x : CX} {h : MH} {i np nt : Nat} {s : AS} {v : Int32} (hP : PO h i s) (hB : NB (aW s) np nt) : CTW x sL_firings hL_firings [.ref i, .int v] h (pI (wrQ (qFrd s nt v) h i)) xNo := by
  refine CTW_of (o := 6) rfl (by decide) (by simp [Value.category, sL_firings]) ?_
  show MG x sL_firings 6 (XH hL_firings) _ _ 0 (1, 6) [.ref i, .int v, .null] [] h
  refine G_aload_n (k := 0) (by decide +kernel) ?_
  refine G_iload_n (k := 1) (by decide +kernel) ?_
  have hH : hdO sL_firings hL_firings 2 [.ref i, .int v, .null] [eIB] := fun n E hE => match n, hE with
    | 0, hE => by
      cases hE
      exact ⟨[], ⟨0, 5, 6, 24⟩, [], 2, 1, rfl, (fun _ hy => nomatch hy), by decide, by decide, lkIB, csIB, ⟨by decide, by show okSt _ _; first | rfl | trivial | decide, Or.inl ⟨rfl, 2, rfl, by decide +kernel⟩⟩, by decide +kernel, by decide +kernel⟩
    | n + 1, hE => by cases hE
  exact w_core (As := [.int v]) (y := sX4_firings) (k := 85) rfl rfl rfl rfl (Or.inl ⟨by decide, hP.1.1⟩) in_X4_firings (by decide) (by decide) (Nat.le_refl _) (Nat.le_refl _) (c_firings hP hB) hH (by decide +kernel) (by decide +kernel)
theorem w_effect {x : CX} {h : MH} {i np nt : Nat} {s : AS} {t p : Int32} (hP : PO h i s) (hB : NB (aW s) np nt) : CTW x sL_effect hL_effect [.ref i, .int t, .int p] h (pI (wrQ (qEff s np nt t p) h i)) xNo := by
  refine CTW_of (o := 6) rfl (by decide) (by simp [Value.category, sL_effect]) ?_
  show MG x sL_effect 6 (XH hL_effect) _ _ 0 (2, 12) [.ref i, .int t, .int p, .null] [] h
  refine G_aload_n (k := 0) (by decide +kernel) ?_
  refine G_iload_n (k := 1) (by decide +kernel) ?_
  refine G_iload_n (k := 2) (by decide +kernel) ?_
  have hH : hdO sL_effect hL_effect 3 [.ref i, .int t, .int p, .null] [eIB] := fun n E hE => match n, hE with
    | 0, hE => by
      cases hE
      exact ⟨[], ⟨0, 6, 7, 24⟩, [], 3, 1, rfl, (fun _ hy => nomatch hy), by decide, by decide, lkIB, csIB, ⟨by decide, by show okSt _ _; first | rfl | trivial | decide, Or.inl ⟨rfl, 3, rfl, by decide +kernel⟩⟩, by decide +kernel, by decide +kernel⟩
    | n + 1, hE => by cases hE
  exact w_core (As := [.int t, .int p]) (y := sX4_effect) (k := 70) rfl rfl rfl rfl (Or.inl ⟨by decide, hP.1.1⟩) in_X4_effect (by decide) (by decide) (Nat.le_refl _) (Nat.le_refl _) (c_effect hP hB) hH (by decide +kernel) (by decide +kernel)
theorem w_markingTokens {x : CX} {h : MH} {i np nt : Nat} {s : AS} {v p : Int32} (hP : PO h i s) (hB : NB (aW s) np nt) : CTW x sL_markingTokens hL_markingTokens [.ref i, .int v, .int p] h (pI (wrQ (qMT s np nt v p) h i)) xNo := by
  refine CTW_of (o := 6) rfl (by decide) (by simp [Value.category, sL_markingTokens]) ?_
  show MG x sL_markingTokens 6 (XH hL_markingTokens) _ _ 0 (2, 12) [.ref i, .int v, .int p, .null] [] h
  refine G_aload_n (k := 0) (by decide +kernel) ?_
  refine G_iload_n (k := 1) (by decide +kernel) ?_
  refine G_iload_n (k := 2) (by decide +kernel) ?_
  have hH : hdO sL_markingTokens hL_markingTokens 3 [.ref i, .int v, .int p, .null] [eIB, eNE] := fun n E hE => match n, hE with
    | 0, hE => by
      cases hE
      exact ⟨[], ⟨0, 6, 7, 24⟩, [⟨0, 6, 12, 53⟩], 3, 1, rfl, (fun _ hy => nomatch hy), by decide, by decide, lkIB, csIB, ⟨by decide, by show okSt _ _; first | rfl | trivial | decide, Or.inl ⟨rfl, 3, rfl, by decide +kernel⟩⟩, by decide +kernel, by decide +kernel⟩
    | 1, hE => by
      cases hE
      exact ⟨[⟨0, 6, 7, 24⟩], ⟨0, 6, 12, 53⟩, [], 3, 1, rfl, List.forall_mem_cons.mpr ⟨Or.inr ⟨by decide, eIB, lkIB, by decide⟩, (fun _ hy => nomatch hy)⟩, by decide, by decide, lkNE, csNE, ⟨by decide, by show okSt _ _; first | rfl | trivial | decide, Or.inl ⟨rfl, 3, rfl, by decide +kernel⟩⟩, by decide +kernel, by decide +kernel⟩
    | n + 2, hE => by cases hE
  exact w_core (As := [.int v, .int p]) (y := sX4_markingTokens) (k := 99) rfl rfl rfl rfl (Or.inl ⟨by decide, hP.1.1⟩) in_X4_markingTokens (by decide) (by decide) (Nat.le_refl _) (Nat.le_refl _) (c_markingTokens hP hB) hH (by decide +kernel) (by decide +kernel)
theorem w_markingDistance {x : CX} {h : MH} {i np nt : Nat} {s : AS} {v : Int32} (hP : PO h i s) (hB : NB (aW s) np nt) : CTW x sL_markingDistance hL_markingDistance [.ref i, .int v] h (pI (wrQ (qMD s np nt v) h i)) xNo := by
  refine CTW_of (o := 6) rfl (by decide) (by simp [Value.category, sL_markingDistance]) ?_
  show MG x sL_markingDistance 6 (XH hL_markingDistance) _ _ 0 (1, 6) [.ref i, .int v, .null] [] h
  refine G_aload_n (k := 0) (by decide +kernel) ?_
  refine G_iload_n (k := 1) (by decide +kernel) ?_
  have hH : hdO sL_markingDistance hL_markingDistance 2 [.ref i, .int v, .null] [eNE] := fun n E hE => match n, hE with
    | 0, hE => by
      cases hE
      exact ⟨[], ⟨0, 5, 6, 53⟩, [], 2, 1, rfl, (fun _ hy => nomatch hy), by decide, by decide, lkNE, csNE, ⟨by decide, by show okSt _ _; first | rfl | trivial | decide, Or.inl ⟨rfl, 2, rfl, by decide +kernel⟩⟩, by decide +kernel, by decide +kernel⟩
    | n + 1, hE => by cases hE
  exact w_core (As := [.int v]) (y := sX4_markingDistance) (k := 102) rfl rfl rfl rfl (Or.inl ⟨by decide, hP.1.1⟩) in_X4_markingDistance (by decide) (by decide) (Nat.le_refl _) (Nat.le_refl _) (c_markingDistance hP hB) hH (by decide +kernel) (by decide +kernel)
theorem w_markingTransition {x : CX} {h : MH} {i np nt : Nat} {s : AS} {v : Int32} (hP : PO h i s) (hB : NB (aW s) np nt) : CTW x sL_markingTransition hL_markingTransition [.ref i, .int v] h (pI (wrQ (qMF s np nt v) h i)) xNo := by
  refine CTW_of (o := 6) rfl (by decide) (by simp [Value.category, sL_markingTransition]) ?_
  show MG x sL_markingTransition 6 (XH hL_markingTransition) _ _ 0 (1, 6) [.ref i, .int v, .null] [] h
  refine G_aload_n (k := 0) (by decide +kernel) ?_
  refine G_iload_n (k := 1) (by decide +kernel) ?_
  have hH : hdO sL_markingTransition hL_markingTransition 2 [.ref i, .int v, .null] [eNE] := fun n E hE => match n, hE with
    | 0, hE => by
      cases hE
      exact ⟨[], ⟨0, 5, 6, 53⟩, [], 2, 1, rfl, (fun _ hy => nomatch hy), by decide, by decide, lkNE, csNE, ⟨by decide, by show okSt _ _; first | rfl | trivial | decide, Or.inl ⟨rfl, 2, rfl, by decide +kernel⟩⟩, by decide +kernel, by decide +kernel⟩
    | n + 1, hE => by cases hE
  exact w_core (As := [.int v]) (y := sX4_markingTransition) (k := 105) rfl rfl rfl rfl (Or.inl ⟨by decide, hP.1.1⟩) in_X4_markingTransition (by decide) (by decide) (Nat.le_refl _) (Nat.le_refl _) (c_markingTransition hP hB) hH (by decide +kernel) (by decide +kernel)
