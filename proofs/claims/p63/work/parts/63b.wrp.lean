section WRP
variable {x : CX}
def XH (hh : List (Nat × Nat × Nat × Nat)) : State → Code → Prop := fun _ c => c.exceptionTable.toList = tableOf hh
variable {q : MS} {o : Nat} {X : State → Code → Prop} {post : Option Value → MH → Prop} {xp : String → MH → Prop} {pc : Nat} {b : Nat × Nat} {L st : List Value} {h : MH} {hh : List (Nat × Nat × Nat × Nat)}
theorem CTW_of {as : List Value} (ho : oR o = q.1.cls) (hp : plainName q.1.cls = true) (hn : (as.flatMap fun v => if v.category = 2 then [v, Value.null] else [v]).length ≤ q.2.2.1)
    (hs : MG x q o (XH hh) post xp 0 (q.2.2.2.2.2.2.2.1, q.2.2.2.2.2.2.2.2) (locE as q.2.2.1) [] h) : CTW x q hh as h post xp := by
  refine vx_ofWH (cc := q.2.1) (maxL := q.2.2.1) (ret := q.2.2.2.1) (hh := hh) hp rfl fun p e s m args below meth c s₁ B hml hv => ?_
  obtain ⟨rfl, hR, hG⟩ := hv
  have hts := atoms_spec (ws := wsW q hh) B.pre
  have hxt := vx_table (x := q.1) B (hts _ List.mem_cons_self)
  have hlen := lg_len as
  have hl := lv_entry as (n := q.2.2.1) (by rw [hlen]; exact hn)
  rw [lg_entry_eq]
  refine hs p e s m as.toArray below meth c s.heap [] 0 0 _ ⟨⟨B.exec, B.bytes, hml, B.returns, fun w hw => hts w (List.mem_cons_of_mem _ hw), by rw [ho]; exact findClass_of_methodNamed B.named, B.notSynchronized, trivial, trivial, hG⟩, hxt⟩ hR va_S.rf ⟨⟨hl.1, hl.2.1, fun z hz => ?_⟩, ?_⟩ (by simp) (by simp)
  · unfold locE at hz
    rw [lvF_app] at hz
    rcases List.mem_append.mp hz with g | g
    · exact hl.2.2 z (lvF_args as 0 z g)
    · rw [lvF_nulls] at g
      exact absurd g List.not_mem_nil
  · unfold locE
    simp only [List.length_append, List.length_replicate]
    omega
/-- caught -/
theorem G_catch {p : Program} {e : Env} {s : State} {m : MethodId} {args : Array Value} {below : List Frame} {meth : Method} {c : Code} {H1 : Heap} {locs1 : List Loc} {cells slots : Nat} {ls : Array Slot} {ce : Cell} {qa : Nat} {rest : List Value} {E : String}
    (pre : List ExceptionTableEntry) (z : ExceptionTableEntry) (suf : List ExceptionTableEntry) (hsplit : tableOf hh = pre ++ z :: suf) (hpass : ∀ y ∈ pre, covers y pc = false ∨ (y.catchType ≠ 0 ∧ ∃ nm, Cond.classLink (oR o) y.catchType nm ∈ WS ∧ (E, nm) ∈ ncP))
    (hcov : covers z pc = true) (h0 : z.catchType ≠ 0) (hlink : Cond.classLink (oR o) z.catchType E ∈ WS) (hcast : Cond.castable E E ∈ wNG) (hB : BX x q o (XH hh) p s m args meth c) (hR : RP x h H1) (hS : va_S (xA x) s.heap H1 locs1) (hL : LR ls q.2.2.1 L)
    (h1 : cells + b.1 ≤ q.2.2.2.2.2.2.2.1) (h2 : slots + b.2 ≤ q.2.2.2.2.2.2.2.2) (hce : H1[qa]? = some ce) (hcv : ce.vm = .none) (hcl : s.vm.findClass E = some ce.cls) (hs : MG x q o (XH hh) post xp z.handlerPc b L [.ref qa] h) :
    vx_W p x.1 e (rmE q) s m args below meth c H1 locs1 cells slots (vx_MQ below (QcE x post) (XcE x xp) args s q.2.2.2.2.2.2.2.1 q.2.2.2.2.2.2.2.2 (xA x)) (F0 m pc ls rest) qa := by
  have hts := hB.1.2.2.2.2.1
  obtain ⟨g1, g2, g3, g4, g5, g6, g7, g8, g9, g10, g11, g12, g13, g14, g15⟩ := hB.1.2.2.2.2.2.2.2.2.2
  exact vx_catch hB.1.2.2.2.2.2.1 pre z suf (hB.2.trans hsplit) (fun y hy => (hpass y hy).imp id fun ⟨a, nm, l, n⟩ => ⟨a, nm, hts _ l, g13 _ n⟩) hcov h0 (hts _ hlink) (va_Nw.use (wNG_on _ hcast) (g12 _ hcast)) hce hcv hcl (hs p e s m args below meth c H1 locs1 cells slots ls hB hR hS hL h1 h2)
/-- what the law sees: the value, or -7777 -/
def wvA (A : AR) : Int32 := if A.1 = 0 then A.2.1 else -7777
def wrQ (A : AR) (h : MH) (i : Nat) (r : Int32) (h' : MH) : Prop := r = wvA A ∧ PO h' i A.2.2 ∧ FZ h h' i (i + 119)
/-- the handlers: for each exception its row -/
def hdO (q : MS) (hh : List (Nat × Nat × Nat × Nat)) (P : Nat) (L : List Value) (Ls : List String) : Prop := ∀ (n : Nat) (E : String), Ls[n]? = some E → ∃ (pre : List ExceptionTableEntry) (z : ExceptionTableEntry) (suf : List ExceptionTableEntry) (v lv : Nat), tableOf hh = pre ++ z :: suf ∧ (∀ y ∈ pre, covers y P = false ∨ (y.catchType ≠ 0 ∧ ∃ nm, Cond.classLink (oR 6) y.catchType nm ∈ WS ∧ (E, nm) ∈ ncP)) ∧ covers z P = true ∧ z.catchType ≠ 0 ∧ Cond.classLink (oR 6) z.catchType E ∈ WS ∧ Cond.castable E E ∈ wNG ∧
  (v < q.2.2.1 ∧ okSt L v ∧ ((lv = 1 ∧ ∃ k : Fin 4, k.val = v ∧ decode q.2.1 z.handlerPc = .ok (.astore_n k, 1)) ∨ (lv = 2 ∧ decode q.2.1 z.handlerPc = .ok (.astore v, 2)))) ∧ decode q.2.1 (z.handlerPc + lv) = .ok (.sipush (-7777), 3) ∧ decode q.2.1 (z.handlerPc + lv + 3) = .ok (.ireturn, 1)
theorem cI_7777 : cI (-7777) = -7777 := rfl
theorem w_kx {P i : Nat} {A : AR} {Ls : List String} {r : List Value} (hr : q.2.2.2.1 = some .int) (hH : hdO q hh P L Ls) : ∀ E h', thP A Ls h i E h' → ∀ p e s m args below meth c H1 locs1 cells slots ls ce qa, BX x q 6 (XH hh) p s m args meth c → RP x h' H1 → va_S (xA x) s.heap H1 locs1 → LR ls q.2.2.1 L → cells + b.1 ≤ q.2.2.2.2.2.2.2.1 → slots + b.2 ≤ q.2.2.2.2.2.2.2.2 → H1[qa]? = some ce → ce.vm = .none → s.vm.findClass E = some ce.cls →
      vx_W p x.1 e (rmE q) s m args below meth c H1 locs1 cells slots (vx_MQ below (QcE x (pI (wrQ A h i))) (XcE x xNo) args s q.2.2.2.2.2.2.2.1 q.2.2.2.2.2.2.2.2 (xA x)) (F0 m P ls r) qa := by
  intro E h' ⟨b1, b2, b3, b4⟩ p e s m args below meth c H1 locs1 cells slots ls ce qa hB hR hS hL h1 h2 hce hcv hcl
  obtain ⟨pre, z, suf, v, lv, k1, k2, k3, k4, k5, k6, ⟨k7, k8, k9⟩, k10, k12⟩ := hH _ E b2
  refine G_catch (b := b) (h := h') (L := L) pre z suf k1 k2 k3 k4 k5 k6 hB hR hS hL h1 h2 hce hcv hcl ?_
  have go : MG x q 6 (XH hh) (pI (wrQ A h i)) xNo (z.handlerPc + lv) b (setV L v (.ref qa)) [] h' := by
    refine G_sipush (by decide) k10 ?_
    refine G_ireturn k12 ?_
    refine ⟨Or.inl hr, cI (-7777), rfl, ?_, b3, b4⟩
    rw [cI_7777]
    exact (if_neg b1).symm
  rcases k9 with ⟨rfl, k, rfl, k9⟩ | ⟨rfl, k9⟩
  · exact G_astore_n k7 k9 ⟨k8, go⟩
  · exact G_astore k7 k9 ⟨k8, go⟩
/-- from the call on -/
theorem w_core {P i k : Nat} {A : AR} {Ls : List String} {As : List Value} {y : MS} (hr : q.2.2.2.1 = some .int) (hf : mT 6 k = some y) (hst : st = As.reverse ++ .ref i :: []) (hn : As.length = msN y) (hrc : rcvE x h i (msR y)) (hni : ¬ noV y) (hdp : msD y < msD q) (hml : y.2.2.1 ≤ 21) (c1 : y.2.2.2.2.2.2.2.1 ≤ b.1) (c2 : y.2.2.2.2.2.2.2.2 ≤ b.2)
    (hC : CT x y (.ref i :: As) h (pI (okP A h i)) (thP A Ls h i)) (hH : hdO q hh P L Ls)
    (hd : decode q.2.1 P = .ok (.invokevirtual k, 3)) (hd1 : decode q.2.1 (P + 3) = .ok (.ireturn, 1)) :
    MG x q 6 (XH hh) (pI (wrQ A h i)) xNo P b L st h := by
  refine G_virt (by decide) hf hd hst hn hrc hni (show 0 ≤ 8 by decide) hdp hml c1 c2 hC (w_kx (b := (b.1 - y.2.2.2.2.2.2.2.1, b.2 - y.2.2.2.2.2.2.2.2)) (h := h) (A := A) hr hH) fun v h' hv => ?_
  obtain ⟨r, rfl, a1, a2, a3, a4⟩ := hv
  refine G_ireturn hd1 ⟨Or.inl hr, r, rfl, ?_, a3, a4⟩
  rw [a2]
  exact (if_pos a1).symm
theorem lkIB : Cond.classLink (oR 6) 24 eIB ∈ WS := ws_of 758 (by decide +kernel) (by decide +kernel)
theorem lkIA : Cond.classLink (oR 6) 26 eIA ∈ WS := ws_of 759 (by decide +kernel) (by decide +kernel)
theorem lkIS : Cond.classLink (oR 6) 31 eIS ∈ WS := ws_of 793 (by decide +kernel) (by decide +kernel)
theorem lkNE : Cond.classLink (oR 6) 53 eNE ∈ WS := ws_of 914 (by decide +kernel) (by decide +kernel)
theorem csIA : Cond.castable eIA eIA ∈ wNG := List.mem_of_getElem? (i := 0) rfl
theorem csIB : Cond.castable eIB eIB ∈ wNG := List.mem_of_getElem? (i := 1) rfl
theorem csIS : Cond.castable eIS eIS ∈ wNG := List.mem_of_getElem? (i := 2) rfl
theorem csNE : Cond.castable eNE eNE ∈ wNG := List.mem_of_getElem? (i := 3) rfl
end WRP
