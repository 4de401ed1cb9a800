section WRP
variable {x : CX}
def wsW (q : MS) (hh : List (Nat × Nat × Nat × Nat)) : List Cond := Cond.codeWith q.1 q.2.1 q.2.2.1 q.2.2.2.1 hh :: WS
/-- a contract of a method with handlers -/
def CTW (x : CX) (q : MS) (hh : List (Nat × Nat × Nat × Nat)) (as : List Value) (h : MH) (post : Option Value → MH → Prop) (xp : String → MH → Prop) : Prop :=
  vx_Met x.1 q.1 (wsW q hh) (rmE q) (PcE x as h) (QcE x post) (XcE x xp) q.2.2.2.2.2.2.2.1 q.2.2.2.2.2.2.2.2 (xA x)
def XH (hh : List (Nat × Nat × Nat × Nat)) : State → Code → Prop := fun _ c => c.exceptionTable.toList = tableOf hh
variable {q : MS} {o : Nat} {X : State → Code → Prop} {post : Option Value → MH → Prop} {xp : String → MH → Prop} {pc : Nat} {b : Nat × Nat} {L st : List Value} {h : MH} {hh : List (Nat × Nat × Nat × Nat)}
theorem CTW_of {as : List Value} (ho : oR o = q.1.cls) (hp : plainName q.1.cls = true) (hn : (as.flatMap fun v => if v.category = 2 then [v, Value.null] else [v]).length ≤ q.2.2.1)
    (hs : MG x q o (XH hh) post xp 0 (q.2.2.2.2.2.2.2.1, q.2.2.2.2.2.2.2.2) (locE as q.2.2.1) [] h) : CTW x q hh as h post xp := by
  refine vx_ofWH (cc := q.2.1) (maxL := q.2.2.1) (ret := q.2.2.2.1) (hh := hh) hp rfl fun p e s m args below meth c s₁ B hml hv => ?_
  obtain ⟨rfl, hR, hG⟩ := hv
  have hts := atoms_spec (ws := wsW q hh) B.pre
  have hxt := vx_table (x := q.1) B (hts _ List.mem_cons_self)
  have hlen := lg_len as
  have hl := lv_entry as (n := q.2.2.1) (by rw [hlen]; exact hn)
  rw [lg_entry_eq]
  refine hs p e s m as.toArray below meth c s.heap [] 0 0 _ ⟨⟨B.exec, B.bytes, hml, B.returns, fun w hw => hts w (List.mem_cons_of_mem _ hw), by rw [ho]; exact findClass_of_methodNamed B.named, B.notSynchronized, trivial, trivial, hG⟩, hxt⟩ hR va_S.rf ⟨⟨hl.1, hl.2.1, fun z hz => ?_⟩, ?_⟩ (by simp) (by simp)
  · unfold locE at hz
    rw [lvF_app] at hz
    rcases List.mem_append.mp hz with g | g
    · exact hl.2.2 z (lvF_args as 0 z g)
    · rw [lvF_nulls] at g
      exact absurd g List.not_mem_nil
  · unfold locE
    simp only [List.length_append, List.length_replicate]
    omega
/-- caught -/
theorem G_catch {p : Program} {e : Env} {s : State} {m : MethodId} {args : Array Value} {below : List Frame} {meth : Method} {c : Code} {H1 : Heap} {locs1 : List Loc} {cells slots : Nat} {ls : Array Slot} {ce : Cell} {qa : Nat} {rest : List Value} {E : String}
    (pre : List ExceptionTableEntry) (z : ExceptionTableEntry) (suf : List ExceptionTableEntry) (hsplit : tableOf hh = pre ++ z :: suf) (hpass : ∀ y ∈ pre, covers y pc = false ∨ (y.catchType ≠ 0 ∧ ∃ nm, Cond.classLink (oR o) y.catchType nm ∈ WS ∧ (E, nm) ∈ ncP))
    (hcov : covers z pc = true) (h0 : z.catchType ≠ 0) (hlink : Cond.classLink (oR o) z.catchType E ∈ WS) (hcast : Cond.castable E E ∈ wNG) (hB : BX x q o (XH hh) p s m args meth c) (hR : RP x h H1) (hS : va_S (xA x) s.heap H1 locs1) (hL : LR ls q.2.2.1 L)
    (h1 : cells + b.1 ≤ q.2.2.2.2.2.2.2.1) (h2 : slots + b.2 ≤ q.2.2.2.2.2.2.2.2) (hce : H1[qa]? = some ce) (hcv : ce.vm = .none) (hcl : s.vm.findClass E = some ce.cls) (hs : MG x q o (XH hh) post xp z.handlerPc b L [.ref qa] h) :
    vx_W p x.1 e (rmE q) s m args below meth c H1 locs1 cells slots (vx_MQ below (QcE x post) (XcE x xp) args s q.2.2.2.2.2.2.2.1 q.2.2.2.2.2.2.2.2 (xA x)) (F0 m pc ls rest) qa := by
  have hts := hB.1.2.2.2.2.1
  obtain ⟨g1, g2, g3, g4, g5, g6, g7, g8, g9, g10, g11, g12, g13, g14, g15⟩ := hB.1.2.2.2.2.2.2.2.2.2
  exact vx_catch hB.1.2.2.2.2.2.1 pre z suf (hB.2.trans hsplit) (fun y hy => (hpass y hy).imp id fun ⟨a, nm, l, n⟩ => ⟨a, nm, hts _ l, g13 _ n⟩) hcov h0 (hts _ hlink) (va_Nw.use (wNG_on _ hcast) (g12 _ hcast)) hce hcv hcl (hs p e s m args below meth c H1 locs1 cells slots ls hB hR hS hL h1 h2)
/-- out of a class's op and what the law's method writes: k, and the value in out -/
def FW (h h' : MH) (i o : Nat) : Prop := mZ h ≤ mZ h' ∧ (∀ a, a < i ∨ i + 119 ≤ a → a ≠ o → EQa h h' a) ∧ mK h' o = mK h o ∧ mL h' o = mL h o
def wrP (A : AR) (h : MH) (i u : Nat) (r : Int32) (h' : MH) : Prop := r = nI A.1 ∧ (A.1 = 0 → mJ h' u 0 = A.2.1.toInt64) ∧ PO h' i A.2.2 ∧ FW h h' i u
theorem FW_fz {h h' : MH} {i u : Nat} (hF : FZ h h' i (i + 119)) (hu : u < i ∨ i + 119 ≤ u) : FW h h' i u := ⟨hF.1, fun a ha _ => hF.2 a ha, (hF.2 u hu).1, (hF.2 u hu).2.1⟩
theorem FW_J {h h' : MH} {i u : Nat} {v : Int64} (hF : FZ h h' i (i + 119)) (hu : u < i ∨ i + 119 ≤ u) : FW h (sJ h' u 0 v) i u :=
  ⟨hF.1, fun a ha hne => EQ_tr (hF.2 a ha) ⟨rfl, rfl, fun k => ⟨rfl, rfl, sJ_Ja hne⟩⟩, (hF.2 u hu).1, (hF.2 u hu).2.1⟩
theorem PO_J {h : MH} {i u : Nat} {v : Int64} {s : AS} (hP : PO h i s) (hu : u < i ∨ i + 119 ≤ u) : PO (sJ h u 0 v) i s := PO_ea hP fun a h1 h2 => ⟨rfl, rfl, fun k => ⟨rfl, rfl, sJ_Ja (by omega)⟩⟩
/-- the handlers: for each exception in order its row, its number -/
def hdO (q : MS) (hh : List (Nat × Nat × Nat × Nat)) (P : Nat) (L : List Value) (Ls : List String) : Prop := ∀ n E, Ls[n]? = some E → ∃ (pre : List ExceptionTableEntry) (z : ExceptionTableEntry) (suf : List ExceptionTableEntry) (v lv : Nat) (kn : Int), tableOf hh = pre ++ z :: suf ∧ (∀ y ∈ pre, covers y P = false ∨ (y.catchType ≠ 0 ∧ ∃ nm, Cond.classLink (oR 6) y.catchType nm ∈ WS ∧ (E, nm) ∈ ncP)) ∧ covers z P = true ∧ z.catchType ≠ 0 ∧ Cond.classLink (oR 6) z.catchType E ∈ WS ∧ Cond.castable E E ∈ wNG ∧
  (v < q.2.2.1 ∧ okSt L v ∧ ((lv = 1 ∧ ∃ k : Fin 4, k.val = v ∧ decode q.2.1 z.handlerPc = .ok (.astore_n k, 1)) ∨ (lv = 2 ∧ decode q.2.1 z.handlerPc = .ok (.astore v, 2)))) ∧ decode q.2.1 (z.handlerPc + lv) = .ok (.iconst kn, 1) ∧ cI kn = nI (n + 1) ∧ decode q.2.1 (z.handlerPc + lv + 1) = .ok (.ireturn, 1)
theorem w_kx {P i u : Nat} {A : AR} {Ls : List String} {r : List Value} (hr : q.2.2.2.1 = some .int) (hH : hdO q hh P L Ls) (hu : u < i ∨ i + 119 ≤ u) : ∀ E h', thP A Ls h i E h' → ∀ p e s m args below meth c H1 locs1 cells slots ls ce qa, BX x q 6 (XH hh) p s m args meth c → RP x h' H1 → va_S (xA x) s.heap H1 locs1 → LR ls q.2.2.1 L → cells + b.1 ≤ q.2.2.2.2.2.2.2.1 → slots + b.2 ≤ q.2.2.2.2.2.2.2.2 → H1[qa]? = some ce → ce.vm = .none → s.vm.findClass E = some ce.cls →
      vx_W p x.1 e (rmE q) s m args below meth c H1 locs1 cells slots (vx_MQ below (QcE x (pI (wrP A h i u))) (XcE x xNo) args s q.2.2.2.2.2.2.2.1 q.2.2.2.2.2.2.2.2 (xA x)) (F0 m P ls r) qa := by
  intro E h' ⟨b1, b2, b3, b4⟩ p e s m args below meth c H1 locs1 cells slots ls ce qa hB hR hS hL h1 h2 hce hcv hcl
  obtain ⟨pre, z, suf, v, lv, kn, k1, k2, k3, k4, k5, k6, ⟨k7, k8, k9⟩, k10, k11, k12⟩ := hH _ E b2
  refine G_catch (b := b) (h := h') (L := L) pre z suf k1 k2 k3 k4 k5 k6 hB hR hS hL h1 h2 hce hcv hcl ?_
  have go : MG x q 6 (XH hh) (pI (wrP A h i u)) xNo (z.handlerPc + lv) b (setV L v (.ref qa)) [] h' := by
    refine G_iconst k10 ?_
    refine G_ireturn k12 ?_
    refine ⟨Or.inl hr, cI kn, rfl, ?_, fun g => absurd g b1, b3, FW_fz b4 hu⟩
    rw [k11]
    congr 1
    omega
  rcases k9 with ⟨rfl, k, rfl, k9⟩ | ⟨rfl, k9⟩
  · exact G_astore_n k7 k9 ⟨k8, go⟩
  · exact G_astore k7 k9 ⟨k8, go⟩
theorem clz : (cI 0).toNatClampNeg = 0 := by decide
theorem cI0 : cI 0 = nI 0 := rfl
/-- from the call on: an int's method -/
theorem w_core {P i u k : Nat} {A : AR} {Ls : List String} {As : List Value} {y : MS} {of : Int} (hr : q.2.2.2.1 = some .int) (hf : mT 6 k = some y) (hst : st = As.reverse ++ .ref i :: [.int (cI 0), .ref u]) (hn : As.length = msN y) (hrc : rcvE x h i (msR y)) (hni : ¬ isIn y) (hdp : msD y < msD q) (hml : y.2.2.1 ≤ 21) (c1 : y.2.2.2.2.2.2.2.1 ≤ b.1) (c2 : y.2.2.2.2.2.2.2.2 ≤ b.2)
    (hC : CT x y (.ref i :: As) h (pI (okP A h i)) (thP A Ls h i)) (hH : hdO q hh P L Ls) (hu : u < i ∨ i + 119 ≤ u) (ho : mK h u = 13 ∧ mL h u = 1)
    (hd : decode q.2.1 P = .ok (.invokevirtual k, 3)) (hd1 : decode q.2.1 (P + 3) = .ok (.i2l, 1)) (hd2 : decode q.2.1 (P + 4) = .ok (.lastore, 1)) (hd3 : decode q.2.1 (P + 5) = .ok (.goto of, 3)) {E : Nat} (hE : ((P + 5 : Nat) : Int) + of = (E : Int)) (hd4 : decode q.2.1 E = .ok (.iconst 0, 1)) (hd5 : decode q.2.1 (E + 1) = .ok (.ireturn, 1)) :
    MG x q 6 (XH hh) (pI (wrP A h i u)) xNo P b L st h := by
  refine G_virt (by decide) hf hd hst hn hrc hni (show 2 ≤ 8 by decide) hdp hml c1 c2 hC (w_kx (b := (b.1 - y.2.2.2.2.2.2.2.1, b.2 - y.2.2.2.2.2.2.2.2)) (h := h) (A := A) hr hH hu) fun v h' hv => ?_
  obtain ⟨r, rfl, a1, a2, a3, a4⟩ := hv
  refine G_i2l hd1 ?_
  refine G_lastore hd2 ⟨(a4.2 u hu).1.trans ho.1, ?_, ?_⟩
  · rw [(a4.2 u hu).2.1.trans ho.2]; exact vp_in_nI (n := 0) (by decide) (by decide)
  refine G_go hd3 hE ?_
  show MG x q 6 (XH hh) (pI (wrP A h i u)) xNo E _ L [] _
  refine G_iconst hd4 ?_
  refine G_ireturn hd5 ⟨Or.inl hr, cI 0, rfl, by rw [a1, cI0], fun _ => ?_, PO_J a3 hu, FW_J a4 hu⟩
  rw [clz, sJ_Je, a2]
/-- from the call on: a boolean's method -/
theorem w_coreZ {P i u k : Nat} {A : AR} {Ls : List String} {As : List Value} {y : MS} {of : Int} (hz : A.2.1 = nI 0 ∨ A.2.1 = nI 1) (hr : q.2.2.2.1 = some .int) (hf : mT 6 k = some y) (hst : st = As.reverse ++ .ref i :: [.int (cI 0), .ref u]) (hn : As.length = msN y) (hrc : rcvE x h i (msR y)) (hni : ¬ isIn y) (hdp : msD y < msD q) (hml : y.2.2.1 ≤ 21) (c1 : y.2.2.2.2.2.2.2.1 ≤ b.1) (c2 : y.2.2.2.2.2.2.2.2 ≤ b.2)
    (hC : CT x y (.ref i :: As) h (pI (okP A h i)) (thP A Ls h i)) (hH : hdO q hh P L Ls) (hu : u < i ∨ i + 119 ≤ u) (ho : mK h u = 13 ∧ mL h u = 1)
    (hd : decode q.2.1 P = .ok (.invokevirtual k, 3)) (hd1 : decode q.2.1 (P + 3) = .ok (.ifCond .eq 7, 3)) (hd2 : decode q.2.1 (P + 6) = .ok (.lconst 1, 1)) (hd3 : decode q.2.1 (P + 7) = .ok (.goto 4, 3)) (hd4 : decode q.2.1 (P + 10) = .ok (.lconst 0, 1)) (hd5 : decode q.2.1 (P + 11) = .ok (.lastore, 1)) (hd6 : decode q.2.1 (P + 12) = .ok (.goto of, 3)) {E : Nat} (hE : ((P + 12 : Nat) : Int) + of = (E : Int)) (hd7 : decode q.2.1 E = .ok (.iconst 0, 1)) (hd8 : decode q.2.1 (E + 1) = .ok (.ireturn, 1)) :
    MG x q 6 (XH hh) (pI (wrP A h i u)) xNo P b L st h := by
  refine G_virt (by decide) hf hd hst hn hrc hni (show 2 ≤ 8 by decide) hdp hml c1 c2 hC (w_kx (b := (b.1 - y.2.2.2.2.2.2.2.1, b.2 - y.2.2.2.2.2.2.2.2)) (h := h) (A := A) hr hH hu) fun v h' hv => ?_
  obtain ⟨r, rfl, a1, a2, a3, a4⟩ := hv
  have fin : ∀ w : Int64, w = A.2.1.toInt64 → MG x q 6 (XH hh) (pI (wrP A h i u)) xNo (P + 11) (b.1 - y.2.2.2.2.2.2.2.1, b.2 - y.2.2.2.2.2.2.2.2) L [.long w, .int (cI 0), .ref u] h' := fun w hw => by
    refine G_lastore hd5 ⟨(a4.2 u hu).1.trans ho.1, ?_, ?_⟩
    · rw [(a4.2 u hu).2.1.trans ho.2]; exact vp_in_nI (n := 0) (by decide) (by decide)
    refine G_go hd6 hE ?_
    show MG x q 6 (XH hh) (pI (wrP A h i u)) xNo E _ L [] _
    refine G_iconst hd7 ?_
    refine G_ireturn hd8 ⟨Or.inl hr, cI 0, rfl, by rw [a1, cI0], fun _ => ?_, PO_J a3 hu, FW_J a4 hu⟩
    rw [clz, sJ_Je, hw]
  refine G_if (T := P + 10) hd1 (by omega) (fun z => ?_) fun z => ?_
  · refine G_lconst hd4 (fin _ ?_)
    have z : r = 0 := z
    rw [← a2, z]; rfl
  · refine G_lconst hd2 ?_
    refine G_go (T := P + 11) hd3 (by omega) ?_
    refine fin _ ?_
    have z : ¬ r = 0 := z
    rcases hz with g | g
    · rw [a2, g] at z; exact absurd nI_0 z
    · rw [g]; decide
theorem lkIA : Cond.classLink (oR 6) 13 eIA ∈ WS := ws_of 625 (by decide +kernel) (by decide +kernel)
theorem lkIB : Cond.classLink (oR 6) 19 eIB ∈ WS := ws_of 704 (by decide +kernel) (by decide +kernel)
theorem lkIS : Cond.classLink (oR 6) 24 eIS ∈ WS := ws_of 732 (by decide +kernel) (by decide +kernel)
theorem lkNE : Cond.classLink (oR 6) 45 eNE ∈ WS := ws_of 802 (by decide +kernel) (by decide +kernel)
theorem csIA : Cond.castable eIA eIA ∈ wNG := List.mem_of_getElem? (i := 0) rfl
theorem csIB : Cond.castable eIB eIB ∈ wNG := List.mem_of_getElem? (i := 1) rfl
theorem csIS : Cond.castable eIS eIS ∈ wNG := List.mem_of_getElem? (i := 2) rfl
theorem csNE : Cond.castable eNE eNE ∈ wNG := List.mem_of_getElem? (i := 3) rfl
theorem z_ite {c p : Prop} {s s' : AS} {k : Nat} : (iteC c (okA s (bI p)) (noA s' k)).2.1 = nI 0 ∨ (iteC c (okA s (bI p)) (noA s' k)).2.1 = nI 1 :=
  (Classical.em c).elim (fun g => by rw [iteC_t g]; exact (Classical.em p).elim (fun g => Or.inr (bI_t g)) fun g => Or.inl (bI_f g)) fun g => by rw [iteC_f g]; exact Or.inl rfl
/-- the law's own methods: their words -/
def okLW (q : MS) (hh : List (Nat × Nat × Nat × Nat)) (k : Nat) : Prop := Cond.codeWith q.1 q.2.1 q.2.2.1 q.2.2.2.1 hh ∈ WS ∧ Cond.initialized q.1.cls ∈ WS ∧ (q.1.cls ≠ "java/lang/invoke/MethodHandle" ∧ q.1.cls ≠ "java/lang/invoke/VarHandle") ∧ (parseMethodDescriptor q.1.desc).map (fun d => d.parameters.length) = some q.2.2.2.2.1 ∧ Cond.static q.1 ∈ WS ∧ Cond.methodLink (oR 6) k q.1 ∈ WS
/-- a call of such a method, that throws nothing -/
theorem G_stat {k : Nat} {y : MS} {hy : List (Nat × Nat × Nat × Nat)} {As r : List Value} {post' : Option Value → MH → Prop} (hw : okLW y hy k) (ho : o = 6) (hd : decode q.2.1 pc = .ok (.invokestatic k, 3)) (hst : st = As.reverse ++ r) (hn : As.length = msN y)
    (hcat : catS r ≤ 8) (hdp : msD y < msD q) (hml : y.2.2.1 ≤ 21) (c1 : y.2.2.2.2.2.2.2.1 ≤ b.1) (c2 : y.2.2.2.2.2.2.2.2 ≤ b.2) (hC : CTW x y hy As h post' xNo)
    (kk : ∀ v h', post' v h' → MG x q o X post xp (pc + 3) (b.1 - y.2.2.2.2.2.2.2.1, b.2 - y.2.2.2.2.2.2.2.2) L (v.toList ++ r) h') : MG x q o X post xp pc b L st h := by
  intro p e s m args below meth c H locs cells slots ls hB hR hS hL h1 h2
  subst hst
  subst ho
  obtain ⟨k1, k2, k3, k4, k5, k6⟩ := hw
  have hts := hB.1.2.2.2.2.1
  have hG := hB.1.2.2.2.2.2.2.2.2.2
  have hin : ∀ w ∈ wsW y hy, w ∈ WS := fun w hw => (List.mem_cons.mp hw).elim (fun z => by rw [z]; exact k1) fun z => z
  refine GE_run (a := As.toArray) (vx_runSX (Ts := WS) (hh := hy) (own := oR 6) ⟨hB.1.1, hB.1.2.1, hB.1.2.2.1, hB.1.2.2.2.2.2.1, hts⟩ hC ⟨⟨rfl, rfl, ?_, ?_, pay_in hts (goodWS hin), List.mem_cons_self⟩, hts _ k1, hts _ k2, k3, fun sig hsig => ?_, hts _ k6, hts _ k5⟩ ⟨PcE_blind, E_pre hG hS hR⟩ rfl hn hL.1.1 rfl ?_ hd ?_) hS ?_ ?_
  · show y.2.2.2.2.2.2.1 + 1 + 1 ≤ q.2.2.2.2.2.2.1 + 1
    unfold msD at hdp
    omega
  · show 8 + (y.2.2.1 + 11) + 40 * (y.2.2.2.2.2.2.1 + 1) ≤ 40 * (q.2.2.2.2.2.2.1 + 1)
    unfold msD at hdp
    omega
  · rw [hsig] at k4
    exact (Option.some.inj k4).symm
  · rw [catS_eq] at hcat
    exact lv_room hcat
  · exact ⟨by show _ ≤ q.2.2.2.2.2.2.2.1; omega, by show _ ≤ q.2.2.2.2.2.2.2.2; omega⟩
  · exact fun E h' ce qa H1 locs1 z => z.elim
  · exact fun v h' H1 locs1 z1 z2 z3 => kk v h' z1 p e s m args below meth c H1 locs1 _ _ ls hB z2 z3 hL (by show _ + (b.1 - _) ≤ _; omega) (by show _ + (b.2 - _) ≤ _; omega)
end WRP
