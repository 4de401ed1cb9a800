section MGS
variable {x : CX}
/-- what every body knows -/
def BG (x : CX) (q : MS) (o : Nat) (p : Program) (s : State) (m : MethodId) (args : Array Value) (meth : Method) (c : Code) : Prop :=
  p.tables.exec = Jvm.exec ∧ c.code = q.2.1 ∧ c.maxLocals = q.2.2.1 ∧ meth.sig.returnType = q.2.2.2.1 ∧ (∀ w ∈ WS, w.before args s = true) ∧ s.vm.findClass (oR o) = some m.cls ∧ meth.locks = false ∧ True ∧ True ∧ GF x s s.heap
/-- .. and something more, X -/
def BX (x : CX) (q : MS) (o : Nat) (X : State → Code → Prop) (p : Program) (s : State) (m : MethodId) (args : Array Value) (meth : Method) (c : Code) : Prop := BG x q o p s m args meth c ∧ X s c
/-- MW, for a body that knows X besides -/
def MG (x : CX) (q : MS) (o : Nat) (X : State → Code → Prop) (post : Option Value → MH → Prop) (xp : String → MH → Prop) (pc : Nat) (b : Nat × Nat) (L st : List Value) (h : MH) : Prop :=
  ∀ (p : Program) (e : Env) (s : State) (m : MethodId) (args : Array Value) (below : List Frame) (meth : Method) (c : Code) (H : Heap) (locs : List Loc) (cells slots : Nat) (ls : Array Slot),
    BX x q o X p s m args meth c → RP x h H → va_S (xA x) s.heap H locs → LR ls q.2.2.1 L → cells + b.1 ≤ q.2.2.2.2.2.2.2.1 → slots + b.2 ≤ q.2.2.2.2.2.2.2.2 →
    W p x.1 e (rmE q) s m args below meth c H locs cells slots (vx_MQ below (QcE x post) (XcE x xp) args s q.2.2.2.2.2.2.2.1 q.2.2.2.2.2.2.2.2 (xA x)) (F0 m pc ls st)
variable {q : MS} {o : Nat} {X : State → Code → Prop} {post : Option Value → MH → Prop} {xp : String → MH → Prop} {pc : Nat} {b : Nat × Nat} {L st : List Value} {h : MH}
theorem G_iconst {n : Int} (hd : decode q.2.1 pc = .ok (.iconst n, 1)) (hs : stepE x q o post xp (.iconst n) 1 pc b L st h (MG x q o X post xp)) : MG x q o X post xp pc b L st h := by
  intro p e s m args below meth c H locs cells slots ls hB hR hS hL h1 h2
  exact lv_iconst hB.1.1 hB.1.2.1 hd rfl (hs p e s m args below meth c H locs cells slots ls hB hR hS hL h1 h2)
theorem G_bipush {n : Int} (he : (Int8.ofInt n).toInt32 = Int32.ofInt n) (hd : decode q.2.1 pc = .ok (.bipush n, 2)) (hs : stepE x q o post xp (.iconst n) 2 pc b L st h (MG x q o X post xp)) : MG x q o X post xp pc b L st h := by
  intro p e s m args below meth c H locs cells slots ls hB hR hS hL h1 h2
  exact lv_bipush hB.1.1 hB.1.2.1 hd he (hs p e s m args below meth c H locs cells slots ls hB hR hS hL h1 h2)
theorem G_sipush {n : Int} (he : (Int16.ofInt n).toInt32 = Int32.ofInt n) (hd : decode q.2.1 pc = .ok (.sipush n, 3)) (hs : stepE x q o post xp (.iconst n) 3 pc b L st h (MG x q o X post xp)) : MG x q o X post xp pc b L st h := by
  intro p e s m args below meth c H locs cells slots ls hB hR hS hL h1 h2
  exact lv_sipush hB.1.1 hB.1.2.1 hd he (hs p e s m args below meth c H locs cells slots ls hB hR hS hL h1 h2)
theorem G_iload_n {k : Fin 4} (hd : decode q.2.1 pc = .ok (.iload_n k, 1)) (hs : stepE x q o post xp (.iload k.val) 1 pc b L st h (MG x q o X post xp)) : MG x q o X post xp pc b L st h := by
  intro p e s m args below meth c H locs cells slots ls hB hR hS hL h1 h2
  obtain ⟨v, hv, hs⟩ := asI_e hs
  exact lv_iload_n hB.1.1 hB.1.2.1 hd rfl (hL.at hv (by simp)) (hs p e s m args below meth c H locs cells slots ls hB hR hS hL h1 h2)
theorem G_iload {k : Nat} (hd : decode q.2.1 pc = .ok (.iload k, 2)) (hs : stepE x q o post xp (.iload k) 2 pc b L st h (MG x q o X post xp)) : MG x q o X post xp pc b L st h := by
  intro p e s m args below meth c H locs cells slots ls hB hR hS hL h1 h2
  obtain ⟨v, hv, hs⟩ := asI_e hs
  exact lv_iload hB.1.1 hB.1.2.1 hd (hL.at hv (by simp)) (hs p e s m args below meth c H locs cells slots ls hB hR hS hL h1 h2)
theorem G_aload_n {k : Fin 4} (hd : decode q.2.1 pc = .ok (.aload_n k, 1)) (hs : stepE x q o post xp (.aload k.val) 1 pc b L st h (MG x q o X post xp)) : MG x q o X post xp pc b L st h := by
  intro p e s m args below meth c H locs cells slots ls hB hR hS hL h1 h2
  obtain ⟨v, hv, hs⟩ := asR_e hs
  exact lv_aload_n hB.1.1 hB.1.2.1 hd rfl (hL.at hv (by simp)) (hs p e s m args below meth c H locs cells slots ls hB hR hS hL h1 h2)
theorem G_aload {k : Nat} (hd : decode q.2.1 pc = .ok (.aload k, 2)) (hs : stepE x q o post xp (.aload k) 2 pc b L st h (MG x q o X post xp)) : MG x q o X post xp pc b L st h := by
  intro p e s m args below meth c H locs cells slots ls hB hR hS hL h1 h2
  obtain ⟨v, hv, hs⟩ := asR_e hs
  exact lv_aload hB.1.1 hB.1.2.1 hd (hL.at hv (by simp)) (hs p e s m args below meth c H locs cells slots ls hB hR hS hL h1 h2)
theorem G_istore_n {k : Fin 4} (hk : k.val < q.2.2.1) (hd : decode q.2.1 pc = .ok (.istore_n k, 1)) (hs : stepE x q o post xp (.istore k.val) 1 pc b L st h (MG x q o X post xp)) : MG x q o X post xp pc b L st h := by
  intro p e s m args below meth c H locs cells slots ls hB hR hS hL h1 h2
  obtain ⟨v, r, rfl, hs⟩ := popI_e hs
  exact lv_istore_n hB.1.1 hB.1.2.1 hd rfl hL.1 hk rfl fun ls1 hl => hs.2 p e s m args below meth c H locs cells slots ls1 hB hR hS (hL.set hs.1 hl) h1 h2
theorem G_istore {k : Nat} (hk : k < q.2.2.1) (hd : decode q.2.1 pc = .ok (.istore k, 2)) (hs : stepE x q o post xp (.istore k) 2 pc b L st h (MG x q o X post xp)) : MG x q o X post xp pc b L st h := by
  intro p e s m args below meth c H locs cells slots ls hB hR hS hL h1 h2
  obtain ⟨v, r, rfl, hs⟩ := popI_e hs
  exact lv_istore hB.1.1 hB.1.2.1 hd hL.1 hk rfl fun ls1 hl => hs.2 p e s m args below meth c H locs cells slots ls1 hB hR hS (hL.set hs.1 hl) h1 h2
theorem G_astore_n {k : Fin 4} (hk : k.val < q.2.2.1) (hd : decode q.2.1 pc = .ok (.astore_n k, 1)) (hs : stepE x q o post xp (.astore k.val) 1 pc b L st h (MG x q o X post xp)) : MG x q o X post xp pc b L st h := by
  intro p e s m args below meth c H locs cells slots ls hB hR hS hL h1 h2
  obtain ⟨v, r, rfl, hs⟩ := popR_e hs
  exact lv_astore_n hB.1.1 hB.1.2.1 hd rfl hL.1 hk rfl fun ls1 hl => hs.2 p e s m args below meth c H locs cells slots ls1 hB hR hS (hL.set hs.1 hl) h1 h2
theorem G_astore {k : Nat} (hk : k < q.2.2.1) (hd : decode q.2.1 pc = .ok (.astore k, 2)) (hs : stepE x q o post xp (.astore k) 2 pc b L st h (MG x q o X post xp)) : MG x q o X post xp pc b L st h := by
  intro p e s m args below meth c H locs cells slots ls hB hR hS hL h1 h2
  obtain ⟨v, r, rfl, hs⟩ := popR_e hs
  exact lv_astore hB.1.1 hB.1.2.1 hd hL.1 hk rfl fun ls1 hl => hs.2 p e s m args below meth c H locs cells slots ls1 hB hR hS (hL.set hs.1 hl) h1 h2
theorem G_goto {off : Int} (ht : 0 ≤ (pc : Int) + off) (hd : decode q.2.1 pc = .ok (.goto off, 3)) (hs : stepE x q o post xp (.goto ((pc : Int) + off)) 3 pc b L st h (MG x q o X post xp)) : MG x q o X post xp pc b L st h := by
  intro p e s m args below meth c H locs cells slots ls hB hR hS hL h1 h2
  exact lv_goto hB.1.1 hB.1.2.1 hd (tgt_nat ht) (hs p e s m args below meth c H locs cells slots ls hB hR hS hL h1 h2)
theorem G_ireturn (hd : decode q.2.1 pc = .ok (.ireturn, 1)) (hs : stepE x q o post xp .ireturn 1 pc b L st h (MG x q o X post xp)) : MG x q o X post xp pc b L st h := by
  intro p e s m args below meth c H locs cells slots ls hB hR hS hL h1 h2
  match st, hs with
  | [.int v], hs =>
    obtain ⟨hr, hp⟩ := hs
    refine W.widen (k := q.2.2.2.2.2.2.2.1) (n := q.2.2.2.2.2.2.2.2) (by omega) (by omega) (vx_ret ?_)
    rcases hr with hr | ⟨hr, hv⟩ | ⟨hr, hv⟩ | ⟨hr, hv⟩
    · exact W.iret hB.1.1 hB.1.2.1 (hB.1.2.2.2.1.trans hr) (fun t ht _ => E_post hR hS ht hp) hS.2.2 hd hB.1.2.2.2.2.2.2.1
    · exact W.zret (ty := .boolean) hB.1.1 hB.1.2.1 (hB.1.2.2.2.1.trans hr) (by rcases hv with rfl | rfl <;> rfl) (fun t ht _ => E_post hR hS ht hp) hS.2.2 hd hB.1.2.2.2.2.2.2.1
    · exact W.zret (ty := .byte) hB.1.1 hB.1.2.1 (hB.1.2.2.2.1.trans hr) (by rw [hv]; rfl) (fun t ht _ => E_post hR hS ht hp) hS.2.2 hd hB.1.2.2.2.2.2.2.1
    · exact W.zret (ty := .char) hB.1.1 hB.1.2.1 (hB.1.2.2.2.1.trans hr) hv (fun t ht _ => E_post hR hS ht hp) hS.2.2 hd hB.1.2.2.2.2.2.2.1
/-- a call: what it answers, what it throws -/
theorem GE_run {p : Program} {e : Env} {s : State} {m : MethodId} {args a : Array Value} {below : List Frame} {meth : Method} {c : Code} {H : Heap} {locs : List Loc} {cells slots mc ms : Nat} {ls : Array Slot} {rest st0 : List Value} {post' : Option Value → MH → Prop} {xp' : String → MH → Prop}
    (hr : vx_Run p x.1 e (rmE q) s m args below meth c H locs cells slots mc ms (F0 m pc ls st0) rest (QcE x post' a) (XcE x xp') (xA x)) (hS : va_S (xA x) s.heap H locs)
    (kx : ∀ (E : String) (h' : MH) (ce : Cell) (qa : Addr) (H1 : Heap) (locs1 : List Loc), xp' E h' → RP x h' H1 → va_S (xA x) s.heap H1 locs1 → H1[qa]? = some ce → ce.vm = .none → s.vm.findClass E = some ce.cls → vx_W p x.1 e (rmE q) s m args below meth c H1 locs1 (cells + mc) (slots + ms) (vx_MQ below (QcE x post) (XcE x xp) args s q.2.2.2.2.2.2.2.1 q.2.2.2.2.2.2.2.2 (xA x)) (F0 m pc ls rest) qa)
    (kk : ∀ (v : Option Value) (h' : MH) (H1 : Heap) (locs1 : List Loc), post' v h' → RP x h' H1 → va_S (xA x) s.heap H1 locs1 → W p x.1 e (rmE q) s m args below meth c H1 locs1 (cells + mc) (slots + ms) (vx_MQ below (QcE x post) (XcE x xp) args s q.2.2.2.2.2.2.2.1 q.2.2.2.2.2.2.2.2 (xA x)) (F0 m (pc + 3) ls (v.toList ++ rest))) :
    W p x.1 e (rmE q) s m args below meth c H locs cells slots (vx_MQ below (QcE x post) (XcE x xp) args s q.2.2.2.2.2.2.2.1 q.2.2.2.2.2.2.2.2 (xA x)) (F0 m pc ls st0) := by
  intro T hT X0
  rcases hr T hT X0 with ⟨v, st₀, t, T', L1, h0, X', hL, e1, e2, ⟨⟨v', h', hv, hp, hrp⟩, hF⟩, st⟩ | ⟨qa, st₀, t, T', L1, E, ce, h0, X', hL, e1, e2, ⟨⟨h', hp, hrp⟩, hF⟩, hce, hcv, hcl, st⟩
  · cases hv
    obtain ⟨-, -, k3⟩ := vx_keep h0 e1 hS (fun _ _ z => z) (fun _ z => z) hL hF
    obtain ⟨t2, a1, b1⟩ := kk v h' T'.heap (locs ++ L1) hp (by rw [e1]; exact hrp) k3 T' rfl X'
    exact ⟨t2, st t2 a1, b1⟩
  · obtain ⟨-, -, k3⟩ := vx_keep h0 e1 hS (fun _ _ z => z) (fun _ z => z) hL hF
    obtain ⟨t2, a1, b1⟩ := kx E h' ce qa T'.heap (locs ++ L1) hp (by rw [e1]; exact hrp) k3 (by rw [e1]; exact hce) hcv hcl T' rfl X'
    exact ⟨t2, st.trans a1, b1⟩
/-- the call of an object's method; what it throws goes on at kx -/
theorem G_virt {k a : Nat} {y : MS} {As r : List Value} {post' : Option Value → MH → Prop} {xp' : String → MH → Prop} (ho : o < 15) (hf : mT o k = some y) (hd : decode q.2.1 pc = .ok (.invokevirtual k, 3)) (hst : st = As.reverse ++ .ref a :: r) (hn : As.length = msN y) (hrc : rcvE x h a (msR y)) (hni : ¬ noV y)
    (hcat : catS r ≤ 8) (hdp : msD y < msD q) (hml : y.2.2.1 ≤ 21) (c1 : y.2.2.2.2.2.2.2.1 ≤ b.1) (c2 : y.2.2.2.2.2.2.2.2 ≤ b.2) (hC : CT x y (.ref a :: As) h post' xp')
    (kx : ∀ E h', xp' E h' → ∀ p e s m args below meth c H1 locs1 cells slots ls ce qa, BX x q o X p s m args meth c → RP x h' H1 → va_S (xA x) s.heap H1 locs1 → LR ls q.2.2.1 L → cells + (b.1 - y.2.2.2.2.2.2.2.1) ≤ q.2.2.2.2.2.2.2.1 → slots + (b.2 - y.2.2.2.2.2.2.2.2) ≤ q.2.2.2.2.2.2.2.2 → H1[qa]? = some ce → ce.vm = .none → s.vm.findClass E = some ce.cls →
      vx_W p x.1 e (rmE q) s m args below meth c H1 locs1 cells slots (vx_MQ below (QcE x post) (XcE x xp) args s q.2.2.2.2.2.2.2.1 q.2.2.2.2.2.2.2.2 (xA x)) (F0 m pc ls r) qa)
    (kk : ∀ v h', post' v h' → MG x q o X post xp (pc + 3) (b.1 - y.2.2.2.2.2.2.2.1, b.2 - y.2.2.2.2.2.2.2.2) L (v.toList ++ r) h') : MG x q o X post xp pc b L st h := by
  intro p e s m args below meth c H locs cells slots ls hB hR hS hL h1 h2
  subst hst
  obtain ⟨hy, hl⟩ := mT_in ho hf
  have hts := hB.1.2.2.2.2.1
  have hG := hB.1.2.2.2.2.2.2.2.2.2
  have hst : ¬ y.2.2.2.2.2.1 = 99 := by
    intro z
    unfold rcvE msR at hrc
    rw [z] at hrc
    rcases hrc with ⟨g, -⟩ | ⟨g, -⟩
    · omega
    · cases g
  have h6 := hy.2.2.2.2.2
  rw [if_neg hst] at h6
  obtain ⟨i9, s9⟩ := h6
  have s9 := (s9.resolve_left (fun z => hni (Or.inl z))).resolve_left (fun z => hni (Or.inr z))
  refine GE_run (a := (Value.ref a :: As).toArray) (vx_runV (Ts := WS) (C := oR y.2.2.2.2.2.1) (As := As) (b := a) ⟨hB.1.1, hB.1.2.1, hB.1.2.2.1, hB.1.2.2.2.2.2.1, hts⟩ hC ⟨E_callB hts hy hl hdp hml, hts _ i9, hts _ s9⟩ ⟨PcE_blind, ?_, E_pre hG hS hR⟩ rfl hn hL.1.1 rfl ?_ hd ?_) hS ?_ ?_
  · exact E_rcv hG hS hR hrc
  · rw [catS_eq] at hcat
    exact lv_room hcat
  · exact ⟨by show _ ≤ q.2.2.2.2.2.2.2.1; omega, by show _ ≤ q.2.2.2.2.2.2.2.2; omega⟩
  · exact fun E h' ce qa H1 locs1 z1 z2 z3 z4 z5 z6 => kx E h' z1 p e s m args below meth c H1 locs1 _ _ ls ce qa hB z2 z3 hL (by omega) (by omega) z4 z5 z6
  · exact fun v h' H1 locs1 z1 z2 z3 => kk v h' z1 p e s m args below meth c H1 locs1 _ _ ls hB z2 z3 hL (by show _ + (b.1 - _) ≤ _; omega) (by show _ + (b.2 - _) ≤ _; omega)
/-- .. that throws nothing -/
theorem G_virt0 {k a : Nat} {y : MS} {As r : List Value} {post' : Option Value → MH → Prop} (ho : o < 15) (hf : mT o k = some y) (hd : decode q.2.1 pc = .ok (.invokevirtual k, 3)) (hst : st = As.reverse ++ .ref a :: r) (hn : As.length = msN y) (hrc : rcvE x h a (msR y)) (hni : ¬ noV y)
    (hcat : catS r ≤ 8) (hdp : msD y < msD q) (hml : y.2.2.1 ≤ 21) (c1 : y.2.2.2.2.2.2.2.1 ≤ b.1) (c2 : y.2.2.2.2.2.2.2.2 ≤ b.2) (hC : CT x y (.ref a :: As) h post' xNo)
    (kk : ∀ v h', post' v h' → MG x q o X post xp (pc + 3) (b.1 - y.2.2.2.2.2.2.2.1, b.2 - y.2.2.2.2.2.2.2.2) L (v.toList ++ r) h') : MG x q o X post xp pc b L st h :=
  G_virt ho hf hd hst hn hrc hni hcat hdp hml c1 c2 hC (fun _ _ z => z.elim) kk
theorem G_go {T : Nat} {off : Int} (hd : decode q.2.1 pc = .ok (.goto off, 3)) (hT : (pc : Int) + off = (T : Int)) (hs : MG x q o X post xp T b L st h) : MG x q o X post xp pc b L st h := G_goto (by omega) hd (by rw [hT]; exact hs)
theorem MG_le {b' : Nat × Nat} (hb1 : b'.1 ≤ b.1) (hb2 : b'.2 ≤ b.2) (hs : MG x q o X post xp pc b' L st h) : MG x q o X post xp pc b L st h := by
  intro p e s m args below meth c0 H locs cells slots ls hB hR hS hL h1 h2
  exact hs p e s m args below meth c0 H locs cells slots ls hB hR hS hL (by omega) (by omega)
theorem MG_wk {L' : List Value} (hlen : L'.length = L.length) (hn : ∀ k, nthV L' k = .null ∨ nthV L' k = nthV L k) (hs : MG x q o X post xp pc b L' st h) : MG x q o X post xp pc b L st h := by
  intro p e s m args below meth c0 H locs cells slots ls hB hR hS hL h1 h2
  refine hs p e s m args below meth c0 H locs cells slots ls hB hR hS ⟨⟨hL.1.1, hL.1.2.1, fun z hz => ?_⟩, hlen.trans hL.2⟩ h1 h2
  obtain ⟨j, u⟩ := z
  obtain ⟨-, g1, g2⟩ := lvF_mem.mp hz
  rw [Nat.sub_zero] at g1
  rcases hn j with g | g
  · exact absurd (g1.symm.trans g) g2
  · exact hL.at (g.symm.trans g1) g2
theorem MG_nul (k : Nat) (hs : MG x q o X post xp pc b (setV L k .null) st h) : MG x q o X post xp pc b L st h := MG_wk (len_set L k _) (nthN_set L k) hs
end MGS
