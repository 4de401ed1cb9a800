theorem goodWS {l : List Cond} (h : ∀ w ∈ l, w ∈ WS) : GoodIn WS l := fun w hw => ⟨h w hw, good_of_word (List.mem_filter.mp (h w hw)).2⟩
theorem wsE_in {y : MS} (h : okM y) : ∀ w ∈ wsE y, w ∈ WS := fun w hw => (List.mem_cons.mp hw).elim (fun z => by rw [z]; exact h.1) (fun z => z)
theorem wNG_on : ∀ w ∈ wNG, w.onTables = true := by decide
theorem wNG_kind : ∀ w ∈ wNG, (∃ c t, w = .castable c t) ∨ ∃ y, w = .declares y := by
  intro w hw
  simp only [wNG, List.mem_cons, List.not_mem_nil, or_false] at hw
  rcases hw with rfl | rfl | rfl | rfl | rfl | rfl | rfl
  · exact Or.inl ⟨_, _, rfl⟩
  · exact Or.inl ⟨_, _, rfl⟩
  · exact Or.inl ⟨_, _, rfl⟩
  · exact Or.inl ⟨_, _, rfl⟩
  · exact Or.inr ⟨_, rfl⟩
  · exact Or.inr ⟨_, rfl⟩
  · exact Or.inr ⟨_, rfl⟩
theorem wNG_warm {s U : State} (hW : s.WarmedH U.vm) (w : Cond) (hw : w ∈ wNG) (h : va_Nw w s) : va_Nw w U := by
  rcases wNG_kind w hw with ⟨c, t, rfl⟩ | ⟨y, rfl⟩
  · exact va_Nw.warmC hW h
  · exact va_tabs rfl (rfl : (s.setVm U.vm).vm = U.vm) (by rw [Cond.declares_setVm hW.alike]; exact h)
theorem GF.at {x : CX} {s U : State} {H : Heap} {locs : List Loc} (hG : GF x s s.heap) (hS : va_S (xA x) s.heap H locs) (hW : s.WarmedH U.vm) (hU : U.heap = H) : GF x U U.heap := by
  obtain ⟨g1, g2, g3, g4, g5, g6, g7, g8, g9, g10, g11, g12, g13, g14, g15, ⟨g16, g17, g18⟩, g19, g20⟩ := hG
  have hA := hW.alike
  rw [hU]
  refine ⟨fun c hc => u_Kn_moved hA (g1 c hc), fun t ht => ⟨arrOfT_moved hA (g2 t ht).1, (g2 t ht).2.moved hA⟩, vx_Zq.moved hA (g3.kept hS.2.1), vx_Zq.moved hA (g4.kept hS.2.1), fun i hi => (g5 i hi).warm hW, sS.moved hA (g6.kept hS.2.1), va_Z.moved hA (g7.kept hS.2.1), va_Zq.moved hA (g8.kept hS.2.1), ?_, g10, Nat.le_trans g11 hS.1, fun w hw => wNG_warm hW w hw (g12 w hw), fun c hc => (g13 c hc).moved hA, va_AO.moved hA g14, xAO.moved hA g15, ⟨va_X.moved hA (g16.kept (hS.2.1 _ (Nat.lt_of_lt_of_le g17 g11) (Nat.not_le.mpr g17))), g17, g18⟩, va_Z.moved hA (g19.kept hS.2.1), va_T.moved hA (g20.kept hS.2.1)⟩
  obtain ⟨kA, h1, h2⟩ := g9
  obtain ⟨k', hk', he⟩ := hA.2.2 _ _ h1
  exact ⟨k', hk', by rw [he]; exact h2⟩
theorem GF.blind {x : CX} {U : State} {a : Array Value} {g : JFrame} {mk : MethodId} (hG : GF x U U.heap) : GF x (U.calling g mk a) (U.calling g mk a).heap := by
  obtain ⟨g1, g2, g3, g4, g5, g6, g7, g8, g9, g10, g11, g12, g13, g14, g15, ⟨g16, g17, g18⟩, g19, g20⟩ := hG
  have hA : U.vm.Alike (U.calling g mk a).vm := Vm.Alike.refl U.vm
  exact ⟨fun c hc => u_Kn_moved hA (g1 c hc), fun t ht => ⟨arrOfT_moved hA (g2 t ht).1, (g2 t ht).2.moved hA⟩, vx_Zq.moved hA g3, vx_Zq.moved hA g4, fun i hi => (g5 i hi).same (u := U) rfl, sS.moved hA g6, va_Z.moved hA g7, va_Zq.moved hA g8, g9, g10, g11, fun w hw => va_tabs (u := U) (wNG_on w hw) rfl (g12 w hw), fun c hc => (g13 c hc).moved hA, va_AO.moved hA g14, xAO.moved hA g15, ⟨va_X.moved hA g16, g17, g18⟩, va_Z.moved hA g19, va_T.moved hA g20⟩
theorem GF_s {x : CX} {U : State} {H : Heap} (hG : GF x U H) : va_X (xB x) (xN x) (xF x) U H ∧ xB x < xz x ∧ xN x < 2 ^ 31 := by
  obtain ⟨g1, g2, g3, g4, g5, g6, g7, g8, g9, g10, g11, g12, g13, g14, g15, g16, g19, g20⟩ := hG
  exact g16
theorem GF_d1 {x : CX} {U : State} {H : Heap} (hG : GF x U H) : va_Z "java/lang/Integer" "DigitOnes" "[B" (.ref (xD x)) (xA x) U H := by
  obtain ⟨g1, g2, g3, g4, g5, g6, g7, g8, g9, g10, g11, g12, g13, g14, g15, g16, g19, g20⟩ := hG
  exact g19
theorem GF_d2 {x : CX} {U : State} {H : Heap} (hG : GF x U H) : va_T .byte (xD x) 100 (fun j => .int (dgT j)) (xA x) U H := by
  obtain ⟨g1, g2, g3, g4, g5, g6, g7, g8, g9, g10, g11, g12, g13, g14, g15, g16, g19, g20⟩ := hG
  exact g20
theorem GF_z {x : CX} {U : State} {H : Heap} (hG : GF x U H) : xz x ≤ H.size := by
  obtain ⟨g1, g2, g3, g4, g5, g6, g7, g8, g9, g10, g11, g12, g13, g14, g15, g16, g19, g20⟩ := hG
  exact g11
theorem PcE_blind {x : CX} {as : List Value} {h : MH} : FrameBlind (PcE x as h) := fun _ _ _ _ hp => ⟨hp.1, hp.2.1, hp.2.2.blind⟩
section SNC
variable {x : CX} {q y : MS} {o : Nat} {post post' : Option Value → MH → Prop} {xp xp' : String → MH → Prop} {pc : Nat} {b : Nat × Nat} {L st : List Value} {h : MH}
theorem E_run {p : Program} {e : Env} {s : State} {m : MethodId} {args a : Array Value} {below : List Frame} {meth : Method} {c : Code} {H : Heap} {locs : List Loc} {cells slots mc ms : Nat} {ls : Array Slot} {rest st0 : List Value}
    (hr : vx_Run p x.1 e (rmE q) s m args below meth c H locs cells slots mc ms (F0 m pc ls st0) rest (QcE x post' a) (XcE x xp') (xA x)) (hB : BD x q o p s m args meth c) (hS : va_S (xA x) s.heap H locs)
    (kx : ∀ E h', xp' E h' → xp E h') (hc : cells + mc ≤ q.2.2.2.2.2.2.2.1) (hsl : slots + ms ≤ q.2.2.2.2.2.2.2.2)
    (kk : ∀ (v : Option Value) (h' : MH) (H1 : Heap) (locs1 : List Loc), post' v h' → RP x h' H1 → va_S (xA x) s.heap H1 locs1 → W p x.1 e (rmE q) s m args below meth c H1 locs1 (cells + mc) (slots + ms) (vx_MQ below (QcE x post) (XcE x xp) args s q.2.2.2.2.2.2.2.1 q.2.2.2.2.2.2.2.2 (xA x)) (F0 m (pc + 3) ls (v.toList ++ rest))) :
    W p x.1 e (rmE q) s m args below meth c H locs cells slots (vx_MQ below (QcE x post) (XcE x xp) args s q.2.2.2.2.2.2.2.1 q.2.2.2.2.2.2.2.2 (xA x)) (F0 m pc ls st0) := by
  intro T hT X
  rcases hr T hT X with ⟨v, st₀, t, T', L1, h0, X', hL, e1, e2, ⟨⟨v', h', hv, hp, hrp⟩, hF⟩, st⟩ | ⟨qa, st₀, t, T', L1, E, ce, h0, X', hL, e1, e2, ⟨⟨h', hp, hrp⟩, hF⟩, hce, hcv, hcl, st⟩
  · cases hv
    obtain ⟨-, -, k3⟩ := vx_keep h0 e1 hS (fun _ _ z => z) (fun _ z => z) hL hF
    obtain ⟨t2, a1, b1⟩ := kk v h' T'.heap (locs ++ L1) hp (by rw [e1]; exact hrp) k3 T' rfl X'
    exact ⟨t2, st t2 a1, b1⟩
  · obtain ⟨-, -, k3⟩ := vx_keep h0 e1 hS (fun _ _ z => z) (fun _ z => z) hL hF
    obtain ⟨t2, a1, b1⟩ := vx_out (pc := pc) (rest := rest) (Qc := QcE x post) (XC := XcE x xp) (free := xA x) (mc := q.2.2.2.2.2.2.2.1) (ms := q.2.2.2.2.2.2.2.2) (fun z hz => absurd (hB.2.2.2.2.2.2.2.2.1 z hz) id) hB.2.2.2.2.2.2.1 (by rw [e1]; exact hce) hcv hcl
      (fun t9 ht9 _ => ⟨⟨h', kx E h' hp, by rw [ht9, e1]; exact hrp⟩, k3.F ht9⟩) k3.2.2 hc hsl T' rfl X'
    exact ⟨t2, st.trans a1, b1⟩
/-- what a call needs of the tables and of the room -/
theorem E_callB {k : Nat} {s : State} {args : Array Value} (hts : ∀ w ∈ WS, w.before args s = true) (hy : okM y) (hl : Cond.methodLink (oR o) k y.1 ∈ WS) (hd : msD y < msD q) (hm : y.2.2.1 ≤ 21) :
    CallB (rmE q) s args (oR o) k y.1 y.2.1 y.2.2.1 y.2.2.2.1 (wsE y) (rmE y) y.2.2.2.2.2.2.2.1 y.2.2.2.2.2.2.2.2 y.2.2.2.2.1 := by
  obtain ⟨k1, k2, k3, k4, k5, k6⟩ := hy
  refine callB_of _ hts (goodWS (wsE_in ⟨k1, k2, k3, k4, k5, k6⟩)) rfl rfl rfl (hts _ k2) (hts _ hl) ⟨k4.1, k4.2, k5⟩ ⟨?_, ?_⟩
  · show y.2.2.2.2.2.2.1 + 1 + 1 ≤ q.2.2.2.2.2.2.1 + 1
    unfold msD at hd
    omega
  · show 8 + (y.2.2.1 + 11) + 40 * (y.2.2.2.2.2.2.1 + 1) ≤ 40 * (q.2.2.2.2.2.2.1 + 1)
    unfold msD at hd
    omega
theorem E_pre {s : State} {H : Heap} {locs : List Loc} {as : List Value} (hG : GF x s s.heap) (hS : va_S (xA x) s.heap H locs) (hR : RP x h H) : ∀ U : State, U.heap = H → s.WarmedH U.vm → PcE x as h as.toArray U :=
  fun U hU hW => ⟨rfl, by rw [hU]; exact hR, hG.at hS hW hU⟩
theorem E_rcv {s : State} {H : Heap} {locs : List Loc} {a c : Nat} (hG : GF x s s.heap) (hS : va_S (xA x) s.heap H locs) (hR : RP x h H) (hr : rcvE x h a c) : ∃ cell : Cell, H[a]? = some cell ∧ cell.vm.isStatics = false ∧ s.vm.findClass (oR c) = some cell.cls := by
  rcases hr with ⟨hc, hk⟩ | ⟨rfl, ⟨i, hi, rfl⟩ | hk⟩
  · obtain ⟨cell, g1, g2, g3, -⟩ := hR.obj (Nat.lt_succ_of_lt hc) hk
    refine ⟨cell, g1, by rw [g3]; rfl, ?_⟩
    rw [g2, oR_eR c hc]
    exact (hG.1 c (Nat.lt_succ_of_lt hc)).2.1
  · exact sS.recv hG.2.2.2.2.2.1 hi hS
  · obtain ⟨cell, g1, g2, g3, -⟩ := hR.obj (c := 6) (by decide) hk
    refine ⟨cell, g1, by rw [g3]; rfl, ?_⟩
    rw [g2]
    exact (hG.1 6 (by decide)).2.1
/-- behind a call -/
theorem E_after {K : Nat × Nat → List Value → MH → Prop} {p : Program} {e : Env} {s : State} {m : MethodId} {args a : Array Value} {below : List Frame} {meth : Method} {c : Code} {H : Heap} {locs : List Loc} {cells slots : Nat} {ls : Array Slot} {as r st0 : List Value}
    (hs : callE x q y as r h xp b K) (hB : BD x q o p s m args meth c) (hS : va_S (xA x) s.heap H locs) (hL : LR ls q.2.2.1 L) (h1 : cells + b.1 ≤ q.2.2.2.2.2.2.2.1) (h2 : slots + b.2 ≤ q.2.2.2.2.2.2.2.2)
    (hK : ∀ b' st' h', K b' st' h' → MW x q o post xp (pc + 3) b' L st' h')
    (hrun : ∀ post' xp', CT x y as h post' xp' → vx_Run p x.1 e (rmE q) s m args below meth c H locs cells slots y.2.2.2.2.2.2.2.1 y.2.2.2.2.2.2.2.2 (F0 m pc ls st0) r (QcE x post' a) (XcE x xp') (xA x)) :
    W p x.1 e (rmE q) s m args below meth c H locs cells slots (vx_MQ below (QcE x post) (XcE x xp) args s q.2.2.2.2.2.2.2.1 q.2.2.2.2.2.2.2.2 (xA x)) (F0 m pc ls st0) := by
  obtain ⟨-, -, -, c1, c2, hs⟩ := hs
  have hgo : ∀ (p1 : Option Value → MH → Prop) (xp1 : String → MH → Prop), CT x y as h p1 xp1 → (∀ E h', xp1 E h' → xp E h') → (∀ v h', p1 v h' → K (b.1 - y.2.2.2.2.2.2.2.1, b.2 - y.2.2.2.2.2.2.2.2) (v.toList ++ r) h') →
      W p x.1 e (rmE q) s m args below meth c H locs cells slots (vx_MQ below (QcE x post) (XcE x xp) args s q.2.2.2.2.2.2.2.1 q.2.2.2.2.2.2.2.2 (xA x)) (F0 m pc ls st0) := by
    intro p1 xp1 hC hx hk
    exact E_run (hrun p1 xp1 hC) hB hS hx (by omega) (by omega) fun v h' H1 locs1 hp hR1 hS1 => hK _ _ _ (hk v h' hp) p e s m args below meth c H1 locs1 _ _ ls hB hR1 hS1 hL (by show _ + (b.1 - _) ≤ _; omega) (by show _ + (b.2 - _) ≤ _; omega)
  have hI : CALLI x y as h xp (fun r' h' => K (b.1 - y.2.2.2.2.2.2.2.1, b.2 - y.2.2.2.2.2.2.2.2) (.int r' :: r) h') → _ := fun ⟨p1, xp1, hC, hx, hk⟩ => hgo _ _ hC hx fun v h' ⟨r', hv, hp⟩ => by subst hv; exact hk r' h' hp
  cases hr : y.2.2.2.1 with
  | none =>
    rw [hr] at hs
    obtain ⟨p1, xp1, hC, hx, hk⟩ := hs
    exact hgo _ _ hC hx fun v h' ⟨hv, hp⟩ => by subst hv; exact hk h' hp
  | some t =>
    rw [hr] at hs
    cases t with
    | int => exact hI hs
    | boolean => exact hI hs
    | byte => exact hI hs
    | char => exact hI hs
    | long =>
      obtain ⟨p1, xp1, hC, hx, hk⟩ := hs
      exact hgo _ _ hC hx fun v h' ⟨r', hv, hp⟩ => by subst hv; exact hk r' h' hp
    | object n =>
      obtain ⟨p1, xp1, hC, hx, hk⟩ := hs
      exact hgo _ _ hC hx fun v h' ⟨r', hv, hp⟩ => by subst hv; exact hk r' h' hp
    | array n =>
      obtain ⟨p1, xp1, hC, hx, hk⟩ := hs
      exact hgo _ _ hC hx fun v h' ⟨r', hv, hp⟩ => by subst hv; exact hk r' h' hp
    | _ => exact absurd hs id
theorem popA_e : ∀ {n : Nat} {st acc : List Value} {k : List Value → List Value → Prop}, popA n st acc k → ∃ as r, st = as.reverse ++ r ∧ as.length = n ∧ k (as ++ acc) r
  | 0, st, acc, k, h => ⟨[], st, rfl, rfl, h⟩
  | n + 1, [], acc, k, h => absurd h id
  | n + 1, v :: st, acc, k, h => by
    obtain ⟨as, r, h1, h2, h3⟩ := popA_e (n := n) (st := st) (acc := v :: acc) (k := k) h
    exact ⟨as ++ [v], r, by rw [h1]; simp, by simp [h2], by simpa using h3⟩
theorem mT_in {k : Nat} (ho : o < 15) (h : mT o k = some y) : okM y ∧ Cond.methodLink (oR o) k y.1 ∈ WS := by
  have h2 := mT_ok h
  rw [show min o 14 = o by omega] at h2
  exact h2
theorem M_invokestatic {k : Nat} (ho : o < 15) (hd : decode q.2.1 pc = .ok (.invokestatic k, 3)) (hs : stepE x q o post xp (.invokestatic k) 3 pc b L st h (MW x q o post xp)) : MW x q o post xp pc b L st h := by
  intro p e s m args below meth c H locs cells slots ls hB hR hS hL h1 h2
  cases hf : mT o k with
  | none => simp only [stepE, hf] at hs
  | some y =>
    simp only [stepE, hf] at hs
    obtain ⟨as, r, rfl, hn, hst, hs⟩ := popA_e hs
    rw [List.append_nil] at hs
    obtain ⟨hy, hl⟩ := mT_in ho hf
    have hts := hB.2.2.2.2.1
    have hG := hB.2.2.2.2.2.2.2.2.2
    have hcat := hs.1
    have hdl := hs.2.1
    have hml := hs.2.2.1
    refine E_after (a := as.toArray) hs hB hS hL h1 h2 (fun _ _ _ z => z) fun p1 xp1 hC => ?_
    refine vx_runS (Ts := WS) ⟨hB.1, hB.2.1, hB.2.2.1, hB.2.2.2.2.2.1, hts⟩ hC ⟨E_callB hts hy hl hdl hml, ?_⟩ ⟨PcE_blind, E_pre hG hS hR⟩ rfl hn hL.1.1 rfl ?_ hd ?_
    · have hst : y.2.2.2.2.2.1 = 99 := hst
      have h6 := hy.2.2.2.2.2
      rw [if_pos hst] at h6
      exact hts _ h6
    · rw [catS_eq] at hcat
      exact lv_room hcat
    · obtain ⟨-, -, -, c1, c2, -⟩ := hs
      exact ⟨by show _ ≤ q.2.2.2.2.2.2.2.1; omega, by show _ ≤ q.2.2.2.2.2.2.2.2; omega⟩
theorem M_invokevirtual {k : Nat} (ho : o < 15) (hd : decode q.2.1 pc = .ok (.invokevirtual k, 3)) (hs : stepE x q o post xp (.invokevirtual k) 3 pc b L st h (MW x q o post xp)) : MW x q o post xp pc b L st h := by
  intro p e s m args below meth c H locs cells slots ls hB hR hS hL h1 h2
  cases hf : mT o k with
  | none => simp only [stepE, hf] at hs
  | some y =>
    simp only [stepE, hf] at hs
    obtain ⟨as, r, rfl, hn, hs⟩ := popA_e hs
    rw [List.append_nil] at hs
    match as, hn, hs with
    | .ref a :: As, hn, hs =>
      obtain ⟨hrc, hni, hs⟩ := hs
      obtain ⟨hy, hl⟩ := mT_in ho hf
      have hts := hB.2.2.2.2.1
      have hG := hB.2.2.2.2.2.2.2.2.2
      have hcat := hs.1
      have hdl := hs.2.1
      have hml := hs.2.2.1
      have hst : ¬ y.2.2.2.2.2.1 = 99 := by
        intro z
        unfold rcvE msR at hrc
        rw [z] at hrc
        rcases hrc with ⟨g, -⟩ | ⟨g, -⟩
        · omega
        · cases g
      have h6 := hy.2.2.2.2.2
      rw [if_neg hst] at h6
      obtain ⟨i9, s9⟩ := h6
      have s9 := (s9.resolve_left (fun z => hni (Or.inl z))).resolve_left (fun z => hni (Or.inr z))
      refine E_after (a := (Value.ref a :: As).toArray) hs hB hS hL h1 h2 (fun _ _ _ z => z) fun p1 xp1 hC => ?_
      refine vx_runV (Ts := WS) (C := oR y.2.2.2.2.2.1) (As := As) (b := a) ⟨hB.1, hB.2.1, hB.2.2.1, hB.2.2.2.2.2.1, hts⟩ hC ⟨E_callB hts hy hl hdl hml, hts _ i9, hts _ s9⟩ ⟨PcE_blind, ?_, E_pre hG hS hR⟩ rfl (Nat.succ.inj hn) hL.1.1 (by simp) ?_ hd ?_
      · exact E_rcv hG hS hR hrc
      · rw [catS_eq] at hcat
        exact lv_room hcat
      · obtain ⟨-, -, -, c1, c2, -⟩ := hs
        exact ⟨by show _ ≤ q.2.2.2.2.2.2.2.1; omega, by show _ ≤ q.2.2.2.2.2.2.2.2; omega⟩
theorem M_invokespecial {k : Nat} (ho : o < 15) (hd : decode q.2.1 pc = .ok (.invokespecial k, 3)) (hs : stepE x q o post xp (.invokespecial k) 3 pc b L st h (MW x q o post xp)) : MW x q o post xp pc b L st h := by
  intro p e s m args below meth c H locs cells slots ls hB hR hS hL h1 h2
  cases hf : mT o k with
  | none => simp only [stepE, hf] at hs
  | some y =>
    simp only [stepE, hf] at hs
    obtain ⟨as, r, rfl, hn, hs⟩ := popA_e hs
    rw [List.append_nil] at hs
    match as, hn, hs with
    | .ref a :: As, hn, hs =>
      obtain ⟨hni, hret, hst, hs⟩ := hs
      obtain ⟨hy, hl⟩ := mT_in ho hf
      have hts := hB.2.2.2.2.1
      have hG := hB.2.2.2.2.2.2.2.2.2
      have hcat := hs.1
      have hdl := hs.2.1
      have hml := hs.2.2.1
      have hst : ¬ y.2.2.2.2.2.1 = 99 := hst
      have h6 := hy.2.2.2.2.2
      rw [if_neg hst] at h6
      obtain ⟨i9, -⟩ := h6
      have hcb := E_callB hts hy hl hdl hml
      rw [hret] at hcb
      refine E_after (a := (Value.ref a :: As).toArray) hs hB hS hL h1 h2 (fun _ _ _ z => z) fun p1 xp1 hC => ?_
      refine vx_runI (Ts := WS) (As := As) (b := a) ⟨hB.1, hB.2.1, hB.2.2.1, hB.2.2.2.2.2.1, hts⟩ hC ⟨hcb, hni, hts _ i9⟩ ⟨PcE_blind, E_pre hG hS hR⟩ rfl (Nat.succ.inj hn) hL.1.1 (by simp) ?_ hd ?_
      · rw [catS_eq] at hcat
        exact lv_room hcat
      · obtain ⟨-, -, -, c1, c2, -⟩ := hs
        exact ⟨by show _ ≤ q.2.2.2.2.2.2.2.1; omega, by show _ ≤ q.2.2.2.2.2.2.2.2; omega⟩
/-- the law's methods that catch: their words -/
def okLW (q : MS) (hh : List (Nat × Nat × Nat × Nat)) (k : Nat) : Prop := Cond.codeWith q.1 q.2.1 q.2.2.1 q.2.2.2.1 hh ∈ WS ∧ Cond.initialized q.1.cls ∈ WS ∧ (q.1.cls ≠ "java/lang/invoke/MethodHandle" ∧ q.1.cls ≠ "java/lang/invoke/VarHandle") ∧ (parseMethodDescriptor q.1.desc).map (fun d => d.parameters.length) = some q.2.2.2.2.1 ∧ Cond.static q.1 ∈ WS ∧ Cond.methodLink (oR 6) k q.1 ∈ WS ∧ q.2.2.2.1 = some .int
set_option maxRecDepth 100000 in
theorem okW_setTokens : okLW sL_setTokens hL_setTokens 175 := ⟨ws_of 757 rfl rfl, ws_of 0 (by decide +kernel) (by decide +kernel), ⟨by decide +kernel, by decide +kernel⟩, by decide +kernel, ws_of 756 (by decide +kernel) (by decide +kernel), ws_of 755 (by decide +kernel) (by decide +kernel), rfl⟩
set_option maxRecDepth 100000 in
theorem okW_setCapacity : okLW sL_setCapacity hL_setCapacity 178 := ⟨ws_of 792 rfl rfl, ws_of 0 (by decide +kernel) (by decide +kernel), ⟨by decide +kernel, by decide +kernel⟩, by decide +kernel, ws_of 791 (by decide +kernel) (by decide +kernel), ws_of 790 (by decide +kernel) (by decide +kernel), rfl⟩
set_option maxRecDepth 100000 in
theorem okW_setInput : okLW sL_setInput hL_setInput 180 := ⟨ws_of 816 rfl rfl, ws_of 0 (by decide +kernel) (by decide +kernel), ⟨by decide +kernel, by decide +kernel⟩, by decide +kernel, ws_of 815 (by decide +kernel) (by decide +kernel), ws_of 814 (by decide +kernel) (by decide +kernel), rfl⟩
set_option maxRecDepth 100000 in
theorem okW_setOutput : okLW sL_setOutput hL_setOutput 183 := ⟨ws_of 832 rfl rfl, ws_of 0 (by decide +kernel) (by decide +kernel), ⟨by decide +kernel, by decide +kernel⟩, by decide +kernel, ws_of 831 (by decide +kernel) (by decide +kernel), ws_of 830 (by decide +kernel) (by decide +kernel), rfl⟩
set_option maxRecDepth 100000 in
theorem okW_setInhibitor : okLW sL_setInhibitor hL_setInhibitor 185 := ⟨ws_of 839 rfl rfl, ws_of 0 (by decide +kernel) (by decide +kernel), ⟨by decide +kernel, by decide +kernel⟩, by decide +kernel, ws_of 838 (by decide +kernel) (by decide +kernel), ws_of 837 (by decide +kernel) (by decide +kernel), rfl⟩
set_option maxRecDepth 100000 in
theorem okW_fire : okLW sL_fire hL_fire 187 := ⟨ws_of 846 rfl rfl, ws_of 0 (by decide +kernel) (by decide +kernel), ⟨by decide +kernel, by decide +kernel⟩, by decide +kernel, ws_of 845 (by decide +kernel) (by decide +kernel), ws_of 844 (by decide +kernel) (by decide +kernel), rfl⟩
set_option maxRecDepth 100000 in
theorem okW_run : okLW sL_run hL_run 190 := ⟨ws_of 855 rfl rfl, ws_of 0 (by decide +kernel) (by decide +kernel), ⟨by decide +kernel, by decide +kernel⟩, by decide +kernel, ws_of 854 (by decide +kernel) (by decide +kernel), ws_of 853 (by decide +kernel) (by decide +kernel), rfl⟩
set_option maxRecDepth 100000 in
theorem okW_moveToMarking : okLW sL_moveToMarking hL_moveToMarking 198 := ⟨ws_of 913 rfl rfl, ws_of 0 (by decide +kernel) (by decide +kernel), ⟨by decide +kernel, by decide +kernel⟩, by decide +kernel, ws_of 912 (by decide +kernel) (by decide +kernel), ws_of 911 (by decide +kernel) (by decide +kernel), rfl⟩
set_option maxRecDepth 100000 in
theorem okW_tokens : okLW sL_tokens hL_tokens 206 := ⟨ws_of 988 rfl rfl, ws_of 0 (by decide +kernel) (by decide +kernel), ⟨by decide +kernel, by decide +kernel⟩, by decide +kernel, ws_of 987 (by decide +kernel) (by decide +kernel), ws_of 986 (by decide +kernel) (by decide +kernel), rfl⟩
set_option maxRecDepth 100000 in
theorem okW_capacity : okLW sL_capacity hL_capacity 208 := ⟨ws_of 995 rfl rfl, ws_of 0 (by decide +kernel) (by decide +kernel), ⟨by decide +kernel, by decide +kernel⟩, by decide +kernel, ws_of 994 (by decide +kernel) (by decide +kernel), ws_of 993 (by decide +kernel) (by decide +kernel), rfl⟩
set_option maxRecDepth 100000 in
theorem okW_whyNotEnabled : okLW sL_whyNotEnabled hL_whyNotEnabled 210 := ⟨ws_of 1002 rfl rfl, ws_of 0 (by decide +kernel) (by decide +kernel), ⟨by decide +kernel, by decide +kernel⟩, by decide +kernel, ws_of 1001 (by decide +kernel) (by decide +kernel), ws_of 1000 (by decide +kernel) (by decide +kernel), rfl⟩
set_option maxRecDepth 100000 in
theorem okW_blockingPlace : okLW sL_blockingPlace hL_blockingPlace 212 := ⟨ws_of 1013 rfl rfl, ws_of 0 (by decide +kernel) (by decide +kernel), ⟨by decide +kernel, by decide +kernel⟩, by decide +kernel, ws_of 1012 (by decide +kernel) (by decide +kernel), ws_of 1011 (by decide +kernel) (by decide +kernel), rfl⟩
set_option maxRecDepth 100000 in
theorem okW_firesInRow : okLW sL_firesInRow hL_firesInRow 214 := ⟨ws_of 1025 rfl rfl, ws_of 0 (by decide +kernel) (by decide +kernel), ⟨by decide +kernel, by decide +kernel⟩, by decide +kernel, ws_of 1024 (by decide +kernel) (by decide +kernel), ws_of 1023 (by decide +kernel) (by decide +kernel), rfl⟩
set_option maxRecDepth 100000 in
theorem okW_firings : okLW sL_firings hL_firings 229 := ⟨ws_of 1052 rfl rfl, ws_of 0 (by decide +kernel) (by decide +kernel), ⟨by decide +kernel, by decide +kernel⟩, by decide +kernel, ws_of 1051 (by decide +kernel) (by decide +kernel), ws_of 1050 (by decide +kernel) (by decide +kernel), rfl⟩
set_option maxRecDepth 100000 in
theorem okW_effect : okLW sL_effect hL_effect 234 := ⟨ws_of 1063 rfl rfl, ws_of 0 (by decide +kernel) (by decide +kernel), ⟨by decide +kernel, by decide +kernel⟩, by decide +kernel, ws_of 1062 (by decide +kernel) (by decide +kernel), ws_of 1061 (by decide +kernel) (by decide +kernel), rfl⟩
set_option maxRecDepth 100000 in
theorem okW_markingTokens : okLW sL_markingTokens hL_markingTokens 244 := ⟨ws_of 1085 rfl rfl, ws_of 0 (by decide +kernel) (by decide +kernel), ⟨by decide +kernel, by decide +kernel⟩, by decide +kernel, ws_of 1084 (by decide +kernel) (by decide +kernel), ws_of 1083 (by decide +kernel) (by decide +kernel), rfl⟩
set_option maxRecDepth 100000 in
theorem okW_markingDistance : okLW sL_markingDistance hL_markingDistance 246 := ⟨ws_of 1093 rfl rfl, ws_of 0 (by decide +kernel) (by decide +kernel), ⟨by decide +kernel, by decide +kernel⟩, by decide +kernel, ws_of 1092 (by decide +kernel) (by decide +kernel), ws_of 1091 (by decide +kernel) (by decide +kernel), rfl⟩
set_option maxRecDepth 100000 in
theorem okW_markingTransition : okLW sL_markingTransition hL_markingTransition 248 := ⟨ws_of 1100 rfl rfl, ws_of 0 (by decide +kernel) (by decide +kernel), ⟨by decide +kernel, by decide +kernel⟩, by decide +kernel, ws_of 1099 (by decide +kernel) (by decide +kernel), ws_of 1098 (by decide +kernel) (by decide +kernel), rfl⟩
theorem wL_ok : ∀ z ∈ wL, okLW z.2.1 z.2.2 z.1 := List.forall_mem_cons.mpr ⟨okW_setTokens, List.forall_mem_cons.mpr ⟨okW_setCapacity, List.forall_mem_cons.mpr ⟨okW_setInput, List.forall_mem_cons.mpr ⟨okW_setOutput, List.forall_mem_cons.mpr ⟨okW_setInhibitor, List.forall_mem_cons.mpr ⟨okW_fire, List.forall_mem_cons.mpr ⟨okW_run, List.forall_mem_cons.mpr ⟨okW_moveToMarking, List.forall_mem_cons.mpr ⟨okW_tokens, List.forall_mem_cons.mpr ⟨okW_capacity, List.forall_mem_cons.mpr ⟨okW_whyNotEnabled, List.forall_mem_cons.mpr ⟨okW_blockingPlace, List.forall_mem_cons.mpr ⟨okW_firesInRow, List.forall_mem_cons.mpr ⟨okW_firings, List.forall_mem_cons.mpr ⟨okW_effect, List.forall_mem_cons.mpr ⟨okW_markingTokens, List.forall_mem_cons.mpr ⟨okW_markingDistance, List.forall_mem_cons.mpr ⟨okW_markingTransition, fun _ h => absurd h List.not_mem_nil⟩⟩⟩⟩⟩⟩⟩⟩⟩⟩⟩⟩⟩⟩⟩⟩⟩⟩
theorem wT_ok {k : Nat} {y : MS} {hh : List (Nat × Nat × Nat × Nat)} (h : wT o k = some (y, hh)) : o = 6 ∧ okLW y hh k := by
  unfold wT at h
  by_cases e : o = 6
  · rw [if_pos e] at h
    exact ⟨e, wL_ok _ (tfind_mem h)⟩
  · rw [if_neg e] at h; cases h
theorem M_wrap {k : Nat} (hd : decode q.2.1 pc = .ok (.invokestatic k, 3)) (hs : stepE x q o post xp (.invokedynamic k) 3 pc b L st h (MW x q o post xp)) : MW x q o post xp pc b L st h := by
  intro p e s m args below meth c H locs cells slots ls hB hR hS hL h1 h2
  cases hf : wT o k with
  | none => simp only [stepE, hf] at hs
  | some v =>
    obtain ⟨y, hy⟩ := v
    simp only [stepE, hf] at hs
    obtain ⟨as, r, rfl, hn, hcat, hdl, hml, c1, c2, pp, hC, hk⟩ := popA_e hs
    rw [List.append_nil] at hC
    obtain ⟨rfl, k1, k2, k3, k4, k5, k6, k7⟩ := wT_ok hf
    have hts := hB.2.2.2.2.1
    have hG := hB.2.2.2.2.2.2.2.2.2
    have hin : ∀ w ∈ wsW y hy, w ∈ WS := fun w hw => (List.mem_cons.mp hw).elim (fun z => by rw [z]; exact k1) fun z => z
    refine E_run (a := as.toArray) (vx_runSX (Ts := WS) (hh := hy) (own := oR 6) ⟨hB.1, hB.2.1, hB.2.2.1, hB.2.2.2.2.2.1, hts⟩ hC ⟨⟨rfl, rfl, ?_, ?_, pay_in hts (goodWS hin), List.mem_cons_self⟩, hts _ k1, hts _ k2, k3, fun sig hsig => ?_, hts _ k6, hts _ k5⟩ ⟨PcE_blind, E_pre hG hS hR⟩ rfl hn hL.1.1 rfl ?_ hd ?_) hB hS (fun _ _ z => z.elim) (by omega) (by omega) ?_
    · show y.2.2.2.2.2.2.1 + 1 + 1 ≤ q.2.2.2.2.2.2.1 + 1
      unfold msD at hdl
      omega
    · show 8 + (y.2.2.1 + 11) + 40 * (y.2.2.2.2.2.2.1 + 1) ≤ 40 * (q.2.2.2.2.2.2.1 + 1)
      unfold msD at hdl
      omega
    · rw [hsig] at k4
      exact (Option.some.inj k4).symm
    · rw [catS_eq] at hcat
      exact lv_room hcat
    · exact ⟨by show _ ≤ q.2.2.2.2.2.2.2.1; omega, by show _ ≤ q.2.2.2.2.2.2.2.2; omega⟩
    · rintro v h' H1 locs1 ⟨r', rfl, hp⟩ hR1 hS1
      exact hk r' h' hp p e s m args below meth c H1 locs1 _ _ ls hB hR1 hS1 hL (by show _ + (b.1 - _) ≤ _; omega) (by show _ + (b.2 - _) ≤ _; omega)
/-- what a call of a StringBuilder's method needs -/
theorem E_sb {s : State} {H : Heap} {locs : List Loc} {a : Nat} (hG : GF x s s.heap) (hS : va_S (xA x) s.heap H locs) (hR : RP x h H) (hk : mK h a = 6) : ∃ cell : Cell, H[a]? = some cell ∧ cell.vm.isStatics = false ∧ s.vm.findClass "java/lang/StringBuilder" = some cell.cls := E_rcv (c := 5) hG hS hR (Or.inl ⟨by decide, hk⟩)
def okU (q : MS) (k : Nat) (xn : MethodName) (ow : String) (o : Nat) : Prop := okM q ∧ Cond.initialized q.1.cls ∈ WS ∧ (ow ≠ "java/lang/invoke/MethodHandle" ∧ ow ≠ "java/lang/invoke/VarHandle") ∧ (parseMethodDescriptor xn.desc).map (fun d => d.parameters.length) = some q.2.2.2.2.1 ∧ Cond.methodLink (oR o) k xn ∈ WS ∧ Cond.sameMethod xn.cls ow xn.name xn.desc ∈ WS ∧ Cond.instanceMethod ⟨ow, xn.name, xn.desc⟩ ∈ WS ∧ (∃ b0 m0 r0, Cond.code ⟨ow, xn.name, xn.desc⟩ b0 m0 r0 ∈ WS) ∧ Cond.selects "java/lang/StringBuilder" xn q.1 ∈ WS ∧ Cond.instanceMethod q.1 ∈ WS
def okS (q : MS) (k : Nat) : Prop := okM q ∧ Cond.methodLink (oR 5) k q.1 ∈ WS ∧ Cond.sameMethod q.1.cls q.1.cls q.1.name q.1.desc ∈ WS ∧ Cond.superclass (oR 5) q.1.cls ∈ WS ∧ Cond.instanceMethod q.1 ∈ WS ∧ q.1.name ≠ "<init>"
theorem okS_29 : okS sJ5_append_cf1ce 29 := ⟨okJ5_append_cf1ce, ws_of 284 (by decide +kernel) (by decide +kernel), ws_of 276 (by decide +kernel) (by decide +kernel), ws_of 285 (by decide +kernel) (by decide +kernel), ws_of 275 (by decide +kernel) (by decide +kernel), by decide +kernel⟩
theorem okS_50 : okS sJ5_append_3fe6f 50 := ⟨okJ5_append_3fe6f, ws_of 431 (by decide +kernel) (by decide +kernel), ws_of 1112 (by decide +kernel) (by decide +kernel), ws_of 285 (by decide +kernel) (by decide +kernel), ws_of 432 (by decide +kernel) (by decide +kernel), by decide +kernel⟩
theorem okS_53 : okS sJ5_append_c97b9 53 := ⟨okJ5_append_c97b9, ws_of 406 (by decide +kernel) (by decide +kernel), ws_of 1111 (by decide +kernel) (by decide +kernel), ws_of 285 (by decide +kernel) (by decide +kernel), ws_of 407 (by decide +kernel) (by decide +kernel), by decide +kernel⟩
theorem okS_329 : okS sJ5_charAt_5068e 329 := ⟨okJ5_charAt_5068e, ws_of 599 (by decide +kernel) (by decide +kernel), ws_of 1115 (by decide +kernel) (by decide +kernel), ws_of 285 (by decide +kernel) (by decide +kernel), ws_of 600 (by decide +kernel) (by decide +kernel), by decide +kernel⟩
theorem okS_343 : okS sJ5_length_8abf5 343 := ⟨okJ5_length_8abf5, ws_of 483 (by decide +kernel) (by decide +kernel), ws_of 479 (by decide +kernel) (by decide +kernel), ws_of 285 (by decide +kernel) (by decide +kernel), ws_of 478 (by decide +kernel) (by decide +kernel), by decide +kernel⟩
theorem sL_ok : ∀ z ∈ sL, okS z.2 z.1 := List.forall_mem_cons.mpr ⟨okS_29, List.forall_mem_cons.mpr ⟨okS_50, List.forall_mem_cons.mpr ⟨okS_53, List.forall_mem_cons.mpr ⟨okS_329, List.forall_mem_cons.mpr ⟨okS_343, fun _ h => absurd h List.not_mem_nil⟩⟩⟩⟩⟩
theorem sT_ok {o k : Nat} {y : MS} (h : sT o k = some y) : o = 5 ∧ okS y k := by
  unfold sT at h
  by_cases e : o = 5
  · rw [if_pos e] at h
    exact ⟨e, sL_ok _ (tfind_mem h)⟩
  · rw [if_neg e] at h; cases h
set_option maxRecDepth 100000 in
theorem okU_0 : okU sJ4_append_cf1ce 43 ⟨"java/lang/AbstractStringBuilder", "append", "(Ljava/lang/String;)Ljava/lang/AbstractStringBuilder;"⟩ "java/lang/AbstractStringBuilder" 11 := ⟨okJ4_append_cf1ce, ws_of 15 (by decide +kernel) (by decide +kernel), ⟨by decide +kernel, by decide +kernel⟩, by decide +kernel, ws_of 274 (by decide +kernel) (by decide +kernel), ws_of 276 (by decide +kernel) (by decide +kernel), ws_of 275 (by decide +kernel) (by decide +kernel), ⟨_, _, _, ws_of 286 rfl rfl⟩, ws_of 277 (by decide +kernel) (by decide +kernel), ws_of 278 (by decide +kernel) (by decide +kernel)⟩
set_option maxRecDepth 100000 in
theorem okU_1 : okU sJ4_length_8abf5 549 ⟨"java/lang/AbstractStringBuilder", "length", "()I"⟩ "java/lang/AbstractStringBuilder" 8 := ⟨okJ4_length_8abf5, ws_of 15 (by decide +kernel) (by decide +kernel), ⟨by decide +kernel, by decide +kernel⟩, by decide +kernel, ws_of 477 (by decide +kernel) (by decide +kernel), ws_of 479 (by decide +kernel) (by decide +kernel), ws_of 478 (by decide +kernel) (by decide +kernel), ⟨_, _, _, ws_of 484 rfl rfl⟩, ws_of 480 (by decide +kernel) (by decide +kernel), ws_of 481 (by decide +kernel) (by decide +kernel)⟩
theorem uT_ok {o k : Nat} {y : MS} {xn : MethodName} {ow : String} (h : uT o k = some (y, xn, ow)) : okU y k xn ow o := by
  unfold uT at h
  by_cases e : o = 11 ∧ k = 43
  · rw [if_pos e] at h
    obtain ⟨rfl, rfl⟩ := e
    cases h
    exact okU_0
  · rw [if_neg e] at h
    by_cases e : o = 8 ∧ k = 549
    · rw [if_pos e] at h
      obtain ⟨rfl, rfl⟩ := e
      cases h
      exact okU_1
    · rw [if_neg e] at h; cases h
theorem M_super {k : Nat} (hd : decode q.2.1 pc = .ok (.invokespecial k, 3)) (hs : stepE x q o post xp (.checkcast k) 3 pc b L st h (MW x q o post xp)) : MW x q o post xp pc b L st h := by
  intro p e s m args below meth c H locs cells slots ls hB hR hS hL h1 h2
  cases hf : sT o k with
  | none => simp only [stepE, hf] at hs
  | some y =>
    simp only [stepE, hf] at hs
    obtain ⟨as, r, rfl, hn, hs⟩ := popA_e hs
    rw [List.append_nil] at hs
    match as, hn, hs with
    | .ref a :: As, hn, hs =>
      obtain ⟨hka, hs⟩ := hs
      obtain ⟨rfl, hy, k1, k2, k3, k4, k5⟩ := sT_ok hf
      have hts := hB.2.2.2.2.1
      have hG := hB.2.2.2.2.2.2.2.2.2
      have hcat := hs.1
      have hdl := hs.2.1
      have hml := hs.2.2.1
      have hcb := E_callB (q := q) hts hy k1 hdl hml
      obtain ⟨r1, r2, r3, r4, r5, r6, r7, r8, r9, r10, r11⟩ := hcb
      obtain ⟨-, hfc, kC, hkC, hkd⟩ := hG.1 5 (by decide)
      refine E_after (a := (Value.ref a :: As).toArray) hs hB hS hL h1 h2 (fun _ _ _ z => z) fun p1 xp1 hC => ?_
      refine vx_runSU (Ts := WS) (C := "java/lang/StringBuilder") (As := As) (b := a) ⟨hfc, kC, hkC, hkd⟩ ⟨hB.1, hB.2.1, hB.2.2.1, hB.2.2.2.2.2.1, hts⟩ hC ⟨⟨r1, r2, r3, r4, r5, r6⟩, hts _ k1, hts _ k2, hts _ k3, hts _ k4, hts _ hy.2.1, hts _ hy.1, k5, r10⟩ ⟨PcE_blind, E_sb hG hS hR hka, E_pre hG hS hR⟩ rfl (Nat.succ.inj hn) hL.1.1 (by simp) ?_ hd ?_
      · rw [catS_eq] at hcat
        exact lv_room hcat
      · obtain ⟨-, -, -, c1, c2, -⟩ := hs
        exact ⟨by show _ ≤ q.2.2.2.2.2.2.2.1; omega, by show _ ≤ q.2.2.2.2.2.2.2.2; omega⟩
theorem M_below {k : Nat} (hd : decode q.2.1 pc = .ok (.invokevirtual k, 3)) (hs : stepE x q o post xp (.instanceof k) 3 pc b L st h (MW x q o post xp)) : MW x q o post xp pc b L st h := by
  intro p e s m args below meth c H locs cells slots ls hB hR hS hL h1 h2
  cases hf : uT o k with
  | none => simp only [stepE, hf] at hs
  | some v =>
    obtain ⟨y, xn, ow⟩ := v
    simp only [stepE, hf] at hs
    obtain ⟨as, r, rfl, hn, hs⟩ := popA_e hs
    rw [List.append_nil] at hs
    match as, hn, hs with
    | .ref a :: As, hn, hs =>
      obtain ⟨hka, hs⟩ := hs
      obtain ⟨hy, k1, k2, k3, k4, k5, k6, ⟨b0, m0, r0, k7⟩, k8, k9⟩ := uT_ok hf
      have hts := hB.2.2.2.2.1
      have hG := hB.2.2.2.2.2.2.2.2.2
      have hcat := hs.1
      have hdl := hs.2.1
      have hml := hs.2.2.1
      refine E_after (a := (Value.ref a :: As).toArray) hs hB hS hL h1 h2 (fun _ _ _ z => z) fun p1 xp1 hC => ?_
      refine vx_runU (Ts := WS) (C := "java/lang/StringBuilder") (owner := ow) (As := As) (b := a) (x := xn) ⟨hB.1, hB.2.1, hB.2.2.1, hB.2.2.2.2.2.1, hts⟩ hC ⟨⟨rfl, rfl, ?_, ?_, pay_in hts (goodWS (wsE_in hy)), List.mem_cons_self⟩, hts _ hy.1, hts _ k1, k2, fun sig hsig => ?_, hts _ k4, hts _ k5, va_Decl.of (hts _ k6) (hts _ k7), hts _ k8, hts _ k9⟩ ⟨PcE_blind, E_sb hG hS hR hka, E_pre hG hS hR⟩ rfl (Nat.succ.inj hn) hL.1.1 (by simp) ?_ hd ?_
      · show y.2.2.2.2.2.2.1 + 1 + 1 ≤ q.2.2.2.2.2.2.1 + 1
        unfold msD at hdl
        omega
      · show 8 + (y.2.2.1 + 11) + 40 * (y.2.2.2.2.2.2.1 + 1) ≤ 40 * (q.2.2.2.2.2.2.1 + 1)
        unfold msD at hdl
        omega
      · rw [hsig] at k3
        exact (Option.some.inj k3).symm
      · rw [catS_eq] at hcat
        exact lv_room hcat
      · obtain ⟨-, -, -, c1, c2, -⟩ := hs
        exact ⟨by show _ ≤ q.2.2.2.2.2.2.2.1; omega, by show _ ≤ q.2.2.2.2.2.2.2.2; omega⟩
end SNC
