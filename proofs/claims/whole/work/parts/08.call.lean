theorem goodWS {l : List Cond} (h : ∀ w ∈ l, w ∈ WS) : GoodIn WS l := fun w hw => ⟨h w hw, good_of_word (List.mem_filter.mp (h w hw)).2⟩
theorem wsE_in {y : MS} (h : okM y) : ∀ w ∈ wsE y, w ∈ WS := fun w hw => (List.mem_cons.mp hw).elim (fun z => by rw [z]; exact h.1) (fun z => z)
theorem wNG_on : ∀ w ∈ wNG, w.onTables = true := by decide
theorem wNG_kind : ∀ w ∈ wNG, (∃ c t, w = .castable c t) ∨ ∃ y, w = .declares y := by
  intro w hw
  simp only [wNG, List.mem_cons, List.not_mem_nil, or_false] at hw
  rcases hw with rfl | rfl | rfl | rfl | rfl | rfl | rfl
  · exact Or.inl ⟨_, _, rfl⟩
  · exact Or.inl ⟨_, _, rfl⟩
  · exact Or.inl ⟨_, _, rfl⟩
  · exact Or.inl ⟨_, _, rfl⟩
  · exact Or.inr ⟨_, rfl⟩
  · exact Or.inr ⟨_, rfl⟩
  · exact Or.inr ⟨_, rfl⟩
theorem wNG_warm {s U : State} (hW : s.WarmedH U.vm) (w : Cond) (hw : w ∈ wNG) (h : va_Nw w s) : va_Nw w U := by
  rcases wNG_kind w hw with ⟨c, t, rfl⟩ | ⟨y, rfl⟩
  · exact va_Nw.warmC hW h
  · exact va_tabs rfl (rfl : (s.setVm U.vm).vm = U.vm) (by rw [Cond.declares_setVm hW.alike]; exact h)
theorem GF.at {x : CX} {s U : State} {H : Heap} {locs : List Loc} (hG : GF x s s.heap) (hS : va_S (xA x) s.heap H locs) (hW : s.WarmedH U.vm) (hU : U.heap = H) : GF x U U.heap := by
  obtain ⟨g1, g2, g3, g4, g5, g6, g7, g8, g9, g10, g11, g12, g13, g14, g15⟩ := hG
  have hA := hW.alike
  rw [hU]
  refine ⟨fun c hc => u_Kn_moved hA (g1 c hc), fun t ht => ⟨arrOfT_moved hA (g2 t ht).1, (g2 t ht).2.moved hA⟩, vx_Zq.moved hA (g3.kept hS.2.1), vx_Zq.moved hA (g4.kept hS.2.1), fun i hi => (g5 i hi).warm hW, sS.moved hA (g6.kept hS.2.1), va_Z.moved hA (g7.kept hS.2.1), va_Zq.moved hA (g8.kept hS.2.1), ?_, g10, Nat.le_trans g11 hS.1, fun w hw => wNG_warm hW w hw (g12 w hw), fun c hc => (g13 c hc).moved hA, va_AO.moved hA g14, xAO.moved hA g15⟩
  obtain ⟨kA, h1, h2⟩ := g9
  obtain ⟨k', hk', he⟩ := hA.2.2 _ _ h1
  exact ⟨k', hk', by rw [he]; exact h2⟩
theorem GF.blind {x : CX} {U : State} {a : Array Value} {g : JFrame} {mk : MethodId} (hG : GF x U U.heap) : GF x (U.calling g mk a) (U.calling g mk a).heap := by
  obtain ⟨g1, g2, g3, g4, g5, g6, g7, g8, g9, g10, g11, g12, g13, g14, g15⟩ := hG
  have hA : U.vm.Alike (U.calling g mk a).vm := Vm.Alike.refl U.vm
  exact ⟨fun c hc => u_Kn_moved hA (g1 c hc), fun t ht => ⟨arrOfT_moved hA (g2 t ht).1, (g2 t ht).2.moved hA⟩, vx_Zq.moved hA g3, vx_Zq.moved hA g4, fun i hi => (g5 i hi).same (u := U) rfl, sS.moved hA g6, va_Z.moved hA g7, va_Zq.moved hA g8, g9, g10, g11, fun w hw => va_tabs (u := U) (wNG_on w hw) rfl (g12 w hw), fun c hc => (g13 c hc).moved hA, va_AO.moved hA g14, xAO.moved hA g15⟩
theorem PcE_blind {x : CX} {as : List Value} {h : MH} : FrameBlind (PcE x as h) := fun _ _ _ _ hp => ⟨hp.1, hp.2.1, hp.2.2.blind⟩
section SNC
variable {x : CX} {q y : MS} {o : Nat} {post post' : Option Value → MH → Prop} {xp xp' : String → MH → Prop} {pc : Nat} {b : Nat × Nat} {L st : List Value} {h : MH}
theorem E_run {p : Program} {e : Env} {s : State} {m : MethodId} {args a : Array Value} {below : List Frame} {meth : Method} {c : Code} {H : Heap} {locs : List Loc} {cells slots mc ms : Nat} {ls : Array Slot} {rest st0 : List Value}
    (hr : vx_Run p x.1 e (rmE q) s m args below meth c H locs cells slots mc ms (F0 m pc ls st0) rest (QcE x post' a) (XcE x xp') (xA x)) (hB : BD x q o p s m args meth c) (hS : va_S (xA x) s.heap H locs)
    (kx : ∀ E h', xp' E h' → xp E h') (hc : cells + mc ≤ q.2.2.2.2.2.2.2.1) (hsl : slots + ms ≤ q.2.2.2.2.2.2.2.2)
    (kk : ∀ (v : Option Value) (h' : MH) (H1 : Heap) (locs1 : List Loc), post' v h' → RP x h' H1 → va_S (xA x) s.heap H1 locs1 → W p x.1 e (rmE q) s m args below meth c H1 locs1 (cells + mc) (slots + ms) (vx_MQ below (QcE x post) (XcE x xp) args s q.2.2.2.2.2.2.2.1 q.2.2.2.2.2.2.2.2 (xA x)) (F0 m (pc + 3) ls (v.toList ++ rest))) :
    W p x.1 e (rmE q) s m args below meth c H locs cells slots (vx_MQ below (QcE x post) (XcE x xp) args s q.2.2.2.2.2.2.2.1 q.2.2.2.2.2.2.2.2 (xA x)) (F0 m pc ls st0) := by
  intro T hT X
  rcases hr T hT X with ⟨v, st₀, t, T', L1, h0, X', hL, e1, e2, ⟨⟨v', h', hv, hp, hrp⟩, hF⟩, st⟩ | ⟨qa, st₀, t, T', L1, E, ce, h0, X', hL, e1, e2, ⟨⟨h', hp, hrp⟩, hF⟩, hce, hcv, hcl, st⟩
  · cases hv
    obtain ⟨-, -, k3⟩ := vx_keep h0 e1 hS (fun _ _ z => z) (fun _ z => z) hL hF
    obtain ⟨t2, a1, b1⟩ := kk v h' T'.heap (locs ++ L1) hp (by rw [e1]; exact hrp) k3 T' rfl X'
    exact ⟨t2, st t2 a1, b1⟩
  · obtain ⟨-, -, k3⟩ := vx_keep h0 e1 hS (fun _ _ z => z) (fun _ z => z) hL hF
    obtain ⟨t2, a1, b1⟩ := vx_out (pc := pc) (rest := rest) (Qc := QcE x post) (XC := XcE x xp) (free := xA x) (mc := q.2.2.2.2.2.2.2.1) (ms := q.2.2.2.2.2.2.2.2) (fun z hz => absurd (hB.2.2.2.2.2.2.2.2.1 z hz) id) hB.2.2.2.2.2.2.1 (by rw [e1]; exact hce) hcv hcl
      (fun t9 ht9 _ => ⟨⟨h', kx E h' hp, by rw [ht9, e1]; exact hrp⟩, k3.F ht9⟩) k3.2.2 hc hsl T' rfl X'
    exact ⟨t2, st.trans a1, b1⟩
/-- what a call needs of the tables and of the room -/
theorem E_callB {k : Nat} {s : State} {args : Array Value} (hts : ∀ w ∈ WS, w.before args s = true) (hy : okM y) (hl : Cond.methodLink (oR o) k y.1 ∈ WS) (hd : msD y < msD q) (hm : y.2.2.1 ≤ 21) :
    CallB (rmE q) s args (oR o) k y.1 y.2.1 y.2.2.1 y.2.2.2.1 (wsE y) (rmE y) y.2.2.2.2.2.2.2.1 y.2.2.2.2.2.2.2.2 y.2.2.2.2.1 := by
  obtain ⟨k1, k2, k3, k4, k5, k6⟩ := hy
  refine callB_of _ hts (goodWS (wsE_in ⟨k1, k2, k3, k4, k5, k6⟩)) rfl rfl rfl (hts _ k2) (hts _ hl) ⟨k4.1, k4.2, k5⟩ ⟨?_, ?_⟩
  · show y.2.2.2.2.2.2.1 + 1 + 1 ≤ q.2.2.2.2.2.2.1 + 1
    unfold msD at hd
    omega
  · show 8 + (y.2.2.1 + 11) + 40 * (y.2.2.2.2.2.2.1 + 1) ≤ 40 * (q.2.2.2.2.2.2.1 + 1)
    unfold msD at hd
    omega
theorem E_pre {s : State} {H : Heap} {locs : List Loc} {as : List Value} (hG : GF x s s.heap) (hS : va_S (xA x) s.heap H locs) (hR : RP x h H) : ∀ U : State, U.heap = H → s.WarmedH U.vm → PcE x as h as.toArray U :=
  fun U hU hW => ⟨rfl, by rw [hU]; exact hR, hG.at hS hW hU⟩
theorem E_rcv {s : State} {H : Heap} {locs : List Loc} {a c : Nat} (hG : GF x s s.heap) (hS : va_S (xA x) s.heap H locs) (hR : RP x h H) (hr : rcvE x h a c) : ∃ cell : Cell, H[a]? = some cell ∧ cell.vm.isStatics = false ∧ s.vm.findClass (oR c) = some cell.cls := by
  rcases hr with ⟨hc, hk⟩ | ⟨rfl, i, hi, rfl⟩
  · obtain ⟨cell, g1, g2, g3, -⟩ := hR.obj hc hk
    refine ⟨cell, g1, by rw [g3]; rfl, ?_⟩
    rw [g2, oR_eR c hc]
    exact (hG.1 c hc).2.1
  · exact sS.recv hG.2.2.2.2.2.1 hi hS
/-- behind a call -/
theorem E_after {K : Nat × Nat → List Value → MH → Prop} {p : Program} {e : Env} {s : State} {m : MethodId} {args a : Array Value} {below : List Frame} {meth : Method} {c : Code} {H : Heap} {locs : List Loc} {cells slots : Nat} {ls : Array Slot} {as r st0 : List Value}
    (hs : callE x q y as r h xp b K) (hB : BD x q o p s m args meth c) (hS : va_S (xA x) s.heap H locs) (hL : LR ls q.2.2.1 L) (h1 : cells + b.1 ≤ q.2.2.2.2.2.2.2.1) (h2 : slots + b.2 ≤ q.2.2.2.2.2.2.2.2)
    (hK : ∀ b' st' h', K b' st' h' → MW x q o post xp (pc + 3) b' L st' h')
    (hrun : ∀ post' xp', CT x y as h post' xp' → vx_Run p x.1 e (rmE q) s m args below meth c H locs cells slots y.2.2.2.2.2.2.2.1 y.2.2.2.2.2.2.2.2 (F0 m pc ls st0) r (QcE x post' a) (XcE x xp') (xA x)) :
    W p x.1 e (rmE q) s m args below meth c H locs cells slots (vx_MQ below (QcE x post) (XcE x xp) args s q.2.2.2.2.2.2.2.1 q.2.2.2.2.2.2.2.2 (xA x)) (F0 m pc ls st0) := by
  obtain ⟨-, -, -, c1, c2, hs⟩ := hs
  have hgo : ∀ (p1 : Option Value → MH → Prop) (xp1 : String → MH → Prop), CT x y as h p1 xp1 → (∀ E h', xp1 E h' → xp E h') → (∀ v h', p1 v h' → K (b.1 - y.2.2.2.2.2.2.2.1, b.2 - y.2.2.2.2.2.2.2.2) (v.toList ++ r) h') →
      W p x.1 e (rmE q) s m args below meth c H locs cells slots (vx_MQ below (QcE x post) (XcE x xp) args s q.2.2.2.2.2.2.2.1 q.2.2.2.2.2.2.2.2 (xA x)) (F0 m pc ls st0) := by
    intro p1 xp1 hC hx hk
    exact E_run (hrun p1 xp1 hC) hB hS hx (by omega) (by omega) fun v h' H1 locs1 hp hR1 hS1 => hK _ _ _ (hk v h' hp) p e s m args below meth c H1 locs1 _ _ ls hB hR1 hS1 hL (by show _ + (b.1 - _) ≤ _; omega) (by show _ + (b.2 - _) ≤ _; omega)
  have hI : CALLI x y as h xp (fun r' h' => K (b.1 - y.2.2.2.2.2.2.2.1, b.2 - y.2.2.2.2.2.2.2.2) (.int r' :: r) h') → _ := fun ⟨p1, xp1, hC, hx, hk⟩ => hgo _ _ hC hx fun v h' ⟨r', hv, hp⟩ => by subst hv; exact hk r' h' hp
  cases hr : y.2.2.2.1 with
  | none =>
    rw [hr] at hs
    obtain ⟨p1, xp1, hC, hx, hk⟩ := hs
    exact hgo _ _ hC hx fun v h' ⟨hv, hp⟩ => by subst hv; exact hk h' hp
  | some t =>
    rw [hr] at hs
    cases t with
    | int => exact hI hs
    | boolean => exact hI hs
    | byte => exact hI hs
    | char => exact hI hs
    | long =>
      obtain ⟨p1, xp1, hC, hx, hk⟩ := hs
      exact hgo _ _ hC hx fun v h' ⟨r', hv, hp⟩ => by subst hv; exact hk r' h' hp
    | object n =>
      obtain ⟨p1, xp1, hC, hx, hk⟩ := hs
      exact hgo _ _ hC hx fun v h' ⟨r', hv, hp⟩ => by subst hv; exact hk r' h' hp
    | _ => exact absurd hs id
theorem popA_e : ∀ {n : Nat} {st acc : List Value} {k : List Value → List Value → Prop}, popA n st acc k → ∃ as r, st = as.reverse ++ r ∧ as.length = n ∧ k (as ++ acc) r
  | 0, st, acc, k, h => ⟨[], st, rfl, rfl, h⟩
  | n + 1, [], acc, k, h => absurd h id
  | n + 1, v :: st, acc, k, h => by
    obtain ⟨as, r, h1, h2, h3⟩ := popA_e (n := n) (st := st) (acc := v :: acc) (k := k) h
    exact ⟨as ++ [v], r, by rw [h1]; simp, by simp [h2], by simpa using h3⟩
theorem mT_in {k : Nat} (ho : o < 11) (h : mT o k = some y) : okM y ∧ Cond.methodLink (oR o) k y.1 ∈ WS := by
  have h2 := mT_ok h
  rw [show min o 10 = o by omega] at h2
  exact h2
theorem M_invokestatic {k : Nat} (ho : o < 11) (hd : decode q.2.1 pc = .ok (.invokestatic k, 3)) (hs : stepE x q o post xp (.invokestatic k) 3 pc b L st h (MW x q o post xp)) : MW x q o post xp pc b L st h := by
  intro p e s m args below meth c H locs cells slots ls hB hR hS hL h1 h2
  cases hf : mT o k with
  | none => simp only [stepE, hf] at hs
  | some y =>
    simp only [stepE, hf] at hs
    obtain ⟨as, r, rfl, hn, hst, hs⟩ := popA_e hs
    rw [List.append_nil] at hs
    obtain ⟨hy, hl⟩ := mT_in ho hf
    have hts := hB.2.2.2.2.1
    have hG := hB.2.2.2.2.2.2.2.2.2
    have hcat := hs.1
    have hdl := hs.2.1
    have hml := hs.2.2.1
    refine E_after (a := as.toArray) hs hB hS hL h1 h2 (fun _ _ _ z => z) fun p1 xp1 hC => ?_
    refine vx_runS (Ts := WS) ⟨hB.1, hB.2.1, hB.2.2.1, hB.2.2.2.2.2.1, hts⟩ hC ⟨E_callB hts hy hl hdl hml, ?_⟩ ⟨PcE_blind, E_pre hG hS hR⟩ rfl hn hL.1.1 rfl ?_ hd ?_
    · have hst : y.2.2.2.2.2.1 = 99 := hst
      have h6 := hy.2.2.2.2.2
      rw [if_pos hst] at h6
      exact hts _ h6
    · rw [catS_eq] at hcat
      exact lv_room hcat
    · obtain ⟨-, -, -, c1, c2, -⟩ := hs
      exact ⟨by show _ ≤ q.2.2.2.2.2.2.2.1; omega, by show _ ≤ q.2.2.2.2.2.2.2.2; omega⟩
theorem M_invokevirtual {k : Nat} (ho : o < 11) (hd : decode q.2.1 pc = .ok (.invokevirtual k, 3)) (hs : stepE x q o post xp (.invokevirtual k) 3 pc b L st h (MW x q o post xp)) : MW x q o post xp pc b L st h := by
  intro p e s m args below meth c H locs cells slots ls hB hR hS hL h1 h2
  cases hf : mT o k with
  | none => simp only [stepE, hf] at hs
  | some y =>
    simp only [stepE, hf] at hs
    obtain ⟨as, r, rfl, hn, hs⟩ := popA_e hs
    rw [List.append_nil] at hs
    match as, hn, hs with
    | .ref a :: As, hn, hs =>
      obtain ⟨hrc, hni, hs⟩ := hs
      obtain ⟨hy, hl⟩ := mT_in ho hf
      have hts := hB.2.2.2.2.1
      have hG := hB.2.2.2.2.2.2.2.2.2
      have hcat := hs.1
      have hdl := hs.2.1
      have hml := hs.2.2.1
      have hst : ¬ y.2.2.2.2.2.1 = 99 := by
        intro z
        unfold rcvE msR at hrc
        rw [z] at hrc
        rcases hrc with ⟨g, -⟩ | ⟨g, -⟩
        · omega
        · cases g
      have h6 := hy.2.2.2.2.2
      rw [if_neg hst] at h6
      obtain ⟨e9, i9, s9⟩ := h6
      have s9 := s9.resolve_left hni
      refine E_after (a := (Value.ref a :: As).toArray) hs hB hS hL h1 h2 (fun _ _ _ z => z) fun p1 xp1 hC => ?_
      refine vx_runV (Ts := WS) (C := y.1.cls) (As := As) (b := a) ⟨hB.1, hB.2.1, hB.2.2.1, hB.2.2.2.2.2.1, hts⟩ hC ⟨E_callB hts hy hl hdl hml, hts _ i9, hts _ s9⟩ ⟨PcE_blind, ?_, E_pre hG hS hR⟩ rfl (Nat.succ.inj hn) hL.1.1 (by simp) ?_ hd ?_
      · have := E_rcv hG hS hR hrc
        unfold msR at this
        rw [e9] at this
        exact this
      · rw [catS_eq] at hcat
        exact lv_room hcat
      · obtain ⟨-, -, -, c1, c2, -⟩ := hs
        exact ⟨by show _ ≤ q.2.2.2.2.2.2.2.1; omega, by show _ ≤ q.2.2.2.2.2.2.2.2; omega⟩
theorem M_invokespecial {k : Nat} (ho : o < 11) (hd : decode q.2.1 pc = .ok (.invokespecial k, 3)) (hs : stepE x q o post xp (.invokespecial k) 3 pc b L st h (MW x q o post xp)) : MW x q o post xp pc b L st h := by
  intro p e s m args below meth c H locs cells slots ls hB hR hS hL h1 h2
  cases hf : mT o k with
  | none => simp only [stepE, hf] at hs
  | some y =>
    simp only [stepE, hf] at hs
    obtain ⟨as, r, rfl, hn, hs⟩ := popA_e hs
    rw [List.append_nil] at hs
    match as, hn, hs with
    | .ref a :: As, hn, hs =>
      obtain ⟨hni, hret, hst, hs⟩ := hs
      obtain ⟨hy, hl⟩ := mT_in ho hf
      have hts := hB.2.2.2.2.1
      have hG := hB.2.2.2.2.2.2.2.2.2
      have hcat := hs.1
      have hdl := hs.2.1
      have hml := hs.2.2.1
      have hst : ¬ y.2.2.2.2.2.1 = 99 := hst
      have h6 := hy.2.2.2.2.2
      rw [if_neg hst] at h6
      obtain ⟨e9, i9, -⟩ := h6
      have hcb := E_callB hts hy hl hdl hml
      rw [hret] at hcb
      refine E_after (a := (Value.ref a :: As).toArray) hs hB hS hL h1 h2 (fun _ _ _ z => z) fun p1 xp1 hC => ?_
      refine vx_runI (Ts := WS) (As := As) (b := a) ⟨hB.1, hB.2.1, hB.2.2.1, hB.2.2.2.2.2.1, hts⟩ hC ⟨hcb, hni, hts _ i9⟩ ⟨PcE_blind, E_pre hG hS hR⟩ rfl (Nat.succ.inj hn) hL.1.1 (by simp) ?_ hd ?_
      · rw [catS_eq] at hcat
        exact lv_room hcat
      · obtain ⟨-, -, -, c1, c2, -⟩ := hs
        exact ⟨by show _ ≤ q.2.2.2.2.2.2.2.1; omega, by show _ ≤ q.2.2.2.2.2.2.2.2; omega⟩
end SNC
