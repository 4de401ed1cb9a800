theorem okW0 : ∀ w ∈ u_ws (eR 0) (eT 0) (eN 0), w ∈ WS := by
  have e : u_ws (eR 0) (eT 0) (eN 0) = [Cond.laysFinal RX0 "PetriNet$Exploration" "keys" "[J", Cond.laysFinal RX0 "PetriNet$Exploration" "distances" "[I", Cond.laysFinal RX0 "PetriNet$Exploration" "foundBy" "[I", Cond.laysFinal RX0 "PetriNet$Exploration" "enabledSets" "[I", Cond.laysFinal RX0 "PetriNet$Exploration" "changes" "[J", Cond.laysFinal RX0 "PetriNet$Exploration" "slots" "[I", Cond.laysFinal RX0 "PetriNet$Exploration" "walker" "LPetriNet$Net;", Cond.lays RX0 "PetriNet$Exploration" "count" "I", Cond.lays RX0 "PetriNet$Exploration" "isWhole" "Z"] := by decide +kernel
  rw [e]
  exact List.forall_mem_cons.mpr ⟨ws_of 178 (by decide +kernel) (by decide +kernel), List.forall_mem_cons.mpr ⟨ws_of 180 (by decide +kernel) (by decide +kernel), List.forall_mem_cons.mpr ⟨ws_of 182 (by decide +kernel) (by decide +kernel), List.forall_mem_cons.mpr ⟨ws_of 184 (by decide +kernel) (by decide +kernel), List.forall_mem_cons.mpr ⟨ws_of 186 (by decide +kernel) (by decide +kernel), List.forall_mem_cons.mpr ⟨ws_of 188 (by decide +kernel) (by decide +kernel), List.forall_mem_cons.mpr ⟨ws_of 190 (by decide +kernel) (by decide +kernel), List.forall_mem_cons.mpr ⟨ws_of 192 (by decide +kernel) (by decide +kernel), List.forall_mem_cons.mpr ⟨ws_of 194 (by decide +kernel) (by decide +kernel), fun _ h => absurd h List.not_mem_nil⟩⟩⟩⟩⟩⟩⟩⟩⟩
theorem okW1 : ∀ w ∈ u_ws (eR 1) (eT 1) (eN 1), w ∈ WS := by
  have e : u_ws (eR 1) (eT 1) (eN 1) = [Cond.laysFinal RX1 "PetriNet$History" "rows" "[LPetriNet$Net;", Cond.lays RX1 "PetriNet$History" "next" "I", Cond.lays RX1 "PetriNet$History" "count" "I"] := by decide +kernel
  rw [e]
  exact List.forall_mem_cons.mpr ⟨ws_of 113 (by decide +kernel) (by decide +kernel), List.forall_mem_cons.mpr ⟨ws_of 115 (by decide +kernel) (by decide +kernel), List.forall_mem_cons.mpr ⟨ws_of 117 (by decide +kernel) (by decide +kernel), fun _ h => absurd h List.not_mem_nil⟩⟩⟩
theorem okW2 : ∀ w ∈ u_ws (eR 2) (eT 2) (eN 2), w ∈ WS := by
  have e : u_ws (eR 2) (eT 2) (eN 2) = [Cond.lays RX2 "PetriNet$Net" "places" "I", Cond.lays RX2 "PetriNet$Net" "transitions" "I", Cond.laysFinal RX2 "PetriNet$Net" "marking" "[I", Cond.laysFinal RX2 "PetriNet$Net" "capacities" "[I", Cond.lays RX2 "PetriNet$Net" "inputs" "[I", Cond.lays RX2 "PetriNet$Net" "outputs" "[I", Cond.laysFinal RX2 "PetriNet$Net" "limits" "[I", Cond.laysFinal RX2 "PetriNet$Net" "fired" "[I"] := by decide +kernel
  rw [e]
  exact List.forall_mem_cons.mpr ⟨ws_of 67 (by decide +kernel) (by decide +kernel), List.forall_mem_cons.mpr ⟨ws_of 69 (by decide +kernel) (by decide +kernel), List.forall_mem_cons.mpr ⟨ws_of 71 (by decide +kernel) (by decide +kernel), List.forall_mem_cons.mpr ⟨ws_of 73 (by decide +kernel) (by decide +kernel), List.forall_mem_cons.mpr ⟨ws_of 75 (by decide +kernel) (by decide +kernel), List.forall_mem_cons.mpr ⟨ws_of 77 (by decide +kernel) (by decide +kernel), List.forall_mem_cons.mpr ⟨ws_of 79 (by decide +kernel) (by decide +kernel), List.forall_mem_cons.mpr ⟨ws_of 81 (by decide +kernel) (by decide +kernel), fun _ h => absurd h List.not_mem_nil⟩⟩⟩⟩⟩⟩⟩⟩
theorem okW3 : ∀ w ∈ u_ws (eR 3) (eT 3) (eN 3), w ∈ WS := by
  have e : u_ws (eR 3) (eT 3) (eN 3) = [Cond.laysFinal RX3 "PetriNet$Script" "text" "[B", Cond.lays RX3 "PetriNet$Script" "length" "I", Cond.laysFinal RX3 "PetriNet$Script" "net" "LPetriNet$Net;", Cond.lays RX3 "PetriNet$Script" "errorKind" "I", Cond.lays RX3 "PetriNet$Script" "errorOffset" "I", Cond.lays RX3 "PetriNet$Script" "tokenKind" "I", Cond.lays RX3 "PetriNet$Script" "tokenStart" "I", Cond.lays RX3 "PetriNet$Script" "tokenEnd" "I"] := by decide +kernel
  rw [e]
  exact List.forall_mem_cons.mpr ⟨ws_of 139 (by decide +kernel) (by decide +kernel), List.forall_mem_cons.mpr ⟨ws_of 141 (by decide +kernel) (by decide +kernel), List.forall_mem_cons.mpr ⟨ws_of 143 (by decide +kernel) (by decide +kernel), List.forall_mem_cons.mpr ⟨ws_of 145 (by decide +kernel) (by decide +kernel), List.forall_mem_cons.mpr ⟨ws_of 147 (by decide +kernel) (by decide +kernel), List.forall_mem_cons.mpr ⟨ws_of 149 (by decide +kernel) (by decide +kernel), List.forall_mem_cons.mpr ⟨ws_of 151 (by decide +kernel) (by decide +kernel), List.forall_mem_cons.mpr ⟨ws_of 153 (by decide +kernel) (by decide +kernel), fun _ h => absurd h List.not_mem_nil⟩⟩⟩⟩⟩⟩⟩⟩
theorem okW4 : ∀ w ∈ u_ws (eR 4) (eT 4) (eN 4), w ∈ WS := by
  have e : u_ws (eR 4) (eT 4) (eN 4) = [Cond.laysFinal RX4 "PetriNet" "net" "LPetriNet$Net;", Cond.laysFinal RX4 "PetriNet" "trial" "LPetriNet$Net;", Cond.laysFinal RX4 "PetriNet" "snapshot" "LPetriNet$Net;", Cond.lays RX4 "PetriNet" "hasSnapshot" "Z", Cond.laysFinal RX4 "PetriNet" "history" "LPetriNet$History;", Cond.laysFinal RX4 "PetriNet" "script" "LPetriNet$Script;", Cond.laysFinal RX4 "PetriNet" "exploration" "LPetriNet$Exploration;", Cond.lays RX4 "PetriNet" "isExplored" "Z", Cond.laysFinal RX4 "PetriNet" "digits" "[I", Cond.laysFinal RX4 "PetriNet" "report" "[B", Cond.lays RX4 "PetriNet" "reportSize" "I"] := by decide +kernel
  rw [e]
  exact List.forall_mem_cons.mpr ⟨ws_of 209 (by decide +kernel) (by decide +kernel), List.forall_mem_cons.mpr ⟨ws_of 211 (by decide +kernel) (by decide +kernel), List.forall_mem_cons.mpr ⟨ws_of 213 (by decide +kernel) (by decide +kernel), List.forall_mem_cons.mpr ⟨ws_of 215 (by decide +kernel) (by decide +kernel), List.forall_mem_cons.mpr ⟨ws_of 217 (by decide +kernel) (by decide +kernel), List.forall_mem_cons.mpr ⟨ws_of 219 (by decide +kernel) (by decide +kernel), List.forall_mem_cons.mpr ⟨ws_of 221 (by decide +kernel) (by decide +kernel), List.forall_mem_cons.mpr ⟨ws_of 223 (by decide +kernel) (by decide +kernel), List.forall_mem_cons.mpr ⟨ws_of 225 (by decide +kernel) (by decide +kernel), List.forall_mem_cons.mpr ⟨ws_of 227 (by decide +kernel) (by decide +kernel), List.forall_mem_cons.mpr ⟨ws_of 229 (by decide +kernel) (by decide +kernel), fun _ h => absurd h List.not_mem_nil⟩⟩⟩⟩⟩⟩⟩⟩⟩⟩⟩
theorem okW5 : ∀ w ∈ u_ws (eR 5) (eT 5) (eN 5), w ∈ WS := by
  have e : u_ws (eR 5) (eT 5) (eN 5) = [Cond.lays RJ4 "java/lang/AbstractStringBuilder" "value" "[B", Cond.lays RJ4 "java/lang/AbstractStringBuilder" "coder" "B", Cond.lays RJ4 "java/lang/AbstractStringBuilder" "maybeLatin1" "Z", Cond.lays RJ4 "java/lang/AbstractStringBuilder" "count" "I"] := by decide +kernel
  rw [e]
  exact List.forall_mem_cons.mpr ⟨ws_of 394 (by decide +kernel) (by decide +kernel), List.forall_mem_cons.mpr ⟨ws_of 396 (by decide +kernel) (by decide +kernel), List.forall_mem_cons.mpr ⟨ws_of 398 (by decide +kernel) (by decide +kernel), List.forall_mem_cons.mpr ⟨ws_of 400 (by decide +kernel) (by decide +kernel), fun _ h => absurd h List.not_mem_nil⟩⟩⟩⟩
theorem okW6 : ∀ w ∈ u_ws (eR 6) (eT 6) (eN 6), w ∈ WS := by
  have e : u_ws (eR 6) (eT 6) (eN 6) = [Cond.laysFinal RJ0 "java/lang/String" "value" "[B", Cond.laysFinal RJ0 "java/lang/String" "coder" "B", Cond.lays RJ0 "java/lang/String" "hash" "I", Cond.lays RJ0 "java/lang/String" "hashIsZero" "Z"] := by decide +kernel
  rw [e]
  exact List.forall_mem_cons.mpr ⟨ws_of 583 (by decide +kernel) (by decide +kernel), List.forall_mem_cons.mpr ⟨ws_of 585 (by decide +kernel) (by decide +kernel), List.forall_mem_cons.mpr ⟨ws_of 587 (by decide +kernel) (by decide +kernel), List.forall_mem_cons.mpr ⟨ws_of 589 (by decide +kernel) (by decide +kernel), fun _ h => absurd h List.not_mem_nil⟩⟩⟩⟩
theorem okW {c : Nat} (hc : c < 7) : ∀ w ∈ u_ws (eR c) (eT c) (eN c), w ∈ WS := by
  match c, hc with
  | 0, _ => exact okW0
  | 1, _ => exact okW1
  | 2, _ => exact okW2
  | 3, _ => exact okW3
  | 4, _ => exact okW4
  | 5, _ => exact okW5
  | 6, _ => exact okW6
theorem eTy_ok {c : Nat} (hc : c < 7) : ∀ k, k < eN c → parseFieldDescriptor (eT c k).2.2.1 = some (eTy c k) := by
  match c, hc with
  | 0, _ => exact tyX0_ok
  | 1, _ => exact tyX1_ok
  | 2, _ => exact tyX2_ok
  | 3, _ => exact tyX3_ok
  | 4, _ => exact tyX4_ok
  | 5, _ => exact tyJ4_ok
  | 6, _ => exact tyJ0_ok
theorem eNm {c : Nat} (hc : c < 7) : ∀ a, a < eN c → ∀ b, b < eN c → a ≠ b → (eT c a).2.1 ≠ (eT c b).2.1 := by
  match c, hc with
  | 0, _ => exact nmX0
  | 1, _ => exact nmX1
  | 2, _ => exact nmX2
  | 3, _ => exact nmX3
  | 4, _ => exact nmX4
  | 5, _ => exact nmJ4
  | 6, _ => exact nmJ0
theorem eTy_int : ∀ c, c < 7 → ∀ k, k < eN c → eRef c k = false → eTy c k = .int ∨ eTy c k = .boolean ∨ eTy c k = .byte := by decide +kernel
theorem eDecl : ∀ c, c < 7 → ∀ k, k < eN c → (eT c k).2.2.2 = true → (eT c k).1 = eR c := by decide +kernel
theorem oR_eR : ∀ c, c < 6 → oR c = eR c := by decide +kernel
section RPS
variable {x : CX} {h h' : MH} {H H' : Heap} {a : Nat}
theorem RP.upd (hR : RP x h H) (z : H'.size = H.size) (oq : ∀ q : Nat, q ≠ a → H'[q]? = H[q]?) (h1 : mZ h' = mZ h) (h2 : ∀ b, mK h' b = mK h b) (h3 : ∀ b, mL h' b = mL h b)
    (h4 : ∀ b, b ≠ a → ∀ j, mI h' b j = mI h b j ∧ mJ h' b j = mJ h b j ∧ mP h' b j = mP h b j)
    (ho : ∀ c, c < 7 → mK h a = c + 1 → t_OB a (xC x c) (eN c) (xS x c) H' (fvE c h' a)) (ha : ∀ t, t < 5 → mK h a = t + 11 → H'[a]? = some (arrV (xT x t) (mL h a) (avE t h' a))) : RP x h' H' := by
  refine ⟨by rw [z, h1]; exact hR.1, fun b hb => hR.2.1 b (by rw [← h2]; exact hb), fun b c hc hb => ?_, fun b t ht hb => ?_⟩
  · rw [h2] at hb
    by_cases e : b = a
    · subst e
      exact ho c hc hb
    · refine ((hR.2.2.1 b c hc hb).kept (oq b e)).to fun k _ => ?_
      unfold fvE
      rw [(h4 b e k).1, (h4 b e k).2.2]
  · rw [h2] at hb
    by_cases e : b = a
    · subst e
      rw [h3]
      exact ha t ht hb
    · rw [oq b e, hR.2.2.2 b t ht hb, h3]
      refine congrArg some (congrArg _ (funext fun j => ?_))
      unfold avE
      rw [(h4 b e j).1, (h4 b e j).2.1, (h4 b e j).2.2]
theorem RP.obj (hR : RP x h H) {c : Nat} (hc : c < 7) (hk : mK h a = c + 1) : t_OB a (xC x c) (eN c) (xS x c) H (fvE c h a) := hR.2.2.1 a c hc hk
theorem RP.arr (hR : RP x h H) {t : Nat} (ht : t < 5) (hk : mK h a = t + 11) : H[a]? = some (arrV (xT x t) (mL h a) (avE t h a)) := hR.2.2.2 a t ht hk
theorem RP.lt (hR : RP x h H) {c : Nat} (hc : c < 7) (hk : mK h a = c + 1) : a < H.size := by
  obtain ⟨cell, h1, -⟩ := hR.obj hc hk
  exact (Array.getElem?_eq_some_iff.mp h1).1
theorem RP.alt (hR : RP x h H) {t : Nat} (ht : t < 5) (hk : mK h a = t + 11) : a < H.size := (Array.getElem?_eq_some_iff.mp (hR.arr ht hk)).1
theorem RP.in (hR : RP x h H) {k : Nat} (hk : mK h a = k + 1) : xA x a := hR.2.1 a (by rw [hk]; exact Nat.succ_ne_zero k)
end RPS
theorem arrV_cong {c : ClassId} {n : Nat} {f g : Nat → Value} (h : ∀ j, f j = g j) : arrV c n f = arrV c n g := congrArg _ (funext h)
section SNH
variable {x : CX} {q : MS} {o : Nat} {post : Option Value → MH → Prop} {xp : String → MH → Prop} {pc : Nat} {b : Nat × Nat} {L st : List Value} {h : MH}
theorem fT_o {o k : Nat} {v : Nat × Nat} (h : fT o k = some v) : okF o (k, v) := fT_ok h
theorem M_getfield {k : Nat} (hd : decode q.2.1 pc = .ok (.getfield k, 3)) (hs : stepE x q o post xp (.getfield k) 3 pc b L st h (MW x q o post xp)) : MW x q o post xp pc b L st h := by
  intro p e s m args below meth c H locs cells slots ls hB hR hS hL h1 h2
  cases hf : fT o k with
  | none => simp only [stepE, hf] at hs
  | some v =>
    obtain ⟨ci, j⟩ := v
    simp only [stepE, hf] at hs
    obtain ⟨a, r, rfl, hk, hs⟩ := popR_e hs
    obtain ⟨hci, hj, hlk⟩ := fT_ok hf
    dsimp only at hci hj hlk
    obtain ⟨cell, q1, q2, q3, q4⟩ := hR.obj hci hk
    have hG := hB.2.2.2.2.2.2.2.2.2
    obtain ⟨hSl, hfc, kC, hkC, hkind⟩ := hG.1 ci hci
    obtain ⟨cf, kf, fi, f, hi, hsl⟩ := hSl j hj
    have hts := hB.2.2.2.2.1
    have hst := (u_facts hfc hkC (u_lays hts (okW hci) hj) hi).1
    have hslot : cell.slots[f.slot]? = some (fvE ci h a j) := by rw [hsl]; exact q4 j hj
    cases hr : eRef ci j with
    | true =>
      rw [hr] at hs
      refine W.getf hB.1 hB.2.1 hB.2.2.2.2.2.1 (hts _ hlk) hi hst q1 (by rw [q3]; exact fun z => by cases z) (v := .ref (mP h a j)) ?_ rfl rfl hd (hs.2 p e s m args below meth c H locs cells slots ls hB hR hS hL h1 h2)
      rw [hslot]
      unfold fvE rv
      rw [if_pos hr, if_neg hs.1]
    | false =>
      rw [hr] at hs
      refine W.getf hB.1 hB.2.1 hB.2.2.2.2.2.1 (hts _ hlk) hi hst q1 (by rw [q3]; exact fun z => by cases z) (v := .int (mI h a j)) ?_ rfl rfl hd (hs p e s m args below meth c H locs cells slots ls hB hR hS hL h1 h2)
      rw [hslot]
      unfold fvE
      rw [if_neg (by rw [hr]; decide)]
theorem M_put {k ci j a : Nat} {r : List Value} {v : Value} {h' : MH} (hd : decode q.2.1 pc = .ok (.putfield k, 3)) (hf : fT o k = some (ci, j)) (hk : mK h a = ci + 1) (hfin : (eT ci j).2.2.2 = true → q.1.name = "<init>" ∧ oR o = eR ci)
    (hn : narrow (eTy ci j) v = v) (hfit : fits (eTy ci j) v = true) (e1 : mZ h' = mZ h) (e2 : ∀ b, mK h' b = mK h b) (e3 : ∀ b, mL h' b = mL h b)
    (e4 : ∀ b, b ≠ a → ∀ j, mI h' b j = mI h b j ∧ mJ h' b j = mJ h b j ∧ mP h' b j = mP h b j) (e5 : ∀ y, fvE ci h' a y = if y = j then v else fvE ci h a y)
    (hs : MW x q o post xp (pc + 3) b L r h') : MW x q o post xp pc b L (v :: .ref a :: r) h := by
  intro p e s m args below meth c H locs cells slots ls hB hR hS hL h1 h2
  obtain ⟨hci, hj, hlk⟩ := fT_ok hf
  dsimp only at hci hj hlk
  obtain ⟨cell, q1, q2, q3, q4⟩ := hR.obj hci hk
  have hG := hB.2.2.2.2.2.2.2.2.2
  obtain ⟨hSl, hfc, kC, hkC, hkind⟩ := hG.1 ci hci
  obtain ⟨cf, kf, fi, f, hi, hsl⟩ := hSl j hj
  have hts := hB.2.2.2.2.1
  have hst := (u_facts hfc hkC (u_lays hts (okW hci) hj) hi).1
  have hap : ∀ u v, u < eN ci → v < eN ci → u ≠ v → (xS x ci) u ≠ (xS x ci) v := by
    intro u v hu hv hne
    obtain ⟨_, _, _, fa, hia, ea⟩ := hSl u hu
    obtain ⟨_, _, _, fb, hib, eb⟩ := hSl v hv
    rw [← ea, ← eb]
    refine u_apart (u_lays hts (okW hci) hu) (u_lays hts (okW hci) hv) hia hib ?_
    rw [(State.fieldFound?_type hia (eTy_ok hci u hu)).1, (State.fieldFound?_type hib (eTy_ok hci v hv)).1]
    exact eNm hci u hu v hv hne
  have hlay := hts _ (okW hci _ (u_in_lay hj))
  have hnew : ∀ H' : Heap, H'[a]? = some (cell.setSlot (xS x ci j) v) → H'.size = H.size → (∀ q : Nat, q ≠ a → H'[q]? = H[q]?) → RP x h' H' := by
    intro H' g1 g2 g3
    refine hR.upd g2 g3 e1 e2 e3 e4 (fun c2 hc2 hk2 => ?_) (fun t ht hk2 => ?_)
    · have hcc : c2 = ci := by omega
      subst hcc
      refine t_OB.to (V := updV (fvE c2 h a) j v) ⟨_, g1, q2, q3, t_set q4 hap hj v⟩ (fun y _ => ?_)
      rw [e5 y]
      rfl
    · omega
  have hgo : ∀ H' : Heap, H'[a]? = some (cell.setSlot f.slot v) → H'.size = H.size → (∀ q : Nat, q ≠ a → H'[q]? = H[q]?) → W p x.1 e (rmE q) s m args below meth c H' (locs ++ [⟨a, f.slot⟩]) cells slots (vx_MQ below (QcE x post) (XcE x xp) args s q.2.2.2.2.2.2.2.1 q.2.2.2.2.2.2.2.2 (xA x)) (F0 m (pc + 3) ls r) := by
    intro H' g1 g2 g3
    rw [hsl] at g1
    exact hs p e s m args below meth c H' _ cells slots ls hB (hnew H' g1 g2 g3) (hS.put g2 g3 (hR.in hk)) hL h1 h2
  by_cases hfn : (eT ci j).2.2.2 = true
  · unfold u_lay at hlay
    rw [if_pos hfn] at hlay
    obtain ⟨hi1, hi2⟩ := hfin hfn
    have hcf : m.cls = cf := by
      obtain ⟨_, _, c', _, _, _, -, -, hf', -, -, -, hown2, -⟩ := Cond.laysFinal_spec hlay
      have e1 : c' = cf := by have := hi.symm.trans hf'; simp at this; exact this.1.symm
      rw [eDecl ci hci j hj hfn, ← hi2] at hown2
      rw [← e1]; exact Option.some.inj (hB.2.2.2.2.2.1.symm.trans hown2)
    have h6 := u_fits hfc hkC hkind (Or.inr hlay) hi (eTy_ok hci j hj) hn hfit
    exact W.putFinK hB.1 hB.2.1 hB.2.2.2.2.2.1 (hts _ hlk) hi hst hcf (by rw [hB.2.2.2.2.2.2.2.1]; exact hi1) (by rw [q2]; exact h6) q1 q3 (by rw [hsl]; exact k2_hasslot (q4 j hj)) rfl rfl hd hgo
  · unfold u_lay at hlay
    rw [if_neg hfn] at hlay
    have h6 := u_store hfc hkC hkind hlay hi (eTy_ok hci j hj) hn hfit
    exact W.putK hB.1 hB.2.1 (f := f) ⟨hB.2.2.2.2.2.1, hts _ hlk, ⟨_, _, _, hi⟩, hst⟩ (by rw [q2]; exact h6) q1 q3 (by rw [hsl]; exact k2_hasslot (q4 j hj)) rfl rfl hd hgo
theorem isRf_ref {t : FieldType} (h : isRf t = true) (u : Nat) : narrow t (.ref u) = .ref u ∧ fits t (.ref u) = true := by
  cases t <;> first | exact ⟨rfl, rfl⟩ | exact absurd h (by decide)
theorem M_putfield {k : Nat} (hd : decode q.2.1 pc = .ok (.putfield k, 3)) (hs : stepE x q o post xp (.putfield k) 3 pc b L st h (MW x q o post xp)) : MW x q o post xp pc b L st h := by
  cases hf : fT o k with
  | none => simp only [stepE, hf] at hs
  | some v =>
    obtain ⟨ci, j⟩ := v
    simp only [stepE, hf] at hs
    obtain ⟨v, r, rfl, hs⟩ := pop1_e hs
    obtain ⟨a, r, rfl, hk, hfin, hs⟩ := popR_e hs
    obtain ⟨hci, hj, hlk⟩ := fT_ok hf
    dsimp only at hci hj
    cases hr : eRef ci j with
    | true =>
      rw [hr] at hs
      obtain ⟨u, rfl, hu, hs⟩ := asR_e hs
      refine M_put (h' := sP h a j u) hd hf hk hfin (isRf_ref hr u).1 (isRf_ref hr u).2 rfl (fun _ => rfl) (fun _ => rfl) (fun b hb y => ⟨rfl, rfl, ?_⟩) (fun y => ?_) hs
      · show (if b = a ∧ y = j then u else _) = _
        rw [if_neg (fun z => hb z.1)]
        rfl
      · show (if eRef ci y = true then rv (if a = a ∧ y = j then u else _) else _) = _
        by_cases hy : y = j
        · subst hy
          rw [if_pos hr, if_pos ⟨rfl, rfl⟩, if_pos rfl, rv, if_neg hu]
        · have e : (if a = a ∧ y = j then u else h.2.2.2.2.1 a y) = h.2.2.2.2.1 a y := if_neg (fun z => hy z.2)
          rw [e, if_neg hy]
          rfl
    | false =>
      rw [hr] at hs
      obtain ⟨u, rfl, hu1, hu2, hs⟩ := asI_e hs
      have hu := And.intro hu1 hu2
      have hnf : narrow (eTy ci j) (.int u) = .int u ∧ fits (eTy ci j) (.int u) = true := by
        rcases eTy_int ci hci j hj hr with e | e | e
        · rw [e]
          exact ⟨rfl, rfl⟩
        · rw [e]
          rcases hu.1 e with rfl | rfl <;> exact ⟨rfl, rfl⟩
        · rw [e, hu.2 e]
          exact ⟨rfl, rfl⟩
      refine M_put (h' := sI h a j u) hd hf hk hfin hnf.1 hnf.2 rfl (fun _ => rfl) (fun _ => rfl) (fun b hb y => ⟨?_, rfl, rfl⟩) (fun y => ?_) hs
      · show (if b = a ∧ y = j then u else _) = _
        rw [if_neg (fun z => hb z.1)]
        rfl
      · show (if eRef ci y = true then _ else Value.int (if a = a ∧ y = j then u else _)) = _
        by_cases hy : y = j
        · subst hy
          rw [if_neg (by rw [hr]; decide), if_pos ⟨rfl, rfl⟩, if_pos rfl]
        · have e : (if a = a ∧ y = j then u else h.2.2.1 a y) = h.2.2.1 a y := if_neg (fun z => hy z.2)
          rw [e, if_neg hy]
          rfl
/-! arrays -/
theorem M_iaload (hd : decode q.2.1 pc = .ok (.iaload, 1)) (hs : stepE x q o post xp .iaload 1 pc b L st h (MW x q o post xp)) : MW x q o post xp pc b L st h := by
  intro p e s m args below meth c H locs cells slots ls hB hR hS hL h1 h2
  obtain ⟨j, r, rfl, hs⟩ := popI_e hs
  obtain ⟨a, r, rfl, hk, hv, hs⟩ := popR_e hs
  have hlt : j.toNatClampNeg < mL h a := Nat.not_le.mp fun z => hv (Or.inr z)
  exact W.iald (v := .int (mI h a j.toNatClampNeg)) hB.1 hB.2.1 (hR.arr (t := 0) (by decide) hk) ((hB.2.2.2.2.2.2.2.2.2.2.1 0 (by decide)).1 _ _) (fun z => by cases z) (by rw [arrV_size]; exact hv) (by rw [arrV_read _ _ hlt]; rfl) rfl rfl hd (hs p e s m args below meth c H locs cells slots ls hB hR hS hL h1 h2)
theorem M_baload (hd : decode q.2.1 pc = .ok (.baload, 1)) (hs : stepE x q o post xp .baload 1 pc b L st h (MW x q o post xp)) : MW x q o post xp pc b L st h := by
  intro p e s m args below meth c H locs cells slots ls hB hR hS hL h1 h2
  obtain ⟨j, r, rfl, hs⟩ := popI_e hs
  obtain ⟨a, r, rfl, hk, hv, hs⟩ := popR_e hs
  have hlt : j.toNatClampNeg < mL h a := Nat.not_le.mp fun z => hv (Or.inr z)
  exact W.bald (v := .int (mI h a j.toNatClampNeg)) hB.1 hB.2.1 (hR.arr (t := 1) (by decide) hk) ((hB.2.2.2.2.2.2.2.2.2.2.1 1 (by decide)).1 _ _) (fun z => by cases z) (by rw [arrV_size]; exact hv) (by rw [arrV_read _ _ hlt]; rfl) rfl rfl hd (hs p e s m args below meth c H locs cells slots ls hB hR hS hL h1 h2)
theorem M_laload (hd : decode q.2.1 pc = .ok (.laload, 1)) (hs : stepE x q o post xp .laload 1 pc b L st h (MW x q o post xp)) : MW x q o post xp pc b L st h := by
  intro p e s m args below meth c H locs cells slots ls hB hR hS hL h1 h2
  obtain ⟨j, r, rfl, hs⟩ := popI_e hs
  obtain ⟨a, r, rfl, hk, hv, hs⟩ := popR_e hs
  have hlt : j.toNatClampNeg < mL h a := Nat.not_le.mp fun z => hv (Or.inr z)
  exact W.lald (v := .long (mJ h a j.toNatClampNeg)) hB.1 hB.2.1 (hR.arr (t := 2) (by decide) hk) ((hB.2.2.2.2.2.2.2.2.2.2.1 2 (by decide)).1 _ _) (fun z => by cases z) (by rw [arrV_size]; exact hv) (by rw [arrV_read _ _ hlt]; rfl) rfl rfl hd (hs p e s m args below meth c H locs cells slots ls hB hR hS hL h1 h2)
theorem M_aaload (hd : decode q.2.1 pc = .ok (.aaload, 1)) (hs : stepE x q o post xp .aaload 1 pc b L st h (MW x q o post xp)) : MW x q o post xp pc b L st h := by
  intro p e s m args below meth c H locs cells slots ls hB hR hS hL h1 h2
  obtain ⟨j, r, rfl, hs⟩ := popI_e hs
  obtain ⟨a, r, rfl, hk, hv, hn, hs⟩ := popR_e hs
  have hlt : j.toNatClampNeg < mL h a := Nat.not_le.mp fun z => hv (Or.inr z)
  rcases hk with hk | hk
  · exact W.aald (v := .ref (mP h a j.toNatClampNeg)) (ty := .object "PetriNet$Net") hB.1 hB.2.1 (hR.arr (t := 3) (by decide) hk) ((hB.2.2.2.2.2.2.2.2.2.2.1 3 (by decide)).1 _ _) rfl (fun z => by cases z) (by rw [arrV_size]; exact hv) (by rw [arrV_read _ _ hlt]; exact congrArg some (if_neg hn)) rfl rfl hd (hs p e s m args below meth c H locs cells slots ls hB hR hS hL h1 h2)
  · exact W.aald (v := .ref (mP h a j.toNatClampNeg)) (ty := .array .int) hB.1 hB.2.1 (hR.arr (t := 4) (by decide) hk) ((hB.2.2.2.2.2.2.2.2.2.2.1 4 (by decide)).1 _ _) rfl (fun z => by cases z) (by rw [arrV_size]; exact hv) (by rw [arrV_read _ _ hlt]; exact congrArg some (if_neg hn)) rfl rfl hd (hs p e s m args below meth c H locs cells slots ls hB hR hS hL h1 h2)
theorem M_iastore (hd : decode q.2.1 pc = .ok (.iastore, 1)) (hs : stepE x q o post xp .iastore 1 pc b L st h (MW x q o post xp)) : MW x q o post xp pc b L st h := by
  intro p e s m args below meth c H locs cells slots ls hB hR hS hL h1 h2
  obtain ⟨v, r, rfl, hs⟩ := popI_e hs
  obtain ⟨j, r, rfl, hs⟩ := popI_e hs
  obtain ⟨a, r, rfl, hk, hv, hs⟩ := popR_e hs
  refine W.iast hB.1 hB.2.1 (hR.arr (t := 0) (by decide) hk) ((hB.2.2.2.2.2.2.2.2.2.2.1 0 (by decide)).1 _ _) (fun z => by cases z) (by rw [arrV_size]; exact hv) rfl rfl hd fun H' g1 g2 g3 => ?_
  refine hs p e s m args below meth c H' _ cells slots ls hB (hR.upd g2 g3 rfl (fun _ => rfl) (fun _ => rfl) (fun b hb y => ⟨?_, rfl, rfl⟩) (fun c2 hc2 hk2 => by omega) (fun t ht hk2 => ?_)) (hS.put g2 g3 (hR.in (k := 10) hk)) hL h1 h2
  · show (if b = a ∧ y = _ then v else _) = _
    rw [if_neg (fun z => hb z.1)]
    rfl
  · have : t = 0 := by omega
    subst this
    rw [g1, arrV_store]
    refine congrArg some (arrV_cong fun y => ?_)
    show (if y = _ then _ else _) = Value.int (if a = a ∧ y = _ then v else _)
    by_cases hy : y = j.toNatClampNeg
    · rw [if_pos hy, if_pos ⟨rfl, hy⟩]
    · rw [if_neg hy, if_neg (fun z => hy z.2)]
      rfl
theorem M_bastore (hd : decode q.2.1 pc = .ok (.bastore, 1)) (hs : stepE x q o post xp .bastore 1 pc b L st h (MW x q o post xp)) : MW x q o post xp pc b L st h := by
  intro p e s m args below meth c H locs cells slots ls hB hR hS hL h1 h2
  obtain ⟨v, r, rfl, hs⟩ := popI_e hs
  obtain ⟨j, r, rfl, hs⟩ := popI_e hs
  obtain ⟨a, r, rfl, hk, hv, hs⟩ := popR_e hs
  refine W.bast hB.1 hB.2.1 (hR.arr (t := 1) (by decide) hk) ((hB.2.2.2.2.2.2.2.2.2.2.1 1 (by decide)).1 _ _) (fun z => by cases z) (by rw [arrV_size]; exact hv) rfl rfl hd fun H' g1 g2 g3 => ?_
  refine hs p e s m args below meth c H' _ cells slots ls hB (hR.upd g2 g3 rfl (fun _ => rfl) (fun _ => rfl) (fun b hb y => ⟨?_, rfl, rfl⟩) (fun c2 hc2 hk2 => by omega) (fun t ht hk2 => ?_)) (hS.put g2 g3 (hR.in (k := 11) hk)) hL h1 h2
  · show (if b = a ∧ y = _ then _ else _) = _
    rw [if_neg (fun z => hb z.1)]
    rfl
  · have : t = 1 := by omega
    subst this
    rw [g1, arrV_store]
    refine congrArg some (arrV_cong fun y => ?_)
    show (if y = _ then _ else _) = Value.int (if a = a ∧ y = _ then vp_nar .byte v else _)
    by_cases hy : y = j.toNatClampNeg
    · rw [if_pos hy, if_pos ⟨rfl, hy⟩]
      rfl
    · rw [if_neg hy, if_neg (fun z => hy z.2)]
      rfl
theorem M_lastore (hd : decode q.2.1 pc = .ok (.lastore, 1)) (hs : stepE x q o post xp .lastore 1 pc b L st h (MW x q o post xp)) : MW x q o post xp pc b L st h := by
  intro p e s m args below meth c H locs cells slots ls hB hR hS hL h1 h2
  obtain ⟨v, r, rfl, hs⟩ := popJ_e hs
  obtain ⟨j, r, rfl, hs⟩ := popI_e hs
  obtain ⟨a, r, rfl, hk, hv, hs⟩ := popR_e hs
  refine W.last hB.1 hB.2.1 (hR.arr (t := 2) (by decide) hk) ((hB.2.2.2.2.2.2.2.2.2.2.1 2 (by decide)).1 _ _) (fun z => by cases z) (by rw [arrV_size]; exact hv) rfl rfl hd fun H' g1 g2 g3 => ?_
  refine hs p e s m args below meth c H' _ cells slots ls hB (hR.upd g2 g3 rfl (fun _ => rfl) (fun _ => rfl) (fun b hb y => ⟨rfl, ?_, rfl⟩) (fun c2 hc2 hk2 => by omega) (fun t ht hk2 => ?_)) (hS.put g2 g3 (hR.in (k := 12) hk)) hL h1 h2
  · show (if b = a ∧ y = _ then _ else _) = _
    rw [if_neg (fun z => hb z.1)]
    rfl
  · have : t = 2 := by omega
    subst this
    rw [g1, arrV_store]
    refine congrArg some (arrV_cong fun y => ?_)
    show (if y = _ then _ else _) = Value.long (if a = a ∧ y = _ then v else _)
    by_cases hy : y = j.toNatClampNeg
    · rw [if_pos hy, if_pos ⟨rfl, hy⟩]
    · rw [if_neg hy, if_neg (fun z => hy z.2)]
      rfl
theorem M_aastore (hd : decode q.2.1 pc = .ok (.aastore, 1)) (hs : stepE x q o post xp .aastore 1 pc b L st h (MW x q o post xp)) : MW x q o post xp pc b L st h := by
  intro p e s m args below meth c H locs cells slots ls hB hR hS hL h1 h2
  obtain ⟨v, r, rfl, hs⟩ := popR_e hs
  obtain ⟨j, r, rfl, hs⟩ := popI_e hs
  obtain ⟨a, r, rfl, hk, hv, hn, hs⟩ := popR_e hs
  have hlt : j.toNatClampNeg < mL h a := Nat.not_le.mp fun z => hv (Or.inr z)
  have h0 : ¬ j < 0 := fun z => hv (Or.inl z)
  have hG := hB.2.2.2.2.2.2.2.2.2
  have key : ∀ (t0 : Nat), t0 < 5 → mK h a = t0 + 11 → 3 ≤ t0 → ∀ H' : Heap, H'[a]? = some ((arrV (xT x t0) (mL h a) (avE t0 h a)).setSlot j.toNatClampNeg (.ref v)) → H'.size = H.size → (∀ q, q ≠ a → H'[q]? = H[q]?) → W p x.1 e (rmE q) s m args below meth c H' (locs ++ [⟨a, j.toNatClampNeg⟩]) cells slots (vx_MQ below (QcE x post) (XcE x xp) args s q.2.2.2.2.2.2.2.1 q.2.2.2.2.2.2.2.2 (xA x)) (F0 m (pc + 1) ls r) := by
    intro t0 ht0 hk0 h3 H' g1 g2 g3
    refine hs p e s m args below meth c H' _ cells slots ls hB (hR.upd g2 g3 rfl (fun _ => rfl) (fun _ => rfl) (fun b hb y => ⟨rfl, rfl, ?_⟩) (fun c2 hc2 hk2 => by omega) (fun t ht hk2 => ?_)) (hS.put g2 g3 (hR.in (k := t0 + 10) (by omega))) hL h1 h2
    · show (if b = a ∧ y = _ then _ else _) = _
      rw [if_neg (fun z => hb z.1)]
      rfl
    · have : t = t0 := by omega
      subst this
      rw [g1, arrV_store]
      refine congrArg some (arrV_cong fun y => ?_)
      match t, h3 with
      | u + 3, _ =>
        show (if y = _ then _ else rv (mP h a y)) = rv (if a = a ∧ y = _ then v else _)
        by_cases hy : y = j.toNatClampNeg
        · rw [if_pos hy, if_pos ⟨rfl, hy⟩, rv, if_neg hn]
        · rw [if_neg hy, if_neg (fun z => hy z.2)]
          rfl
  rcases hk with ⟨hk, hkv⟩ | ⟨hk, hkv⟩
  · obtain ⟨cellV, g1, g2, g3, -⟩ := hR.obj (c := 2) (by decide) hkv
    have hcls := (hG.1 2 (by decide)).2
    obtain ⟨kA, comp, k1, k2, k3, -⟩ := (hG.2.1 3 (by decide)).2
    have hcomp : comp = xC x 2 := Option.some.inj (k3.symm.trans hcls.1)
    subst hcomp
    obtain ⟨kC, hkC, -⟩ := hcls.2
    exact W.aast hB.1 hB.2.1 (hR.arr (t := 3) (by decide) hk) (fun q h => by cases h) (fun h => by cases h) k1 k2 rfl hkC ⟨h0, by rw [arrV_size]; exact hlt⟩ g1 (fun q h => by rw [g3] at h; cases h) (by rw [g2]; exact hkC) (by rw [g2]; exact va_assign hcls) rfl rfl hd (key 3 (by decide) hk (by decide))
  · have g1 := hR.arr (t := 0) (by decide) hkv
    obtain ⟨kA, k1, k2⟩ := hG.2.2.2.2.2.2.2.2.1
    obtain ⟨kE, hkE, -⟩ := Vm.findClass_spec (show s.vm.findClass ("[" ++ (FieldType.int).toString) = some (xT x 0) from (hG.2.1 0 (by decide)).2)
    exact W.aast hB.1 hB.2.1 (hR.arr (t := 4) (by decide) hk) (fun q h => by cases h) (fun h => by cases h) k1 k2 rfl hkE ⟨h0, by rw [arrV_size]; exact hlt⟩ g1 (fun q h => by cases h) hkE (va_asg _ _) rfl rfl hd (key 4 (by decide) hk (by decide))
end SNH

