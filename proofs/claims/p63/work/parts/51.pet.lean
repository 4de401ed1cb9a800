section PET
variable {x : CX}
/-- every address of a range is as it was -/
def EQr (h h' : MH) (lo hi : Nat) : Prop := ∀ a, lo ≤ a → a < hi → EQa h h' a
/-- outside a range all is as it was; the heap may have grown -/
def FZ (h h' : MH) (lo hi : Nat) : Prop := mZ h ≤ mZ h' ∧ ∀ a, a < lo ∨ hi ≤ a → EQa h h' a
theorem FZ_r {h h' : MH} {lo hi : Nat} (hF : FRr h h' lo hi) : FZ h h' lo hi := ⟨Nat.le_of_eq hF.1.symm, fun _ ha => EQ_fr hF ha⟩
theorem FZ_rfl {h : MH} {lo hi : Nat} : FZ h h lo hi := ⟨Nat.le_refl _, fun _ _ => EQ_rfl⟩
theorem FZ_tr {h h' h'' : MH} {lo hi : Nat} (a : FZ h h' lo hi) (b : FZ h' h'' lo hi) : FZ h h'' lo hi := ⟨Nat.le_trans a.1 b.1, fun z hz => EQ_tr (a.2 z hz) (b.2 z hz)⟩
theorem FZ_mono {h h' : MH} {lo hi lo' hi' : Nat} (a : FZ h h' lo hi) (h1 : lo' ≤ lo) (h2 : hi ≤ hi') : FZ h h' lo' hi' := ⟨a.1, fun z hz => a.2 z (by omega)⟩
theorem FZ_rm {h h' : MH} {lo hi lo' hi' : Nat} (a : FRr h h' lo hi) (h1 : lo' ≤ lo) (h2 : hi ≤ hi') : FZ h h' lo' hi' := FZ_mono (FZ_r a) h1 h2
theorem EQ_sZ {h : MH} {z a : Nat} : EQa h (sZ h z) a := ⟨rfl, rfl, fun _ => ⟨rfl, rfl, rfl⟩⟩
theorem FZ_sZ {h : MH} {z lo hi : Nat} (hz : mZ h ≤ z) : FZ h (sZ h z) lo hi := ⟨hz, fun _ _ => EQ_sZ⟩
theorem HSn_ea {h h' : MH} {i cnt nxt : Nat} {P : Nat → Nat → Int32} (hH : HSn h i P cnt nxt) (hE : EQr h h' i (i + 72)) : HSn h' i P cnt nxt := by
  obtain ⟨a1, a2, a3, a4, a5, a6, a7, a8, a9, a10⟩ := hH
  have p : ∀ a k, i ≤ a → a < i + 72 → mP h' a k = mP h a k := fun a k g1 g2 => ((hE a g1 g2).2.2 k).2.1
  have q : ∀ a k, i ≤ a → a < i + 72 → mI h' a k = mI h a k := fun a k g1 g2 => ((hE a g1 g2).2.2 k).1
  refine ⟨(hE i (by omega) (by omega)).1.trans a1, (p _ _ (by omega) (by omega)).trans a2, (q _ _ (by omega) (by omega)).trans a3, a4, (q _ _ (by omega) (by omega)).trans a5, a6, (hE (i + 1) (by omega) (by omega)).1.trans a7, (hE (i + 1) (by omega) (by omega)).2.1.trans a8, fun j hj => ⟨(p _ _ (by omega) (by omega)).trans (a9 j hj).1, ?_⟩, fun m hm => NW_ea (a10 m hm) fun a g1 g2 => hE a (by omega) (by omega)⟩
  obtain ⟨w, hw⟩ := (a9 j hj).2
  exact ⟨w, NW_ea hw fun a g1 g2 => hE a (by omega) (by omega)⟩
theorem HS_ea {h h' : MH} {i cnt : Nat} {P : Nat → Nat → Int32} (hH : HS h i P cnt) (hE : EQr h h' i (i + 72)) : HS h' i P cnt :=
  let ⟨n, g⟩ := hH; ⟨n, HSn_ea g hE⟩
theorem XS_ea {h h' : MH} {i : Nat} (hS : XS h i) (hE : EQr h h' i (i + 14)) : XS h' i := by
  obtain ⟨s0, s1, s2, s3, s4, s5, s6, s7, k1, l1, k2, l2, k3, l3, k4, l4, k5, l5, k6, l6⟩ := hS
  have e : ∀ j, j < 14 → EQa h h' (i + j) := fun j hj => hE (i + j) (by omega) (by omega)
  have p : ∀ k, mP h' i k = mP h i k := fun k => ((e 0 (by decide)).2.2 k).2.1
  refine ⟨(e 0 (by decide)).1.trans s0, (p _).trans s1, (p _).trans s2, (p _).trans s3, (p _).trans s4, (p _).trans s5, (p _).trans s6, (p _).trans s7, (e 1 (by decide)).1.trans k1, (e 1 (by decide)).2.1.trans l1, (e 2 (by decide)).1.trans k2, (e 2 (by decide)).2.1.trans l2, (e 3 (by decide)).1.trans k3, (e 3 (by decide)).2.1.trans l3, (e 4 (by decide)).1.trans k4, (e 4 (by decide)).2.1.trans l4, (e 5 (by decide)).1.trans k5, (e 5 (by decide)).2.1.trans l5, (e 6 (by decide)).1.trans k6, (e 6 (by decide)).2.1.trans l6⟩
theorem XA_ea {h h' : MH} {i np nt : Nat} {E : EE} {w : Nat → Int32} (hA : XA h i E w np nt) (hE : EQr h h' i (i + 14)) : XA h' i E w np nt := by
  obtain ⟨hS, ⟨v0, v1, v2, v3⟩, ⟨hB, ⟨u, hN, hu⟩, hc⟩, hT⟩ := hA
  have e : ∀ j, j < 14 → EQa h h' (i + j) := fun j hj => hE (i + j) (by omega) (by omega)
  refine ⟨XS_ea hS hE, ⟨v0, ((e 0 (by decide)).2.2 7).1.trans v1, ((e 0 (by decide)).2.2 8).1.trans v2, fun n hn => ?_⟩, ⟨hB, ⟨u, NW_ea hN fun a g1 g2 => hE a (by omega) (by omega), hu⟩, fun t ht => ((e 5 (by decide)).2.2 t).2.2.trans (hc t ht)⟩, ?_⟩
  · obtain ⟨y1, y2, y3, y4⟩ := v3 n hn
    exact ⟨((e 1 (by decide)).2.2 n).2.2.trans y1, ((e 2 (by decide)).2.2 n).1.trans y2, ((e 3 (by decide)).2.2 n).1.trans y3, ((e 4 (by decide)).2.2 n).1.trans y4⟩
  · rw [show mI h' (i + 6) = mI h (i + 6) from funext fun k => ((e 6 (by decide)).2.2 k).1]
    exact hT
theorem SXs_ea {h h' : MH} {i n : Nat} {U : Nat → Int32} (hX : SXs h i U n) (hE : EQr h h' i (i + 2)) : SXs h' i U n := by
  obtain ⟨a1, a2, a3, a4, a5, a6, a7, a8⟩ := hX
  have e0 := hE i (by omega) (by omega)
  have e1 := hE (i + 1) (by omega) (by omega)
  exact ⟨e0.1.trans a1, (e0.2.2 0).2.1.trans a2, e1.1.trans a3, e1.2.1.trans a4, (e0.2.2 1).1.trans a5, a6, (e0.2.2 2).2.1.trans a7, fun k hk => (e1.2.2 k).1.trans (a8 k hk)⟩
theorem NW_er {h h' : MH} {i lo hi : Nat} {w : Nat → Int32} (hN : NW h i w) (hE : EQr h h' lo hi) (h1 : lo ≤ i) (h2 : i + 7 ≤ hi) : NW h' i w := NW_ea hN fun a g1 g2 => hE a (by omega) (by omega)
theorem NX_er {h h' : MH} {i lo hi : Nat} (hN : ∃ u, NW h i u) (hE : EQr h h' lo hi) (h1 : lo ≤ i) (h2 : i + 7 ≤ hi) : ∃ u, NW h' i u :=
  let ⟨u, g⟩ := hN; ⟨u, NW_er g hE h1 h2⟩
theorem EQr_mono {h h' : MH} {lo hi lo' hi' : Nat} (a : EQr h h' lo hi) (h1 : lo ≤ lo') (h2 : hi' ≤ hi) : EQr h h' lo' hi' := fun z g1 g2 => a z (by omega) (by omega)
theorem EQr_fr {h h' : MH} {lo hi lo' hi' : Nat} (hF : FRr h h' lo hi) (hd : hi' ≤ lo ∨ hi ≤ lo') : EQr h h' lo' hi' := fun z g1 g2 => EQ_fr hF (by omega)
theorem EQr_fz {h h' : MH} {lo hi lo' hi' : Nat} (hF : FZ h h' lo hi) (hd : hi' ≤ lo ∨ hi ≤ lo') : EQr h h' lo' hi' := fun z g1 g2 => hF.2 z (by omega)
theorem EQr_sI {h : MH} {a k lo hi : Nat} {v : Int32} (g : a < lo ∨ hi ≤ a) : EQr h (sI h a k v) lo hi := fun z g1 g2 => EQ_sI (by omega)
/-- the object's own fields that stay -/
def PF (h : MH) (i : Nat) : Prop := mK h i = 5 ∧ mP h i 0 = i + 1 ∧ mP h i 1 = i + 8 ∧ mP h i 2 = i + 15 ∧ mP h i 4 = i + 22 ∧ mP h i 5 = i + 94 ∧ mP h i 6 = i + 103 ∧ mP h i 8 = i + 117 ∧ mP h i 9 = i + 118
def PS (h : MH) (i : Nat) (s : AS) : Prop := SXs h (i + 94) (aU s) (aN s) ∧ (∃ u, NW h (i + 96) u) ∧ mI h (i + 94) 3 = aK s ∧ mI h (i + 94) 4 = aO s
def PX (h : MH) (i : Nat) (s : AS) : Prop := XS h (i + 103) ∧ (∃ u, NW h (i + 110) u) ∧ (mI h i 7 = nI 0 ∨ mI h i 7 = nI 1 ∧ ∃ np nt, XA h (i + 103) (expE (aW s) np nt) (aW s) np nt)
def PD (h : MH) (i : Nat) : Prop := mK h (i + 117) = 11 ∧ mL h (i + 117) = 10
def PR (h : MH) (i : Nat) (s : AS) : Prop := mK h (i + 118) = 12 ∧ mL h (i + 118) = 64 ∧ mI h i 10 = nI (aM s) ∧ aM s ≤ 64 ∧ ∀ k, k < aM s → mI h (i + 118) k = aR s k
/-- the class's object holds s -/
def PO (h : MH) (i : Nat) (s : AS) : Prop := PF h i ∧ NW h (i + 1) (aW s) ∧ (∃ u, NW h (i + 8) u) ∧ NW h (i + 15) (aS s) ∧ mI h i 3 = bI (aH s) ∧ HS h (i + 22) (aP s) (aC s) ∧ PS h i s ∧ PX h i s ∧ PD h i ∧ PR h i s
theorem PF_ea {h h' : MH} {i : Nat} (hP : PF h i) (hE : EQa h h' i) : PF h' i := by
  obtain ⟨a0, a1, a2, a3, a4, a5, a6, a7, a8⟩ := hP
  have p : ∀ k, mP h' i k = mP h i k := fun k => (hE.2.2 k).2.1
  exact ⟨hE.1.trans a0, (p _).trans a1, (p _).trans a2, (p _).trans a3, (p _).trans a4, (p _).trans a5, (p _).trans a6, (p _).trans a7, (p _).trans a8⟩
theorem PS_ea {h h' : MH} {i : Nat} {s : AS} (hP : PS h i s) (hE : EQr h h' (i + 94) (i + 103)) : PS h' i s :=
  ⟨SXs_ea hP.1 (EQr_mono hE (Nat.le_refl _) (by omega)), NX_er hP.2.1 hE (by omega) (by omega), ((hE (i + 94) (by omega) (by omega)).2.2 3).1.trans hP.2.2.1, ((hE (i + 94) (by omega) (by omega)).2.2 4).1.trans hP.2.2.2⟩
theorem PX_ea {h h' : MH} {i : Nat} {s : AS} (hP : PX h i s) (h7 : mI h' i 7 = mI h i 7) (hE : EQr h h' (i + 103) (i + 117)) : PX h' i s :=
  ⟨XS_ea hP.1 hE, NX_er hP.2.1 hE (by omega) (by omega), hP.2.2.imp (fun z => h7.trans z) fun ⟨z, np, nt, g⟩ => ⟨h7.trans z, np, nt, XA_ea g hE⟩⟩
theorem PD_ea {h h' : MH} {i : Nat} (hP : PD h i) (hE : EQa h h' (i + 117)) : PD h' i := ⟨hE.1.trans hP.1, hE.2.1.trans hP.2⟩
theorem PR_ea {h h' : MH} {i : Nat} {s : AS} (hP : PR h i s) (h10 : mI h' i 10 = mI h i 10) (hE : EQa h h' (i + 118)) : PR h' i s :=
  ⟨hE.1.trans hP.1, hE.2.1.trans hP.2.1, h10.trans hP.2.2.1, hP.2.2.2.1, fun k hk => (hE.2.2 k).1.trans (hP.2.2.2.2 k hk)⟩
theorem PO_ea {h h' : MH} {i : Nat} {s : AS} (hP : PO h i s) (hE : EQr h h' i (i + 119)) : PO h' i s := by
  obtain ⟨pf, pn, pt, ps, ph, pH, pS, pX, pD, pR⟩ := hP
  have ei := hE i (by omega) (by omega)
  exact ⟨PF_ea pf ei, NW_er pn hE (by omega) (by omega), NX_er pt hE (by omega) (by omega), NW_er ps hE (by omega) (by omega), (ei.2.2 3).1.trans ph, HS_ea pH (EQr_mono hE (by omega) (by omega)), PS_ea pS (EQr_mono hE (by omega) (by omega)), PX_ea pX (ei.2.2 7).1 (EQr_mono hE (by omega) (by omega)), PD_ea pD (hE _ (by omega) (by omega)), PR_ea pR (ei.2.2 10).1 (hE _ (by omega) (by omega))⟩
theorem PO_sZ {h : MH} {i z : Nat} {s : AS} (hP : PO h i s) : PO (sZ h z) i s := PO_ea hP fun _ _ _ => EQ_sZ
/-- the net changes, with no exploration kept -/
theorem PO_net {h h' : MH} {i : Nat} {s : AS} {w : Nat → Int32} (hP : PO h i s) (h7 : mI h i 7 = nI 0) (hF : FRr h h' (i + 1) (i + 8)) (hN : NW h' (i + 1) w) : PO h' i (wW s w) := by
  obtain ⟨pf, pn, pt, ps, ph, pH, pS, pX, pD, pR⟩ := hP
  have ei : EQa h h' i := EQ_fr hF (by omega)
  have hE : EQr h h' (i + 8) (i + 119) := EQr_fr hF (by omega)
  exact ⟨PF_ea pf ei, hN, NX_er pt hE (by omega) (by omega), NW_er ps hE (by omega) (by omega), (ei.2.2 3).1.trans ph, HS_ea pH (EQr_mono hE (by omega) (by omega)), PS_ea pS (EQr_mono hE (by omega) (by omega)), ⟨XS_ea pX.1 (EQr_mono hE (by omega) (by omega)), NX_er pX.2.1 hE (by omega) (by omega), Or.inl ((ei.2.2 7).1.trans h7)⟩, PD_ea pD (hE _ (by omega) (by omega)), PR_ea pR (ei.2.2 10).1 (hE _ (by omega) (by omega))⟩
theorem PO_trial {h h' : MH} {i : Nat} {s : AS} {w : Nat → Int32} (hP : PO h i s) (hF : FRr h h' (i + 8) (i + 15)) (hN : NW h' (i + 8) w) : PO h' i s := by
  obtain ⟨pf, pn, pt, ps, ph, pH, pS, pX, pD, pR⟩ := hP
  have ei : EQa h h' i := EQ_fr hF (by omega)
  have hE : EQr h h' (i + 15) (i + 119) := EQr_fr hF (by omega)
  exact ⟨PF_ea pf ei, NW_fr pn hF (by omega), ⟨w, hN⟩, NW_er ps hE (by omega) (by omega), (ei.2.2 3).1.trans ph, HS_ea pH (EQr_mono hE (by omega) (by omega)), PS_ea pS (EQr_mono hE (by omega) (by omega)), PX_ea pX (ei.2.2 7).1 (EQr_mono hE (by omega) (by omega)), PD_ea pD (hE _ (by omega) (by omega)), PR_ea pR (ei.2.2 10).1 (hE _ (by omega) (by omega))⟩
theorem PO_snap {h h' : MH} {i : Nat} {s : AS} {w : Nat → Int32} (hP : PO h i s) (hF : FRr h h' (i + 15) (i + 22)) (hN : NW h' (i + 15) w) : PO h' i (aW s, aP s, aC s, w, s.2.2.2.2) := by
  obtain ⟨pf, pn, pt, ps, ph, pH, pS, pX, pD, pR⟩ := hP
  have ei : EQa h h' i := EQ_fr hF (by omega)
  have hE : EQr h h' (i + 22) (i + 119) := EQr_fr hF (by omega)
  exact ⟨PF_ea pf ei, NW_fr pn hF (by omega), let ⟨u, g⟩ := pt; ⟨u, NW_fr g hF (by omega)⟩, hN, (ei.2.2 3).1.trans ph, HS_ea pH (EQr_mono hE (by omega) (by omega)), PS_ea pS (EQr_mono hE (by omega) (by omega)), PX_ea pX (ei.2.2 7).1 (EQr_mono hE (by omega) (by omega)), PD_ea pD (hE _ (by omega) (by omega)), PR_ea pR (ei.2.2 10).1 (hE _ (by omega) (by omega))⟩
theorem PO_his {h h' : MH} {i c : Nat} {s : AS} {P : Nat → Nat → Int32} (hP : PO h i s) (hF : FRr h h' (i + 22) (i + 94)) (hN : HS h' (i + 22) P c) : PO h' i (aW s, P, c, s.2.2.2) := by
  obtain ⟨pf, pn, pt, ps, ph, pH, pS, pX, pD, pR⟩ := hP
  have ei : EQa h h' i := EQ_fr hF (by omega)
  have hE : EQr h h' (i + 94) (i + 119) := EQr_fr hF (by omega)
  exact ⟨PF_ea pf ei, NW_fr pn hF (by omega), let ⟨u, g⟩ := pt; ⟨u, NW_fr g hF (by omega)⟩, NW_fr ps hF (by omega), (ei.2.2 3).1.trans ph, hN, PS_ea pS (EQr_mono hE (by omega) (by omega)), PX_ea pX (ei.2.2 7).1 (EQr_mono hE (by omega) (by omega)), PD_ea pD (hE _ (by omega) (by omega)), PR_ea pR (ei.2.2 10).1 (hE _ (by omega) (by omega))⟩
theorem PO_scr {h h' : MH} {i n : Nat} {s : AS} {U : Nat → Int32} {ek eo : Int32} (hP : PO h i s) (hF : FRr h h' (i + 94) (i + 103)) (hX : SXs h' (i + 94) U n) (hU : ∃ u, NW h' (i + 96) u) (h3 : mI h' (i + 94) 3 = ek) (h4 : mI h' (i + 94) 4 = eo) : PO h' i (aW s, aP s, aC s, aS s, aH s, U, n, ek, eo, aR s, aM s) := by
  obtain ⟨pf, pn, pt, ps, ph, pH, pS, pX, pD, pR⟩ := hP
  have ei : EQa h h' i := EQ_fr hF (by omega)
  have hE : EQr h h' (i + 103) (i + 119) := EQr_fr hF (by omega)
  exact ⟨PF_ea pf ei, NW_fr pn hF (by omega), let ⟨u, g⟩ := pt; ⟨u, NW_fr g hF (by omega)⟩, NW_fr ps hF (by omega), (ei.2.2 3).1.trans ph, HS_ea pH (EQr_fr hF (by omega)), ⟨hX, hU, h3, h4⟩, PX_ea pX (ei.2.2 7).1 (EQr_mono hE (by omega) (by omega)), PD_ea pD (hE _ (by omega) (by omega)), PR_ea pR (ei.2.2 10).1 (hE _ (by omega) (by omega))⟩
theorem PO_exp {h h' : MH} {i np nt : Nat} {s : AS} (hP : PO h i s) (hF : FRr h h' (i + 103) (i + 117)) (hA : XA h' (i + 103) (expE (aW s) np nt) (aW s) np nt) : PO h' i s := by
  obtain ⟨pf, pn, pt, ps, ph, pH, pS, pX, pD, pR⟩ := hP
  have ei : EQa h h' i := EQ_fr hF (by omega)
  have hE : EQr h h' (i + 117) (i + 119) := EQr_fr hF (by omega)
  exact ⟨PF_ea pf ei, NW_fr pn hF (by omega), let ⟨u, g⟩ := pt; ⟨u, NW_fr g hF (by omega)⟩, NW_fr ps hF (by omega), (ei.2.2 3).1.trans ph, HS_ea pH (EQr_fr hF (by omega)), PS_ea pS (EQr_fr hF (by omega)), ⟨hA.1, let ⟨u, g, _⟩ := hA.2.2.1.2.1; ⟨u, g⟩, pX.2.2.imp (fun z => (ei.2.2 7).1.trans z) fun ⟨z, _⟩ => ⟨(ei.2.2 7).1.trans z, np, nt, hA⟩⟩, PD_ea pD (hE _ (by omega) (by omega)), PR_ea pR (ei.2.2 10).1 (hE _ (by omega) (by omega))⟩
theorem PO_dig {h h' : MH} {i : Nat} {s : AS} (hP : PO h i s) (hF : FRr h h' (i + 117) (i + 118)) : PO h' i s := by
  obtain ⟨pf, pn, pt, ps, ph, pH, pS, pX, pD, pR⟩ := hP
  have ei : EQa h h' i := EQ_fr hF (by omega)
  exact ⟨PF_ea pf ei, NW_fr pn hF (by omega), let ⟨u, g⟩ := pt; ⟨u, NW_fr g hF (by omega)⟩, NW_fr ps hF (by omega), (ei.2.2 3).1.trans ph, HS_ea pH (EQr_fr hF (by omega)), PS_ea pS (EQr_fr hF (by omega)), PX_ea pX (ei.2.2 7).1 (EQr_fr hF (by omega)), ⟨(hF.2.1 _).trans pD.1, (hF.2.2.1 _).trans pD.2⟩, PR_ea pR (ei.2.2 10).1 (EQ_fr hF (by omega))⟩
theorem PO_f {h h' : MH} {i : Nat} {s s' : AS} (hP : PO h i s) (hE : EQr h h' (i + 1) (i + 118)) (hf : PF h' i) (h3 : mI h' i 3 = bI (aH s')) (e1 : aW s' = aW s) (e2 : aS s' = aS s) (e3 : aP s' = aP s) (e4 : aC s' = aC s) (e5 : aU s' = aU s) (e6 : aN s' = aN s) (e7 : aK s' = aK s) (e8 : aO s' = aO s) (h7 : mI h' i 7 = nI 0 ∨ mI h' i 7 = mI h i 7) (hR : PR h' i s') : PO h' i s' := by
  obtain ⟨pf, pn, pt, ps, ph, pH, pS, pX, pD, pR⟩ := hP
  refine ⟨hf, ?_, NX_er pt hE (by omega) (by omega), ?_, h3, ?_, ?_, ⟨XS_ea pX.1 (EQr_mono hE (by omega) (by omega)), NX_er pX.2.1 hE (by omega) (by omega), ?_⟩, PD_ea pD (hE _ (by omega) (by omega)), hR⟩
  · rw [e1]; exact NW_er pn hE (by omega) (by omega)
  · rw [e2]; exact NW_er ps hE (by omega) (by omega)
  · rw [e3, e4]; exact HS_ea pH (EQr_mono hE (by omega) (by omega))
  · have := PS_ea pS (EQr_mono hE (lo' := i + 94) (hi' := i + 103) (by omega) (by omega))
    unfold PS at *
    rw [e5, e6, e7, e8]; exact this
  · rw [e1]
    rcases h7 with g | g
    · exact Or.inl g
    · exact pX.2.2.imp (fun z => g.trans z) fun ⟨z, np, nt, q⟩ => ⟨g.trans z, np, nt, XA_ea q (EQr_mono hE (by omega) (by omega))⟩
/-- the exploration isn't kept -/
theorem PO_f7 {h : MH} {i : Nat} {s : AS} (hP : PO h i s) : PO (sI h i 7 (nI 0)) i s :=
  PO_f (s' := s) hP (EQr_sI (by omega)) hP.1 ((sI_Ik (by decide)).trans hP.2.2.2.2.1) rfl rfl rfl rfl rfl rfl rfl rfl (Or.inl sI_Ie) (by
    obtain ⟨r0, r1, r2, r3, r4⟩ := hP.2.2.2.2.2.2.2.2.2
    exact ⟨r0, r1, (sI_Ik (by decide)).trans r2, r3, fun k hk => (sI_Ia (by omega)).trans (r4 k hk)⟩)
end PET
