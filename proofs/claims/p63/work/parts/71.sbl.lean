section SBL
variable {x : CX}
/-! builders with texts as lists -/
def Tx (l : List Nat) : Nat → Int32 := fun k => nI (l.getD k 32)
def C128 (l : List Nat) : Prop := ∀ j, l.getD j 32 < 128
theorem gD_l {l1 l2 : List Nat} {k : Nat} (h : k < l1.length) : (l1 ++ l2).getD k 32 = l1.getD k 32 := by
  rw [List.getD_eq_getElem?_getD, List.getD_eq_getElem?_getD, List.getElem?_append_left h]
theorem gD_r {l1 l2 : List Nat} {k : Nat} (h : l1.length ≤ k) : (l1 ++ l2).getD k 32 = l2.getD (k - l1.length) 32 := by
  rw [List.getD_eq_getElem?_getD, List.getD_eq_getElem?_getD, List.getElem?_append_right h]
theorem gD_e {l : List Nat} {k : Nat} (h : l.length ≤ k) : l.getD k 32 = 32 := by
  rw [List.getD_eq_getElem?_getD, List.getElem?_eq_none h]; rfl
theorem C_app {l1 l2 : List Nat} (h1 : C128 l1) (h2 : C128 l2) : C128 (l1 ++ l2) := fun j => by
  rcases Nat.lt_or_ge j l1.length with g | g
  · rw [gD_l g]; exact h1 j
  · rw [gD_r g]; exact h2 _
theorem C_one {c : Nat} (h : c < 128) : C128 [c] := fun j => by
  match j with
  | 0 => exact h
  | j + 1 => exact (by decide : 32 < 128)
theorem C_nil : C128 [] := fun _ => (by decide : 32 < 128)
theorem C_asc {l : List Nat} {n : Nat} (h : C128 l) : asc (Tx l) n := fun j _ => ⟨_, h j, rfl⟩
theorem cat_T {l1 l2 : List Nat} {W : Nat → Int32} (hW : ∀ j, j < l2.length → W j = Tx l2 j) {k : Nat} (hk : k < l1.length + l2.length) : catU (Tx l1) l1.length W k = Tx (l1 ++ l2) k := by
  unfold catU Tx
  rcases Nat.lt_or_ge k l1.length with g | g
  · rw [if_pos g, gD_l g]
  · rw [if_neg (by omega), gD_r g]; exact hW _ (by omega)
/-- the builder a and its row, behind z, hold the text l -/
def SB (h : MH) (a z : Nat) (l : List Nat) : Prop := z ≤ a ∧ C128 l ∧ ∃ v m, z ≤ v ∧ SBV h a v m l.length (Tx l)
def GX (h h' : MH) (z : Nat) : Prop := mZ h ≤ mZ h' ∧ ∀ b, b < z → EQa h h' b
theorem GX_rfl {h : MH} {z : Nat} : GX h h z := ⟨Nat.le_refl _, fun _ _ => EQ_rfl⟩
theorem GX_tr {h h' h'' : MH} {z : Nat} (p : GX h h' z) (q : GX h' h'' z) : GX h h'' z := ⟨Nat.le_trans p.1 q.1, fun b hb => EQ_tr (p.2 b hb) (q.2 b hb)⟩
theorem GX_le {h h' : MH} {z z' : Nat} (p : GX h h' z) (hz : z' ≤ z) : GX h h' z' := ⟨p.1, fun b hb => p.2 b (by omega)⟩
theorem PO_gx {h h' : MH} {i z : Nat} {s : AS} (hP : PO h i s) (hG : GX h h' z) (hz : i + 119 ≤ z) : PO h' i s := PO_ea hP fun b g1 g2 => hG.2 b (by omega)
theorem SB_k {h : MH} {a z : Nat} {l : List Nat} (hS : SB h a z l) : mK h a = 6 := by
  obtain ⟨_, _, v, m, _, h1⟩ := hS
  exact h1.1.1
theorem SB_z {h : MH} {a z : Nat} {l : List Nat} (hS : SB h a z l) : a < mZ h := by
  obtain ⟨_, _, v, m, _, h1⟩ := hS
  exact h1.1.2.2.2.2
theorem SBV_ea {h h' : MH} {a v m n : Nat} {U : Nat → Int32} (hS : SBV h a v m n U) (hz : mZ h ≤ mZ h') (ea : EQa h h' a) (ev : EQa h h' v) : SBV h' a v m n U := by
  obtain ⟨⟨s1, s2, s3, s4, s5⟩, ⟨v1, v2, v3, v4, v5, v6⟩, s6, s7⟩ := hS
  exact ⟨⟨ea.1.trans s1, ((ea.2.2 0).2.1).trans s2, (ea.2.2 1).1.trans s3, (ea.2.2 3).1.trans s4, Nat.lt_of_lt_of_le s5 hz⟩, ⟨v1, Nat.lt_of_lt_of_le v2 hz, ev.1.trans v3, ev.2.1.trans v4, v5, v6⟩, fun j => by rw [(ev.2.2 j).1]; exact s6 j, fun k hk => (ev.2.2 k).1.trans (s7 k hk)⟩
/-- all that there is stays -/
theorem SB_gx {h h' : MH} {a z : Nat} {l : List Nat} (hS : SB h a z l) (hG : GX h h' (mZ h)) : SB h' a z l := by
  obtain ⟨h1, h2, v, m, h3, h4⟩ := hS
  exact ⟨h1, h2, v, m, h3, SBV_ea h4 hG.1 (hG.2 a h4.1.2.2.2.2) (hG.2 v h4.2.1.2.1)⟩
theorem SB_ap {h h' : MH} {a z v m : Nat} {l l2 : List Nat} {W : Nat → Int32} (hz : z ≤ a) (hv : z ≤ v) (hC : C128 l) (hC2 : C128 l2) (hS : SBV h a v m l.length (Tx l)) (hA : apP h h' a v (l.length + l2.length) (catU (Tx l) l.length W)) (hW : ∀ j, j < l2.length → W j = Tx l2 j) : SB h' a z (l ++ l2) ∧ GX h h' z := by
  obtain ⟨hF, v', m', hv', hS'⟩ := hA
  have hzz : z ≤ mZ h := Nat.le_of_lt (Nat.lt_of_le_of_lt hz hS.1.2.2.2.2)
  refine ⟨⟨hz, C_app hC hC2, v', m', by omega, SBV_cg hS' (by rw [List.length_append]) fun k hk => cat_T hW hk⟩, hF.1, fun b hb => hF.2 b (by omega) (by omega) (by omega)⟩
variable {h : MH} {a z d c : Nat} {l : List Nat} {K : Nat → MH → Prop} {xk : String → MH → Prop}
theorem u_appI (hS : SB h a z l) (hl : l.length < 180) (hd : d < 10) (hk : ∀ h', SB h' a z (l ++ [48 + d]) → GX h h' z → K a h') : CALLR x sJ4_append_bf812 [.ref a, .int (nI d)] h xk K := by
  obtain ⟨h1, h2, v, m, h3, h4⟩ := hS
  refine ⟨_, _, d_appI h4 hl hd, fun _ _ z => z.elim, fun r h' ⟨e, hA⟩ => ?_⟩
  subst e
  obtain ⟨q1, q2⟩ := SB_ap (l2 := [48 + d]) h1 h3 h2 (C_one (by omega)) h4 hA fun j hj => by
    obtain rfl : j = 0 := by have : j < 1 := hj; omega
    rfl
  exact hk h' q1 q2
theorem u_appC (hS : SB h a z l) (hl : l.length < 180) (hc : c < 128) (hk : ∀ h', SB h' a z (l ++ [c]) → GX h h' z → K a h') : CALLR x sJ4_append_cf468 [.ref a, .int (nI c)] h xk K := by
  obtain ⟨h1, h2, v, m, h3, h4⟩ := hS
  refine ⟨_, _, d_appC h4 hl hc, fun _ _ z => z.elim, fun r h' ⟨e, hA⟩ => ?_⟩
  subst e
  obtain ⟨q1, q2⟩ := SB_ap (l2 := [c]) h1 h3 h2 (C_one hc) h4 hA fun j hj => by
    obtain rfl : j = 0 := by have : j < 1 := hj; omega
    rfl
  exact hk h' q1 q2
/-- String constants as lists -/
def STL (i : Nat) (l2 : List Nat) : Prop := i < 19 ∧ l2.length = lenS.getD i 0 ∧ (∀ j, j < l2.length → (bytS.getD i []).getD j 0 = nI (l2.getD j 32)) ∧ C128 l2 ∧ l2.length ≤ 100
theorem C_all {l : List Nat} (h : ∀ j, j < l.length → l.getD j 32 < 128) : C128 l := fun j => by
  rcases Nat.lt_or_ge j l.length with g | g
  · exact h j g
  · rw [gD_e g]; decide
theorem stl_14 : STL 14 [110, 101, 116, 32] := ⟨by decide, by decide +kernel, by decide +kernel, C_all (by decide), by decide⟩
theorem stl_15 : STL 15 [105, 110, 32] := ⟨by decide, by decide +kernel, by decide +kernel, C_all (by decide), by decide⟩
theorem stl_16 : STL 16 [32] := ⟨by decide, by decide +kernel, by decide +kernel, C_all (by decide), by decide⟩
theorem stl_17 : STL 17 [111, 117, 116, 32] := ⟨by decide, by decide +kernel, by decide +kernel, C_all (by decide), by decide⟩
theorem stl_18 : STL 18 [116, 111, 107, 101, 110, 115, 32] := ⟨by decide, by decide +kernel, by decide +kernel, C_all (by decide), by decide⟩
theorem u_appK {i : Nat} {l2 : List Nat} (hT : STL i l2) (hS : SB h a z l) (hl : l.length + l2.length ≤ 180) (hk : ∀ h', SB h' a z (l ++ l2) → GX h h' z → K a h') : CALLR x sJ4_append_15ec4 [.ref a, .ref (xK x i)] h xk K := by
  obtain ⟨h1, h2, v, m, h3, h4⟩ := hS
  obtain ⟨t1, t2, t3, t4, t5⟩ := hT
  refine ⟨_, _, d_appS h4 (STC_w ⟨i, t1, rfl, t2, t3⟩) (W := Tx l2) (C_asc t4) hl, fun _ _ z => z.elim, fun r h' ⟨e, hA⟩ => ?_⟩
  subst e
  obtain ⟨q1, q2⟩ := SB_ap (l2 := l2) h1 h3 h2 t4 h4 hA fun j hj => rfl
  exact hk h' q1 q2
/-- a String that was made out of a builder -/
theorem u_appS {h0 : MH} {r : Nat} {l2 : List Nat} (hS0 : SB h0 a z l) (hT : strP h0 h r l2.length (Tx l2)) (hC : C128 l2) (hl : l.length + l2.length ≤ 180) (hk : ∀ h', SB h' a z (l ++ l2) → GX h h' z → K a h') : CALLR x sJ4_append_15ec4 [.ref a, .ref r] h xk K := by
  obtain ⟨t1, t2, t3, t4, t5, t6, t7, t8, t9⟩ := hT
  obtain ⟨h1, h2, v, m, h3, h4⟩ := hS0
  have hv := h4.2.1.2.1
  have h5 := SBV_ea (h' := h) h4 (by omega) (t3 a h4.1.2.2.2.2) (t3 v hv)
  refine ⟨_, _, d_appS h5 (n2 := l2.length) (W := Tx l2) (Or.inr ⟨t4, t5, ⟨by omega, by omega⟩, by rw [t6]; exact t7, by rw [t6]; exact t8, by omega, by omega, fun j hj => by rw [t6]; exact t9 j hj⟩) (C_asc hC) hl, fun _ _ z => z.elim, fun r h' ⟨e, hA⟩ => ?_⟩
  subst e
  obtain ⟨q1, q2⟩ := SB_ap (l2 := l2) h1 h3 h2 hC h5 hA fun j hj => rfl
  exact hk h' q1 q2
theorem nwB_n : nwB (sN h 6 0) (mZ h) := ⟨sN_Ke rfl, sN_Ie rfl, sN_Ie rfl, Nat.lt_succ_self _⟩
theorem SB_in {h' : MH} {n : Nat} {U : Nat → Int32} {l2 : List Nat} (hP : inP (sN h 6 0) h' (mZ h) n U) (hn : n = l2.length) (hC : C128 l2) (hU : ∀ k, k < n → U k = Tx l2 k) : SB h' (mZ h) (mZ h) l2 ∧ GX h h' (mZ h) := by
  obtain ⟨p1, p2, v, m, p3, p4⟩ := hP
  have p1 : mZ h + 1 ≤ mZ h' := p1
  have p3 : mZ h + 1 ≤ v := p3
  exact ⟨⟨Nat.le_refl _, hC, v, m, by omega, SBV_cg p4 hn hU⟩, by omega, fun b hb => EQ_tr (EQ_sN hb) (p2 b (by show b < mZ h + 1; omega) (by omega))⟩
theorem u_init0 {k : MH → Prop} (h0 : 0 < mZ h) (hk : ∀ h', SB h' (mZ h) (mZ h) [] → GX h h' (mZ h) → k h') : CALLV x sJ4_init_da8c8 [.ref (mZ h)] (sN h 6 0) xk k :=
  ⟨_, _, d_init0 nwB_n (Nat.lt_succ_of_lt h0), fun _ _ z => z.elim, fun h' hP => by
    obtain ⟨q1, q2⟩ := SB_in (l2 := []) hP rfl C_nil fun k hk => absurd hk (Nat.not_lt_zero k)
    exact hk h' q1 q2⟩
theorem u_initK {i : Nat} {l2 : List Nat} {k : MH → Prop} (hT : STL i l2) (h0 : 0 < mZ h) (hk : ∀ h', SB h' (mZ h) (mZ h) l2 → GX h h' (mZ h) → k h') : CALLV x sJ4_init_a7421 [.ref (mZ h), .ref (xK x i)] (sN h 6 0) xk k := by
  obtain ⟨t1, t2, t3, t4, t5⟩ := hT
  exact ⟨_, _, d_initS nwB_n (Nat.lt_succ_of_lt h0) ⟨i, t1, rfl, t2, t3⟩ (C_asc (l := l2) t4) t5, fun _ _ z => z.elim, fun h' hP => by
    obtain ⟨q1, q2⟩ := SB_in (l2 := l2) hP rfl t4 fun k hk => rfl
    exact hk h' q1 q2⟩
end SBL
