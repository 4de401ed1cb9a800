section LAW
variable {x : CX}
section
variable {q : MS} {o : Nat} {X : State → Code → Prop} {post : Option Value → MH → Prop} {xp : String → MH → Prop} {pc : Nat} {b : Nat × Nat} {L st : List Value} {h : MH}
theorem G_new {k c : Nat} (hc : c < 6) (g1 : Cond.classLink (oR o) k (eR c) ∈ WS) (g2 : Cond.instantiable (eR c) (eN c) ∈ WS) (g3 : Cond.initialized (eR c) ∈ WS) (hd : decode q.2.1 pc = .ok (.new k, 3)) (c1 : 1 ≤ b.1) (c2 : eN c ≤ b.2) (hs : MG x q o X post xp (pc + 3) (b.1 - 1, b.2 - eN c) L (.ref (mZ h) :: st) (sN h (c + 1) 0)) : MG x q o X post xp pc b L st h := by
  intro p e s m args below meth c0 H locs cells slots ls hB hR hS hL h1 h2
  have hts := hB.1.2.2.2.2.1
  have hG := hB.1.2.2.2.2.2.2.2.2.2
  have hKn := hG.1 c hc
  have hz : xz x ≤ H.size := Nat.le_trans hG.2.2.2.2.2.2.2.2.2.2.1 hS.1
  refine W.newcK hB.1.1 hB.1.2.1 hB.1.2.2.2.2.2.1 (hts _ g1) (hts _ g2) (hts _ g3) rfl hd (by show _ ≤ q.2.2.2.2.2.2.2.1; omega) (by show _ ≤ q.2.2.2.2.2.2.2.2; omega) hKn.2.1 rfl fun H1 kC hkC e1 z1 o1 => ?_
  have hr := hs p e s m args below meth c0 H1 locs (cells + 1) (slots + eN c) ls hB (hR.new hz z1 o1 (fun c9 hc9 hk9 => ?_) (fun t ht hk9 => by omega)) (hS.grow (by omega) o1) hL (by show _ + (b.1 - 1) ≤ _; omega) (by show _ + (b.2 - eN c) ≤ _; omega)
  · rw [← hR.1] at hr
    exact hr
  · have : c9 = c := by omega
    subst this
    exact (u_born (eTy c9) hts (okW hc) hKn hkC e1 (eTy_ok hc)).to fun k hk => eDef c9 hc k hk
theorem G_spec {k a : Nat} {y : MS} {As r : List Value} {p1 : MH → Prop} (ho : o < 11) (hf : mT o k = some y) (hd : decode q.2.1 pc = .ok (.invokespecial k, 3)) (hst : st = As.reverse ++ .ref a :: r) (hn : As.length = msN y) (hni : isIn y) (hret : y.2.2.2.1 = none) (h99 : ¬ msR y = 99)
    (hcat : catS r ≤ 8) (hdp : msD y < msD q) (hml : y.2.2.1 ≤ 21) (c1 : y.2.2.2.2.2.2.2.1 ≤ b.1) (c2 : y.2.2.2.2.2.2.2.2 ≤ b.2) (hC : CT x y (.ref a :: As) h (pV p1) xNo)
    (kk : ∀ h', p1 h' → MG x q o X post xp (pc + 3) (b.1 - y.2.2.2.2.2.2.2.1, b.2 - y.2.2.2.2.2.2.2.2) L r h') : MG x q o X post xp pc b L st h := by
  intro p e s m args below meth c H locs cells slots ls hB hR hS hL h1 h2
  subst hst
  obtain ⟨hy, hl⟩ := mT_in ho hf
  have hts := hB.1.2.2.2.2.1
  have hG := hB.1.2.2.2.2.2.2.2.2.2
  have hst : ¬ y.2.2.2.2.2.1 = 99 := h99
  have h6 := hy.2.2.2.2.2
  rw [if_neg hst] at h6
  obtain ⟨e9, i9, -⟩ := h6
  have hcb := E_callB hts hy hl hdp hml
  rw [hret] at hcb
  refine GE_run (a := (Value.ref a :: As).toArray) (vx_runI (Ts := WS) (As := As) (b := a) ⟨hB.1.1, hB.1.2.1, hB.1.2.2.1, hB.1.2.2.2.2.2.1, hts⟩ hC ⟨hcb, hni, hts _ i9⟩ ⟨PcE_blind, E_pre hG hS hR⟩ rfl hn hL.1.1 rfl ?_ hd ?_) hS (fun E h' ce qa H1 locs1 z => z.elim) fun v h' H1 locs1 z1 z2 z3 => ?_
  · rw [catS_eq] at hcat
    exact lv_room hcat
  · exact ⟨by show _ ≤ q.2.2.2.2.2.2.2.1; omega, by show _ ≤ q.2.2.2.2.2.2.2.2; omega⟩
  · obtain ⟨rfl, z1⟩ := z1
    exact kk h' z1 p e s m args below meth c H1 locs1 _ _ ls hB z2 z3 hL (by show _ + (b.1 - _) ≤ _; omega) (by show _ + (b.2 - _) ≤ _; omega)
end
theorem lk_8 : Cond.classLink (oR 6) 8 (eR 4) ∈ WS := ws_of 21 (by decide +kernel) (by decide +kernel)
theorem lk_117 : Cond.classLink (oR 6) 117 (eR 5) ∈ WS := ws_of 1018 (by decide +kernel) (by decide +kernel)
theorem in_4 : Cond.instantiable (eR 4) (eN 4) ∈ WS := ws_of 22 (by decide +kernel) (by decide +kernel)
theorem in_5 : Cond.instantiable (eR 5) (eN 5) ∈ WS := ws_of 1019 (by decide +kernel) (by decide +kernel)
theorem ii_4 : Cond.initialized (eR 4) ∈ WS := ws_of 1 (by decide +kernel) (by decide +kernel)
theorem ii_5 : Cond.initialized (eR 5) ∈ WS := ws_of 6 (by decide +kernel) (by decide +kernel)
theorem sw_T : (#[256, 329, 385, 398, 411, 479, 547, 627, 707, 787, 843, 899, 955, 968, 981, 994, 1007, 1051, 1064, 1077, 1090, 1103, 1159, 1215, 1283, 1296, 1352, 1408, 1464, 1520, 1576, 1589, 1602, 1658, 1671, 1727, 1802, 1815, 1828, 1896, 1952, 2008, 2021, 2034, 2090, 2153, 2166, 2222, 2285, 2348, 2404, 2417, 2430, 2443, 2511, 2524, 2565, 2608, 2621, 2634].map fun z => ((40 : Nat) : Int) + z) = (#[296, 369, 425, 438, 451, 519, 587, 667, 747, 827, 883, 939, 995, 1008, 1021, 1034, 1047, 1091, 1104, 1117, 1130, 1143, 1199, 1255, 1323, 1336, 1392, 1448, 1504, 1560, 1616, 1629, 1642, 1698, 1711, 1767, 1842, 1855, 1868, 1936, 1992, 2048, 2061, 2074, 2130, 2193, 2206, 2262, 2325, 2388, 2444, 2457, 2470, 2483, 2551, 2564, 2605, 2648, 2661, 2674] : Array Int) := by decide +kernel
theorem sm_N : ∀ n, n < 6 → nI n - nI 6 < nI 0 := by decide
/-- not behind the script's end -/
theorem lt_end {N k : Nat} (hN : N ≤ 3072) (hk : 6 * k ≤ N) (z : ¬ nI N - nI 6 < nI (6 * k)) : 6 * k + 6 ≤ N := by
  rcases Nat.lt_or_ge N 6 with g | g
  · have : k = 0 := by omega
    subst this
    exact absurd (sm_N N g) z
  · rw [nI_sub g, nI_ltI (by omega) (by omega)] at z
    omega
theorem law_head {b0 N i j u : Nat} {xs : Nat → Int32} (hb : b0 < xz x) (hN : N ≤ 3072) : ∀ k, k ≤ 512 → ∀ h s, IV h i j u s → 6 * k ≤ N → LG x b0 N xs 23 (3 * (513 - k), 18 * (513 - k)) (L9 b0 i j u (6 * k)) [] h := by
  refine loop_up 512 fun k hk ih h s hI hkN => ?_
  refine G_iload (k := 4) dl_23 ?_
  refine G_aload_n (k := 0) dl_25 ?_
  refine L_slen hb dl_26 ?_
  refine G_bipush (n := 6) rfl dl_27 ?_
  refine G_isub dl_29 ?_
  refine G_ic (T := 2705) dl_30 rfl (fun _ => ?_) fun z => ?_
  · refine G_iconst (n := 1) dl_2705 ?_
    exact G_ireturn dl_2706 ⟨Or.inr (Or.inl ⟨rfl, Or.inr rfl⟩), _, rfl, rfl⟩
  · have z : ¬ nI N - nI 6 < nI (6 * k) := z
    have hlt := lt_end hN hkN z
    have hn : NX x b0 N xs i j u (6 * k) (3 * (513 - k) - 3, 18 * (513 - k) - 18) := fun h s hI => by
      refine G_iinc (k := 4) (n := 6) (by decide) dl_2699 ⟨rfl, ?_⟩
      refine G_go (T := 23) dl_2702 rfl ?_
      have e : nI (6 * k) + cI 6 = nI (6 * (k + 1)) := nI_add _ _
      show LG x b0 N xs 23 _ [.ref b0, .ref i, .ref j, .ref u, .int (nI (6 * k) + cI 6), .null, .null, .null, .null] [] h
      rw [e]
      exact MG_le (by show _ ≤ 3 * (513 - k) - 3; omega) (by show _ ≤ 18 * (513 - k) - 18; omega) (ih (by omega) h s hI (by omega))
    have zb : 3 ≤ 3 * (513 - k) ∧ 18 ≤ 18 * (513 - k) := by omega
    have h5 : 6 * k + 5 < N := by omega
    have h31 : N < 2 ^ 31 := by omega
    refine G_aload_n (k := 0) dl_33 ?_
    refine G_iload (k := 4) dl_34 ?_
    refine L_sld hb (vp_in_nI (by omega) (by omega)) dl_36 ?_
    refine G_bipush (n := 63) rfl dl_37 ?_
    refine G_iand dl_39 ?_
    refine G_tableswitch dl_40 (by rw [sw_T]; decide) ?_
    rw [sw_T]
    exact ⟨fun _ => MG_le (Nat.sub_le _ _) (Nat.sub_le _ _) (hn h s hI), fun _ => k_0 hb h5 h31 hn zb hI, fun _ => k_1 hb h5 h31 hn zb hI, fun _ => k_2 hb h5 h31 hn zb hI, fun _ => k_3 hb h5 h31 hn zb hI, fun _ => k_4 hb h5 h31 hn zb hI, fun _ => k_5 hb h5 h31 hn zb hI, fun _ => k_6 hb h5 h31 hn zb hI, fun _ => k_7 hb h5 h31 hn zb hI, fun _ => k_8 hb h5 h31 hn zb hI, fun _ => k_9 hb h5 h31 hn zb hI, fun _ => k_10 hb h5 h31 hn zb hI, fun _ => k_11 hb h5 h31 hn zb hI, fun _ => k_12 hb h5 h31 hn zb hI, fun _ => k_13 hb h5 h31 hn zb hI, fun _ => k_14 hb h5 h31 hn zb hI, fun _ => k_15 hb h5 h31 hn zb hI, fun _ => k_16 hb h5 h31 hn zb hI, fun _ => k_17 hb h5 h31 hn zb hI, fun _ => k_18 hb h5 h31 hn zb hI, fun _ => k_19 hb h5 h31 hn zb hI, fun _ => k_20 hb h5 h31 hn zb hI, fun _ => k_21 hb h5 h31 hn zb hI, fun _ => k_22 hb h5 h31 hn zb hI, fun _ => k_23 hb h5 h31 hn zb hI, fun _ => k_24 hb h5 h31 hn zb hI, fun _ => k_25 hb h5 h31 hn zb hI, fun _ => k_26 hb h5 h31 hn zb hI, fun _ => k_27 hb h5 h31 hn zb hI, fun _ => k_28 hb h5 h31 hn zb hI, fun _ => k_29 hb h5 h31 hn zb hI, fun _ => k_30 hb h5 h31 hn zb hI, fun _ => k_31 hb h5 h31 hn zb hI, fun _ => k_32 hb h5 h31 hn zb hI, fun _ => k_33 hb h5 h31 hn zb hI, fun _ => k_34 hb h5 h31 hn zb hI, fun _ => k_35 hb h5 h31 hn zb hI, fun _ => k_36 hb h5 h31 hn zb hI, fun _ => k_37 hb h5 h31 hn zb hI, fun _ => k_38 hb h5 h31 hn zb hI, fun _ => k_39 hb h5 h31 hn zb hI, fun _ => k_40 hb h5 h31 hn zb hI, fun _ => k_41 hb h5 h31 hn zb hI, fun _ => k_42 hb h5 h31 hn zb hI, fun _ => k_43 hb h5 h31 hn zb hI, fun _ => k_44 hb h5 h31 hn zb hI, fun _ => k_45 hb h5 h31 hn zb hI, fun _ => k_46 hb h5 h31 hn zb hI, fun _ => k_47 hb h5 h31 hn zb hI, fun _ => k_48 hb h5 h31 hn zb hI, fun _ => k_49 hb h5 h31 hn zb hI, fun _ => k_50 hb h5 h31 hn zb hI, fun _ => k_51 hb h5 h31 hn zb hI, fun _ => k_52 hb h5 h31 hn zb hI, fun _ => k_53 hb h5 h31 hn zb hI, fun _ => k_54 hb h5 h31 hn zb hI, fun _ => k_55 hb h5 h31 hn zb hI, fun _ => k_56 hb h5 h31 hn zb hI, fun _ => k_57 hb h5 h31 hn zb hI, fun _ => k_58 hb h5 h31 hn zb hI, fun _ => k_59 hb h5 h31 hn zb hI, trivial⟩
theorem law_body {b0 N : Nat} {xs : Nat → Int32} {h : MH} (hb : b0 < xz x) (hN : N ≤ 3072) (hz : xz x ≤ mZ h) : LG x b0 N xs 0 (601024, 7293034) [.ref b0, .null, .null, .null, .null, .null, .null, .null, .null] [] h := by
  obtain ⟨i, hi⟩ : ∃ i, i = mZ h := ⟨_, rfl⟩
  refine G_new (k := 8) (c := 4) (by decide) lk_8 in_4 ii_4 dl_0 (by decide) (by decide) ?_
  rw [← hi]
  refine G_dup dl_3 ⟨rfl, ?_⟩
  refine G_spec (As := []) (r := [.ref i]) (y := sX4_init) (a := i) (by decide) rfl dl_4 rfl rfl rfl rfl (by decide) (show 1 ≤ 8 by decide) (by decide) (by decide) (Nat.le_of_ble_eq_true rfl) (Nat.le_of_ble_eq_true rfl) (c_petInit (sN_Ke hi) (by omega) (by rw [sN_Z, hi])) fun h2 ⟨hP2, z2, l2⟩ => ?_
  refine G_astore_n (k := 1) (by decide) dl_7 ⟨rfl, ?_⟩
  obtain ⟨j, hj⟩ : ∃ j, j = mZ h2 := ⟨_, rfl⟩
  refine G_new (k := 117) (c := 5) (by decide) lk_117 in_5 ii_5 dl_8 (Nat.le_of_ble_eq_true rfl) (Nat.le_of_ble_eq_true rfl) ?_
  rw [← hj]
  refine G_dup dl_11 ⟨rfl, ?_⟩
  refine G_spec (As := []) (r := [.ref j]) (y := sX5_init) (a := j) (by decide) rfl dl_12 rfl rfl rfl rfl (by decide) (show 1 ≤ 8 by decide) (by decide) (by decide) (Nat.le_of_ble_eq_true rfl) (Nat.le_of_ble_eq_true rfl) (m_init (sN_Ke hj) (by omega) (by rw [sN_Z, hj]) fun k => sN_Ie hj) fun h4 ⟨hO4, z4, l4⟩ => ?_
  refine G_astore_n (k := 2) (by decide) dl_15 ⟨rfl, ?_⟩
  refine G_iconst (n := 1) dl_16 ?_
  obtain ⟨u, hu⟩ : ∃ u, u = mZ h4 := ⟨_, rfl⟩
  refine G_newarray (t := .long) dl_17 ⟨by decide, by decide, by decide, Nat.le_of_ble_eq_true rfl, Nat.le_of_ble_eq_true rfl, ?_⟩
  rw [← hu]
  refine G_astore_n (k := 3) (by decide) dl_19 ⟨rfl, ?_⟩
  refine G_iconst (n := 0) dl_20 ?_
  refine G_istore (k := 4) (by decide) dl_21 ⟨rfl, ?_⟩
  refine MG_le (b' := (3 * (513 - 0), 18 * (513 - 0))) (Nat.le_of_ble_eq_true rfl) (Nat.le_of_ble_eq_true rfl) ?_
  refine law_head hb hN 0 (by decide) (sN h4 13 1) as0 ⟨PO_ea hP2 fun a g1 g2 => ?_, MO_ea hO4 fun a g1 g2 => EQ_sN (by omega), gd_0, ⟨sN_Ke hu, sN_Le hu⟩, by omega, by omega⟩ (by omega)
  exact EQ_tr (EQ_tr (EQ_sN (by omega)) (l4 a (by omega))) (EQ_sN (by omega))
end LAW
