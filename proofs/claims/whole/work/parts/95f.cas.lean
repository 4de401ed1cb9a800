theorem k_50 {x : CX} {b0 N a i j u : Nat} {xs : Nat → Int32} {b : Nat × Nat} {h : MH} {s : AS} (hb : b0 < xz x) (hN : a + 5 < N) (hN2 : N < 2 ^ 31) (hn : NX x b0 N xs i j u a (b.1 - 3, b.2 - 18)) (zb : 3 ≤ b.1 ∧ 18 ≤ b.2) (hI : IV h i j u s) : LG x b0 N xs 2444 b (L9 b0 i j u a) [] h := by
  obtain ⟨hP, hO, hg, -, -⟩ := id hI
  obtain ⟨np, nt, hB, hT⟩ := hg.1
  exact cs_A (P := 2444) (R1 := 2445) (R2 := 2449) (KX := 301) (KM := 304) (off := 247) (As := []) (yx := sX4_simpleInvariants) (ym := sX5_simpleInvariants) (A := okA s (snS (aW s) np nt (2 ^ np - 1))) (NX_le (Nat.sub_le _ _) (Nat.sub_le _ _) hn) hI (hg) RD_0 RD_0 rfl rfl rfl rfl rfl rfl in_X4_simpleInvariants in_X5_simpleInvariants (by decide) (by decide) (by decide) (by decide) ⟨rfl, rfl⟩ ⟨rfl, rfl⟩ (c_simpleInvariants hP hB) (fun h1 hO1 => m_simpleInvariants hO1 hB) dl_2444 dl_2445 dl_2448 dl_2449 dl_2452 rfl
theorem k_51 {x : CX} {b0 N a i j u : Nat} {xs : Nat → Int32} {b : Nat × Nat} {h : MH} {s : AS} (hb : b0 < xz x) (hN : a + 5 < N) (hN2 : N < 2 ^ 31) (hn : NX x b0 N xs i j u a (b.1 - 3, b.2 - 18)) (zb : 3 ≤ b.1 ∧ 18 ≤ b.2) (hI : IV h i j u s) : LG x b0 N xs 2457 b (L9 b0 i j u a) [] h := by
  obtain ⟨hP, hO, hg, -, -⟩ := id hI
  obtain ⟨np, nt, hB, hT⟩ := hg.1
  exact cs_A (P := 2457) (R1 := 2458) (R2 := 2462) (KX := 305) (KM := 308) (off := 234) (As := []) (yx := sX4_smallestInvariant) (ym := sX5_smallestInvariant) (A := okA s (fiN (fun k => siW (aW s) np nt (k + 1)) (fun k => vcS (nI (k + 1))) (2 ^ np - 1))) (NX_le (Nat.sub_le _ _) (Nat.sub_le _ _) hn) hI (hg) RD_0 RD_0 rfl rfl rfl rfl rfl rfl in_X4_smallestInvariant in_X5_smallestInvariant (by decide) (by decide) (by decide) (by decide) ⟨rfl, rfl⟩ ⟨rfl, rfl⟩ (c_smallestInvariant hP hB) (fun h1 hO1 => m_smallestInvariant hO1 hB) dl_2457 dl_2458 dl_2461 dl_2462 dl_2465 rfl
theorem k_52 {x : CX} {b0 N a i j u : Nat} {xs : Nat → Int32} {b : Nat × Nat} {h : MH} {s : AS} (hb : b0 < xz x) (hN : a + 5 < N) (hN2 : N < 2 ^ 31) (hn : NX x b0 N xs i j u a (b.1 - 3, b.2 - 18)) (zb : 3 ≤ b.1 ∧ 18 ≤ b.2) (hI : IV h i j u s) : LG x b0 N xs 2470 b (L9 b0 i j u a) [] h := by
  obtain ⟨hP, hO, hg, -, -⟩ := id hI
  obtain ⟨np, nt, hB, hT⟩ := hg.1
  exact cs_A (P := 2470) (R1 := 2471) (R2 := 2475) (KX := 309) (KM := 312) (off := 221) (As := []) (yx := sX4_coveredPlaces) (ym := sX5_coveredPlaces) (A := okA s (cvS (aW s) np nt (2 ^ np - 1))) (NX_le (Nat.sub_le _ _) (Nat.sub_le _ _) hn) hI (hg) RD_0 RD_0 rfl rfl rfl rfl rfl rfl in_X4_coveredPlaces in_X5_coveredPlaces (by decide) (by decide) (by decide) (by decide) ⟨rfl, rfl⟩ ⟨rfl, rfl⟩ (c_coveredPlaces hP hB) (fun h1 hO1 => m_coveredPlaces hO1 hB) dl_2470 dl_2471 dl_2474 dl_2475 dl_2478 rfl
theorem k_53 {x : CX} {b0 N a i j u : Nat} {xs : Nat → Int32} {b : Nat × Nat} {h : MH} {s : AS} (hb : b0 < xz x) (hN : a + 5 < N) (hN2 : N < 2 ^ 31) (hn : NX x b0 N xs i j u a (b.1 - 3, b.2 - 18)) (zb : 3 ≤ b.1 ∧ 18 ≤ b.2) (hI : IV h i j u s) : LG x b0 N xs 2483 b (L9 b0 i j u a) [] h := by
  obtain ⟨hP, hO, hg, -, -⟩ := id hI
  obtain ⟨np, nt, hB, hT⟩ := hg.1
  have hu : u < i ∨ i + 119 ≤ u := Or.inr (by have := hI.2.2.2.2; omega)
  exact cs_BI (P := 2483) (R1 := 2496) (R2 := 2515) (KW := 313) (KM := 315) (off := 151) (As := [.int (xs (a + 1)), .int (xs (a + 2))]) (yw := sL_tokensAfterRun) (ym := sX5_tokensAfterRun) (hh := hL_tokensAfterRun) (A := qTR s np nt (xs (a + 1)) (xs (a + 2))) hn zb hI (GD_ite (fun _ => GD_ite (fun _ => hg) fun _ => hg) fun _ => hg) (i4 (i4 ok4 (no4 (by decide))) (no4 (by decide))) (RD_S (k := 2) (kz := 2) (As := [.int (xs (a + 1))]) (RD_S (k := 1) (kz := 1) (As := []) RD_0 hb rfl (by omega) hN2 dl_2484 dl_2485 dl_2487 dl_2488 dl_2489) hb rfl (by omega) hN2 dl_2490 dl_2491 dl_2493 dl_2494 dl_2495) (RD_S (k := 2) (kz := 2) (As := [.int (xs (a + 1))]) (RD_S (k := 1) (kz := 1) (As := []) RD_0 hb rfl (by omega) hN2 dl_2503 dl_2504 dl_2506 dl_2507 dl_2508) hb rfl (by omega) hN2 dl_2509 dl_2510 dl_2512 dl_2513 dl_2514) rfl rfl okL_tokensAfterRun rfl rfl in_X5_tokensAfterRun (by decide) (by decide) (by decide) (by decide) (by decide) ⟨rfl, rfl⟩ (w_tokensAfterRun hP hB hu hI.2.2.2.1) (fun h1 hO1 => m_tokensAfterRun hO1 hB) dl_2483 dl_2496 dl_2497 dl_2500 dl_2502 dl_2515 dl_2518 dl_2520 dl_2521 dl_2524 dl_2526 dl_2531 dl_2533 dl_2536 dl_2537 dl_2538 dl_2539 dl_2541 dl_2542 dl_2543 dl_2548 rfl
theorem k_54 {x : CX} {b0 N a i j u : Nat} {xs : Nat → Int32} {b : Nat × Nat} {h : MH} {s : AS} (hb : b0 < xz x) (hN : a + 5 < N) (hN2 : N < 2 ^ 31) (hn : NX x b0 N xs i j u a (b.1 - 3, b.2 - 18)) (zb : 3 ≤ b.1 ∧ 18 ≤ b.2) (hI : IV h i j u s) : LG x b0 N xs 2551 b (L9 b0 i j u a) [] h := by
  obtain ⟨hP, hO, hg, -, -⟩ := id hI
  obtain ⟨np, nt, hB, hT⟩ := hg.1
  exact cs_A (P := 2551) (R1 := 2552) (R2 := 2556) (KX := 316) (KM := 319) (off := 140) (As := []) (yx := sX4_runLength) (ym := sX5_runLength) (A := okA s (rlS (aW s) np nt)) (NX_le (Nat.sub_le _ _) (Nat.sub_le _ _) hn) hI (hg) RD_0 RD_0 rfl rfl rfl rfl rfl rfl in_X4_runLength in_X5_runLength (by decide) (by decide) (by decide) (by decide) ⟨rfl, rfl⟩ ⟨rfl, rfl⟩ (c_runLength hP hB) (fun h1 hO1 => m_runLength hO1 hB) dl_2551 dl_2552 dl_2555 dl_2556 dl_2559 rfl
theorem k_55 {x : CX} {b0 N a i j u : Nat} {xs : Nat → Int32} {b : Nat × Nat} {h : MH} {s : AS} (hb : b0 < xz x) (hN : a + 5 < N) (hN2 : N < 2 ^ 31) (hn : NX x b0 N xs i j u a (b.1 - 3, b.2 - 18)) (zb : 3 ≤ b.1 ∧ 18 ≤ b.2) (hI : IV h i j u s) : LG x b0 N xs 2564 b (L9 b0 i j u a) [] h := by
  obtain ⟨hP, hO, hg, -, -⟩ := id hI
  obtain ⟨np, nt, hB, hT⟩ := hg.1
  refine G_aload_n (k := 1) dl_2564 ?_
  refine G_virt0 (As := []) (y := sX4_load) (by decide) rfl dl_2565 rfl rfl (Or.inl ⟨by decide, hP.1.1⟩) in_X4_load (by decide) (by decide) (by decide) (Nat.zero_le _) (Nat.zero_le _) (c_load hP hB hT) fun v h1 hv => ?_
  obtain ⟨r, rfl, rfl, rfl⟩ := hv
  refine L_dstore (k := 5) (by decide) rfl dl_2568 ?_
  refine G_aload_n (k := 2) dl_2570 ?_
  refine G_virt0 (As := []) (y := sX5_load) (by decide) rfl dl_2571 rfl rfl (Or.inl ⟨by decide, hO.1.1.1⟩) in_X5_load (by decide) (by decide) (by decide) (Nat.zero_le _) (Nat.zero_le _) (m_load hO hB hT) fun v h2 hv => ?_
  obtain ⟨r, rfl, rfl, c1, c3, c4⟩ := hv
  refine L_dstore (k := 7) (by decide) rfl dl_2574 ?_
  have hI2 : IV h2 i j u s := ⟨IV_po hI hP c4, c3, hg, ⟨(c4.2.1 u).trans hI.2.2.2.1.1, (c4.2.2.1 u).trans hI.2.2.2.1.2⟩, hI.2.2.2.2⟩
  exact cs_dbl (P := 2576) (off := 97) (NX_le (Nat.sub_le _ _) (Nat.sub_le _ _) hn) hI2 dl_2576 dl_2578 dl_2580 dl_2581 dl_2584 dl_2586 dl_2588 dl_2589 dl_2592 dl_2594 dl_2596 dl_2597 dl_2602 rfl
theorem k_56 {x : CX} {b0 N a i j u : Nat} {xs : Nat → Int32} {b : Nat × Nat} {h : MH} {s : AS} (hb : b0 < xz x) (hN : a + 5 < N) (hN2 : N < 2 ^ 31) (hn : NX x b0 N xs i j u a (b.1 - 3, b.2 - 18)) (zb : 3 ≤ b.1 ∧ 18 ≤ b.2) (hI : IV h i j u s) : LG x b0 N xs 2605 b (L9 b0 i j u a) [] h := by
  obtain ⟨hP, hO, hg, -, -⟩ := id hI
  obtain ⟨np, nt, hB, hT⟩ := hg.1
  have hf := shd_ok hB
  refine G_aload_n (k := 1) dl_2605 ?_
  refine G_virt0 (As := []) (y := sX4_enabledShare) (by decide) rfl dl_2606 rfl rfl (Or.inl ⟨by decide, hP.1.1⟩) in_X4_enabledShare (by decide) (by decide) (by decide) (Nat.zero_le _) (Nat.zero_le _) (c_enabledShare hP hB) fun v h1 hv => ?_
  obtain ⟨r, rfl, rfl, rfl⟩ := hv
  refine L_f2d hf dl_2609 ?_
  refine L_dstore (k := 5) (by decide) rfl dl_2610 ?_
  refine G_aload_n (k := 2) dl_2612 ?_
  refine G_virt0 (As := []) (y := sX5_enabledShare) (by decide) rfl dl_2613 rfl rfl (Or.inl ⟨by decide, hO.1.1.1⟩) in_X5_enabledShare (by decide) (by decide) (by decide) (Nat.zero_le _) (Nat.zero_le _) (m_enabledShare hO hB) fun v h2 hv => ?_
  obtain ⟨r, rfl, rfl, c1, c3, c4⟩ := hv
  refine L_f2d hf dl_2616 ?_
  refine L_dstore (k := 7) (by decide) rfl dl_2617 ?_
  have hI2 : IV h2 i j u s := ⟨IV_po hI hP c4, c3, hg, ⟨(c4.2.1 u).trans hI.2.2.2.1.1, (c4.2.2.1 u).trans hI.2.2.2.1.2⟩, hI.2.2.2.2⟩
  exact cs_dbl (P := 2619) (off := 54) (NX_le (Nat.sub_le _ _) (Nat.sub_le _ _) hn) hI2 dl_2619 dl_2621 dl_2623 dl_2624 dl_2627 dl_2629 dl_2631 dl_2632 dl_2635 dl_2637 dl_2639 dl_2640 dl_2645 rfl
theorem k_57 {x : CX} {b0 N a i j u : Nat} {xs : Nat → Int32} {b : Nat × Nat} {h : MH} {s : AS} (hb : b0 < xz x) (hN : a + 5 < N) (hN2 : N < 2 ^ 31) (hn : NX x b0 N xs i j u a (b.1 - 3, b.2 - 18)) (zb : 3 ≤ b.1 ∧ 18 ≤ b.2) (hI : IV h i j u s) : LG x b0 N xs 2648 b (L9 b0 i j u a) [] h := by
  obtain ⟨hP, hO, hg, -, -⟩ := id hI
  obtain ⟨np, nt, hB, hT⟩ := hg.1
  exact cs_A (P := 2648) (R1 := 2649) (R2 := 2653) (KX := 330) (KM := 333) (off := 43) (As := []) (yx := sX4_violations) (ym := sX5_violations) (A := okA s (voS (aW s) np nt (2 ^ np - 1))) (NX_le (Nat.sub_le _ _) (Nat.sub_le _ _) hn) hI (hg) RD_0 RD_0 rfl rfl rfl rfl rfl rfl in_X4_violations in_X5_violations (by decide) (by decide) (by decide) (by decide) ⟨rfl, rfl⟩ ⟨rfl, rfl⟩ (c_violations hP hB (exp_J hT hB).2.1) (fun h1 hO1 => m_violations hO1 hT hB) dl_2648 dl_2649 dl_2652 dl_2653 dl_2656 rfl
theorem k_58 {x : CX} {b0 N a i j u : Nat} {xs : Nat → Int32} {b : Nat × Nat} {h : MH} {s : AS} (hb : b0 < xz x) (hN : a + 5 < N) (hN2 : N < 2 ^ 31) (hn : NX x b0 N xs i j u a (b.1 - 3, b.2 - 18)) (zb : 3 ≤ b.1 ∧ 18 ≤ b.2) (hI : IV h i j u s) : LG x b0 N xs 2661 b (L9 b0 i j u a) [] h := by
  obtain ⟨hP, hO, hg, -, -⟩ := id hI
  obtain ⟨np, nt, hB, hT⟩ := hg.1
  exact cs_A (P := 2661) (R1 := 2662) (R2 := 2666) (KX := 334) (KM := 337) (off := 30) (As := []) (yx := sX4_writeMarking) (ym := sX5_writeMarking) (A := qWM s np nt) (NX_le (Nat.sub_le _ _) (Nat.sub_le _ _) hn) hI (gd_WM hg) RD_0 RD_0 rfl rfl rfl rfl rfl rfl in_X4_writeMarking in_X5_writeMarking (by decide) (by decide) (by decide) (by decide) ⟨rfl, rfl⟩ ⟨rfl, rfl⟩ (c_writeMarking hP hB) (fun h1 hO1 => m_writeMarking hO1 hB) dl_2661 dl_2662 dl_2665 dl_2666 dl_2669 rfl
theorem k_59 {x : CX} {b0 N a i j u : Nat} {xs : Nat → Int32} {b : Nat × Nat} {h : MH} {s : AS} (hb : b0 < xz x) (hN : a + 5 < N) (hN2 : N < 2 ^ 31) (hn : NX x b0 N xs i j u a (b.1 - 3, b.2 - 18)) (zb : 3 ≤ b.1 ∧ 18 ≤ b.2) (hI : IV h i j u s) : LG x b0 N xs 2674 b (L9 b0 i j u a) [] h := by
  obtain ⟨hP, hO, hg, -, -⟩ := id hI
  obtain ⟨np, nt, hB, hT⟩ := hg.1
  exact cs_A (P := 2674) (R1 := 2681) (R2 := 2691) (KX := 338) (KM := 341) (off := 5) (As := [.int (xs (a + 1))]) (yx := sX4_reportByte) (ym := sX5_reportByte) (A := okA s (qRB s (xs (a + 1)))) (NX_le (Nat.sub_le _ _) (Nat.sub_le _ _) hn) hI (hg) (RD_S (k := 1) (kz := 1) (As := []) RD_0 hb rfl (by omega) hN2 dl_2675 dl_2676 dl_2678 dl_2679 dl_2680) (RD_S (k := 1) (kz := 1) (As := []) RD_0 hb rfl (by omega) hN2 dl_2685 dl_2686 dl_2688 dl_2689 dl_2690) rfl rfl rfl rfl rfl rfl in_X4_reportByte in_X5_reportByte (by decide) (by decide) (by decide) (by decide) ⟨rfl, rfl⟩ ⟨rfl, rfl⟩ (c_reportByte hP) (fun h1 hO1 => m_reportByte hO1) dl_2674 dl_2681 dl_2684 dl_2691 dl_2694 rfl
