section PCK
/-! four signs in an int, twenty in five -/
theorem nI_or (a b : Nat) : nI a ||| nI b = nI (a ||| b) := Int32.toBitVec_inj.mp (by rw [Int32.toBitVec_or]; exact BitVec.ofNat_or.symm)
theorem or_low {k A b : Nat} (h : b < 2 ^ k) : nI (2 ^ k * A) ||| nI b = nI (2 ^ k * A + b) := by rw [nI_or, Nat.two_pow_add_eq_or_of_lt h]
theorem shl_c : ∀ c, c < 128 → nI c <<< (nI 24 &&& 31) = nI (c * 2 ^ 24) ∧ nI c <<< (nI 16 &&& 31) = nI (c * 2 ^ 16) ∧ nI c <<< (nI 8 &&& 31) = nI (c * 2 ^ 8) ∧ nI c <<< (nI 0 &&& 31) = nI (c * 2 ^ 0) := by decide +kernel
theorem sm_s : (nI 0 &&& 31).toBitVec.smod 32 = 0#32 ∧ (nI 8 &&& 31).toBitVec.smod 32 = 8#32 ∧ (nI 16 &&& 31).toBitVec.smod 32 = 16#32 ∧ (nI 24 &&& 31).toBitVec.smod 32 = 24#32 := by decide
theorem shr_t {V sh : Nat} {y : Int32} (hV : V < 2 ^ 31) (hy : y.toBitVec.smod 32 = BitVec.ofNat 32 sh) (hs : sh < 32) : nI V >>> y = nI (V / 2 ^ sh) := by
  refine Int32.toInt_inj.mp ?_
  have hd : V / 2 ^ sh ≤ V := Nat.div_le_self _ _
  have h1 : (nI V >>> y).toInt = (nI V).toInt >>> sh := by
    show (nI V >>> y).toBitVec.toInt = _
    rw [Int32.toBitVec_shiftRight, hy]
    show ((nI V).toBitVec.sshiftRight (BitVec.ofNat 32 sh).toNat).toInt = _
    rw [BitVec.toInt_sshiftRight, BitVec.toNat_ofNat, Nat.mod_eq_of_lt (by omega)]
    rfl
  rw [h1, nI_toInt hV, nI_toInt (by omega), Int.shiftRight_eq_div_pow, Int.natCast_ediv]
theorem b8_n {V : Nat} (hV : V < 2 ^ 31) (h : V % 256 < 128) : (nI V).toInt8.toInt32 = nI (V % 256) := by
  refine Int32.toInt_inj.mp ?_
  rw [Int8.toInt_toInt32, Int32.toInt_toInt8, nI_toInt hV, nI_toInt (by omega)]
  rw [Int.bmod_def]
  split
  · omega
  · omega
theorem byS_n {V sh : Nat} (hV : V < 2 ^ 31) (hs : sh = 0 ∨ sh = 8 ∨ sh = 16 ∨ sh = 24) (h : V / 2 ^ sh % 256 < 128) : byS (nI V) sh = nI (V / 2 ^ sh % 256) := by
  have hd : V / 2 ^ sh ≤ V := Nat.div_le_self _ _
  have e : nI V >>> (nI sh &&& 31) = nI (V / 2 ^ sh) := by
    rcases hs with rfl | rfl | rfl | rfl
    · exact shr_t hV sm_s.1 (by decide)
    · exact shr_t hV sm_s.2.1 (by decide)
    · exact shr_t hV sm_s.2.2.1 (by decide)
    · exact shr_t hV sm_s.2.2.2 (by decide)
  unfold byS
  rw [e, b8_n (by omega) h]
  exact (nar_c _ h).1
/-- the first r of some signs, one behind another -/
def wdN (c : Nat → Nat) : Nat → Nat
  | 0 => 0
  | r + 1 => wdN c r * 256 + c r
theorem wd_4 (c : Nat → Nat) : wdN c 4 = ((c 0 * 256 + c 1) * 256 + c 2) * 256 + c 3 := by
  show (((0 * 256 + c 0) * 256 + c 1) * 256 + c 2) * 256 + c 3 = _
  rw [Nat.zero_mul, Nat.zero_add]
theorem by_wd {c : Nat → Nat} (hc : ∀ l, l < 4 → c l < 128) {l : Nat} (hl : l < 4) : byS (nI (wdN c 4)) (24 - 8 * l) = nI (c l) := by
  have h0 := hc 0 (by decide)
  have h1 := hc 1 (by decide)
  have h2 := hc 2 (by decide)
  have h3 := hc 3 (by decide)
  have e := wd_4 c
  have hq : wdN c 4 / 2 ^ (24 - 8 * l) % 256 = c l := by
    rw [e]
    rcases (by omega : l = 0 ∨ l = 1 ∨ l = 2 ∨ l = 3) with rfl | rfl | rfl | rfl
    · show _ / 2 ^ 24 % 256 = _; omega
    · show _ / 2 ^ 16 % 256 = _; omega
    · show _ / 2 ^ 8 % 256 = _; omega
    · show _ / 2 ^ 0 % 256 = _; omega
  have hcl := hc l hl
  rw [byS_n (by omega) (by omega) (by omega), hq]
/-- the five ints after i signs -/
def wvN (c : Nat → Nat) (i q : Nat) : Nat := wdN (fun l => c (4 * q + l)) (min 4 (i - 4 * q)) * 2 ^ (32 - 8 * min 4 (i - 4 * q))
theorem wv_0 {c : Nat → Nat} {q : Nat} : wvN c 0 q = 0 := by
  unfold wvN
  rw [show min 4 (0 - 4 * q) = 0 by omega]
  exact Nat.zero_mul _
theorem wv_20 {c : Nat → Nat} {q : Nat} (hq : q < 5) : wvN c 20 q = wdN (fun l => c (4 * q + l)) 4 := by
  unfold wvN
  rw [show min 4 (20 - 4 * q) = 4 by omega]
  exact Nat.mul_one _
theorem wv_o {c : Nat → Nat} {i q : Nat} (hq : q ≠ i / 4) : wvN c (i + 1) q = wvN c i q := by
  unfold wvN
  rw [show min 4 (i + 1 - 4 * q) = min 4 (i - 4 * q) by omega]
theorem shl_r {c i : Nat} (hc : c < 128) : nI c <<< (nI (24 - 8 * (i % 4)) &&& 31) = nI (c * 2 ^ (24 - 8 * (i % 4))) := by
  obtain ⟨a1, a2, a3, a4⟩ := shl_c c hc
  rcases (by omega : i % 4 = 0 ∨ i % 4 = 1 ∨ i % 4 = 2 ∨ i % 4 = 3) with h | h | h | h
  · rw [h]; exact a1
  · rw [h]; exact a2
  · rw [h]; exact a3
  · rw [h]; exact a4
theorem wv_s {c : Nat → Nat} {i : Nat} (hc : c i < 128) : nI (wvN c i (i / 4)) ||| nI (c i) <<< (nI (24 - 8 * (i % 4)) &&& 31) = nI (wvN c (i + 1) (i / 4)) := by
  rw [shl_r hc]
  obtain ⟨q, hq⟩ : ∃ q, q = i / 4 := ⟨_, rfl⟩
  obtain ⟨r, hr⟩ : ∃ r, r = i % 4 := ⟨_, rfl⟩
  have hi : i = 4 * q + r := by omega
  have hr4 : r < 4 := by omega
  rw [← hq, ← hr]
  unfold wvN
  rw [show min 4 (i - 4 * q) = r by omega, show min 4 (i + 1 - 4 * q) = r + 1 by omega]
  have h1 : wdN (fun l => c (4 * q + l)) (r + 1) = wdN (fun l => c (4 * q + l)) r * 256 + c i := by rw [hi]; rfl
  rw [h1]
  generalize wdN (fun l => c (4 * q + l)) r = A
  have h2 : c i * 2 ^ (24 - 8 * r) < 2 ^ (32 - 8 * r) := by
    rw [show 32 - 8 * r = 8 + (24 - 8 * r) by omega, Nat.pow_add]
    exact (Nat.mul_lt_mul_right (Nat.pow_pos (by decide))).mpr (by omega)
  rw [Nat.mul_comm A, or_low h2, show 32 - 8 * (r + 1) = 24 - 8 * r by omega]
  congr 1
  rw [show 32 - 8 * r = 8 + (24 - 8 * r) by omega, Nat.pow_add, Nat.add_mul, Nat.mul_comm (2 ^ 8 * 2 ^ (24 - 8 * r)) A, Nat.mul_assoc]
/-- .. behind a text -/
theorem ap5_at {U : Nat → Int32} {n : Nat} {c : Nat → Nat} (hc : ∀ i, i < 20 → c i < 128) {k : Nat} (hk : k < n + 20) :
    ap5 U n (nI (wvN c 20 0)) (nI (wvN c 20 1)) (nI (wvN c 20 2)) (nI (wvN c 20 3)) (nI (wvN c 20 4)) k = if k < n then U k else nI (c (k - n)) := by
  have key : ∀ q, q < 5 → ∀ m, m = n + 4 * q → m ≤ k → k < m + 4 → byS (nI (wvN c 20 q)) (24 - 8 * (k - m)) = nI (c (k - n)) := by
    intro q hq m hm h1 h2
    rw [wv_20 hq, by_wd (fun l hl => hc _ (by omega)) (by omega)]
    congr 2
    omega
  unfold ap5 apU
  by_cases g0 : k < n
  · rw [if_pos (by omega), if_pos (by omega), if_pos (by omega), if_pos (by omega), if_pos g0, if_pos g0]
  by_cases g1 : k < n + 4
  · rw [if_pos (by omega), if_pos (by omega), if_pos (by omega), if_pos (by omega), if_neg g0, if_neg g0]
    exact key 0 (by decide) n rfl (by omega) (by omega)
  by_cases g2 : k < n + 8
  · rw [if_pos (by omega), if_pos (by omega), if_pos (by omega), if_neg g1, if_neg g0]
    exact key 1 (by decide) (n + 4) rfl (by omega) (by omega)
  by_cases g3 : k < n + 12
  · rw [if_pos (by omega), if_pos (by omega), if_neg g2, if_neg g0]
    exact key 2 (by decide) (n + 8) rfl (by omega) (by omega)
  by_cases g4 : k < n + 16
  · rw [if_pos (by omega), if_neg g3, if_neg g0]
    exact key 3 (by decide) (n + 12) rfl (by omega) (by omega)
  · rw [if_neg g4, if_neg g0]
    exact key 4 (by decide) (n + 16) rfl (by omega) (by omega)
end PCK
