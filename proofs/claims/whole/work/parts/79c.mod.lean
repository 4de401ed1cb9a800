section MOD
variable {x : CX}
/-- a byte, with its sign -/
def IB (v : Int32) : Prop := ∃ b, b < 256 ∧ v = (nI b).toInt8.toInt32
theorem IB_L : ∀ b, b < 256 → (¬ (nI b).toInt8.toInt32 &&& nI 255 < nI 97 ∧ (nI b).toInt8.toInt32 &&& nI 255 ≤ nI 122 ↔ nI 97 ≤ (nI b).toInt8.toInt32 ∧ (nI b).toInt8.toInt32 ≤ nI 122) := by decide +kernel
theorem IB_D : ∀ b, b < 256 → (¬ (nI b).toInt8.toInt32 &&& nI 255 < nI 48 ∧ (nI b).toInt8.toInt32 &&& nI 255 ≤ nI 57 ↔ nI 48 ≤ (nI b).toInt8.toInt32 ∧ (nI b).toInt8.toInt32 ≤ nI 57) := by decide +kernel
theorem IB_E : ∀ b, b < 256 → ∀ c, c < 128 → ((nI b).toInt8.toInt32 &&& nI 255 = nI c ↔ (nI b).toInt8.toInt32 = nI c) := by decide +kernel
theorem IB_V : ∀ b, b < 256 → nI 48 ≤ (nI b).toInt8.toInt32 → (nI b).toInt8.toInt32 &&& nI 255 = (nI b).toInt8.toInt32 := by decide +kernel
theorem ib_L {v : Int32} (h : IB v) : (¬ v &&& nI 255 < nI 97 ∧ v &&& nI 255 ≤ nI 122) = sgL v := by obtain ⟨b, hb, rfl⟩ := h; exact propext (IB_L b hb)
theorem ib_D {v : Int32} (h : IB v) : (¬ v &&& nI 255 < nI 48 ∧ v &&& nI 255 ≤ nI 57) = sgD v := by obtain ⟨b, hb, rfl⟩ := h; exact propext (IB_D b hb)
theorem ib_E {v : Int32} (h : IB v) {c : Nat} (hc : c < 128) : (v &&& nI 255 = nI c) = (v = nI c) := by obtain ⟨b, hb, rfl⟩ := h; exact propext (IB_E b hb c hc)
theorem ib_V {v : Int32} (h : IB v) (hd : sgD v) : v &&& nI 255 = v := by obtain ⟨b, hb, rfl⟩ := h; exact IB_V b hb hd.1
theorem ib_byS {v : Int32} {sh : Nat} : IB (byS v sh) := by
  unfold byS
  rw [pk_vb]
  generalize (v >>> (nI sh &&& 31)).toInt8 = z
  refine ⟨z.toBitVec.toNat, z.toBitVec.isLt, congrArg Int8.toInt32 ?_⟩
  apply Int8.toBitVec_inj.mp
  show z.toBitVec = (BitVec.ofNat 32 z.toBitVec.toNat).signExtend 8
  rw [BitVec.signExtend_eq_setWidth_of_le _ (by decide)]
  apply BitVec.eq_of_toNat_eq
  have := z.toBitVec.isLt
  simp
end MOD
