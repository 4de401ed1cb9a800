section FLO
theorem fdiv_ok : ∀ a, a < 11 → ∀ b, b < 11 → 0 < b → vf_n32 (FP.fdiv (FP.i2f (nI a)) (FP.i2f (nI b))) := by
  unfold vf_n32
  decide +kernel
theorem ddiv_ok : ∀ b, b < 241 → ∀ a, a < b + 1 → 0 < b → vf_n64 (FP.ddiv (FP.i2d (nI a)) (FP.i2d (nI b))) := by
  unfold vf_n64
  decide +kernel
end FLO
