/-! the divisions of meanOf and missingShare are none of them NaN -/
theorem dd0 : ∀ a, a < 49 → ∀ b, b < 49 → ∀ n, n < 13 → n = 0 ∨ (FP.ddiv (FP.i2d (nI (49 * a + b) - 1200)) (FP.i2d (nI n))) &&& 0x7fffffffffffffff ≤ 0x7ff0000000000000 := by decide +kernel
theorem dd_ok {k n : Nat} (hk : k < 2401) (hn : n < 13) (h0 : ¬ n = 0) : vf_n64 (FP.ddiv (FP.i2d (nI k - 1200)) (FP.i2d (nI n))) := by
  have := (dd0 (k / 49) (by omega) (k % 49) (by omega) n hn).resolve_left h0
  rw [show 49 * (k / 49) + k % 49 = k by omega] at this
  exact this
theorem ff0 : ∀ k, k < 13 → ∀ n, n < 13 → n = 0 ∨ (FP.fdiv (FP.i2f (nI k)) (FP.i2f (nI n))) &&& 0x7fffffff ≤ 0x7f800000 := by decide +kernel
theorem ff_ok {k n : Nat} (hk : k < 13) (hn : n < 13) (h0 : ¬ n = 0) : vf_n32 (FP.fdiv (FP.i2f (nI k)) (FP.i2f (nI n))) := (ff0 k hk n hn).resolve_left h0
theorem fd0 : ∀ k, k < 13 → ∀ n, n < 13 → n = 0 ∨ (FP.f2d (FP.fdiv (FP.i2f (nI k)) (FP.i2f (nI n)))) &&& 0x7fffffffffffffff ≤ 0x7ff0000000000000 := by decide +kernel
theorem fd_ok {k n : Nat} (hk : k < 13) (hn : n < 13) (h0 : ¬ n = 0) : vf_n64 (FP.f2d (FP.fdiv (FP.i2f (nI k)) (FP.i2f (nI n)))) := (fd0 k hk n hn).resolve_left h0
