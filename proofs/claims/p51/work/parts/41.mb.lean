theorem m1_ne : ∀ i, i < 90 → ¬ nI i = -1 := by decide
theorem anyB_s {f : Nat → Bool} {n : Nat} : anyB (n + 1) f = (anyB n f || f n) := rfl
