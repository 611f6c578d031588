theorem m1_ne : ∀ i, i < 90 → ¬ nI i = -1 := by decide
