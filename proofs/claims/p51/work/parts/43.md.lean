def shK (f : Nat → Int32) (d r k : Nat) : Nat → Int32 := fun j => if r ≤ j ∧ j < k then f (j + d) else f j
theorem MR.remove {σ : SG} {s : Nat → Int32} {F : Nat → Nat → Int32} (hr : MR σ s F) {i : Nat} (hi : i < gN σ) {s' : Nat → Int32} (h1 : s' 1 = nI (gN σ - 1)) (hs : ∀ j, j ≠ 1 → s' j = s j) : MR (s_rem σ i) s' (updF (updF F 0 (shK (F 0) 1 i (gN σ - 1))) 1 (shK (F 1) 5 (5 * i) (5 * (gN σ - 1)))) := by
  obtain ⟨⟨a1, a2, a3, a4, a5, a6, b, a7⟩, ⟨b1, b2⟩, c1, c2, c3, c4, c5, ok⟩ := hr
  have sh : ∀ j, j < gN σ - 1 → (j < i ∧ shf (gI σ) i j = gI σ j ∧ shf (gV σ) i j = gV σ j) ∨ (¬ j < i ∧ shf (gI σ) i j = gI σ (j + 1) ∧ shf (gV σ) i j = gV σ (j + 1)) := fun j hj => by
    by_cases h : j < i
    · exact Or.inl ⟨h, if_pos h, if_pos h⟩
    · exact Or.inr ⟨h, if_neg h, if_neg h⟩
  refine ⟨⟨h1, by rw [hs 2 (by decide)]; exact a2, by rw [hs 3 (by decide)]; exact a3, by rw [hs 7 (by decide)]; exact a4, by rw [hs 22 (by decide)]; exact a5, by rw [hs 23 (by decide)]; exact a6, b, by rw [hs 17 (by decide)]; exact a7⟩, ⟨by rw [hs 14 (by decide)]; exact b1, fun h => by rw [hs 15 (by decide), hs 16 (by decide), hs 17 (by decide)]; exact b2 h⟩, fun j hj => ?_, c2, c3, c4, c5, ⟨Nat.le_trans (Nat.sub_le _ _) ok.1, ok.2.1, ok.2.2.1, ok.2.2.2.1, fun j hj c hc => ?_, ok.2.2.2.2.2⟩⟩
  · have hj' : j < gN σ - 1 := hj
    show shK (F 0) 1 i (gN σ - 1) j = shf (gI σ) i j ∧ ∀ c, c < 5 → shK (F 1) 5 (5 * i) (5 * (gN σ - 1)) (5 * j + c) = shf (gV σ) i j c
    rcases sh j hj' with ⟨q1, q2, q3⟩ | ⟨q1, q2, q3⟩
    · rw [q2, q3]
      refine ⟨(if_neg (by omega)).trans (c1 j (by omega)).1, fun c hc => (if_neg (by omega)).trans ((c1 j (by omega)).2 c hc)⟩
    · rw [q2, q3]
      refine ⟨(if_pos (by omega)).trans (c1 (j + 1) (by omega)).1, fun c hc => (if_pos (by omega)).trans ?_⟩
      rw [show 5 * j + c + 5 = 5 * (j + 1) + c by omega]
      exact (c1 (j + 1) (by omega)).2 c hc
  · have hj' : j < gN σ - 1 := hj
    show okV (shf (gV σ) i j c)
    rcases sh j hj' with ⟨q1, q2, q3⟩ | ⟨q1, q2, q3⟩
    · rw [q3]; exact ok.2.2.2.2.1 j (by omega) c hc
    · rw [q3]; exact ok.2.2.2.2.1 (j + 1) (by omega) c hc
