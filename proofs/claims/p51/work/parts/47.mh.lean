def cpK (f g : Nat → Int32) (b k : Nat) : Nat → Int32 := fun j => if b ≤ j ∧ j < b + k then g (j - b) else f j
theorem MV.mk {σ : SG} {s : Nat → Int32} {F : Nat → Nat → Int32} (hr : MR σ s F) : MV σ (updF F 1 (cpK (F 1) (F 2) (5 * gN σ) (5 * gM σ))) := by
  intro j hj c hc
  show cpK (F 1) (F 2) (5 * gN σ) (5 * gM σ) (5 * j + c) = _
  unfold cpK
  by_cases h : j < gN σ
  · rw [if_neg (by omega), cat_l h]; exact hr.v h c hc
  · rw [if_pos (by omega), cat_r h, show 5 * j + c - 5 * gN σ = 5 * (j - gN σ) + c by omega]
    exact hr.2.2.2.1 (j - gN σ) (by omega) c hc
theorem MR.rej {σ : SG} {s : Nat → Int32} {F : Nat → Nat → Int32} (hr : MR σ s F) {idx r : Nat} {o : Int32 × Bool} (hi : idx < 12) : MR (s_rj σ (nI idx, nI r, o.1, o.2)) (rejS s idx r o) F := by
  obtain ⟨⟨a1, a2, a3, a4, a5, a6, b, a7⟩, ⟨b1, b2⟩, c1, c2, c3, c4, c5, ok⟩ := hr
  exact ⟨⟨a1, a2, a3, a4, a5, a6, o.2, rfl⟩, ⟨rfl, fun _ => ⟨rfl, rfl, rfl⟩⟩, c1, c2, c3, c4, c5, ⟨ok.1, ok.2.1, ok.2.2.1, ok.2.2.2.1, ok.2.2.2.2.1, ok.2.2.2.2.2.1, ok.2.2.2.2.2.2.1, fun e => absurd e (by show ¬ nI idx = -1; exact m1_ne _ (by omega))⟩⟩
