def nP (θ : e_T) (ph : e_PH) (mo : Nat) (μ : Nat → Nat) (σ : SG) (k : Nat) (z0 : Value) : Option Value → e_PH → Prop := fun z p => z = some z0 ∧ MP θ p mo μ σ (nI k) ∧ kept ph p (mS mo μ)
theorem nP.mk {θ : e_T} {ph p : e_PH} {mo : Nat} {μ : Nat → Nat} {σ : SG} {k : Nat} {z0 : Value} {z : Option Value} {t : Int32} (h : MP θ p mo μ σ t ∧ kept ph p (mS mo μ)) (ht : t = nI k) (hz : z = some z0) : nP θ ph mo μ σ k z0 z p := ⟨hz, by rw [← ht]; exact h.1, h.2⟩
theorem MR.ok {σ : SG} {s : Nat → Int32} {F : Nat → Nat → Int32} (h : MR σ s F) : okS σ := h.2.2.2.2.2.2.2
theorem MR.v {σ : SG} {s : Nat → Int32} {F : Nat → Nat → Int32} (h : MR σ s F) {i : Nat} (hi : i < gN σ) : ∀ c, c < 5 → vF F i c = gV σ i c := (h.2.2.1 i hi).2
