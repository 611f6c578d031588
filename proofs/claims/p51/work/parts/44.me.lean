section MOE
variable {l : Launch} {θ : e_T} {ph : e_PH} {mo : Nat} {μ : Nat → Nat} {σ : SG} {t : Int32}
theorem k10 {σ : SG} (h : gK σ ≤ 10) : nI (gK σ) = 10 ↔ ¬ gK σ < 10 := by
  rw [show (10 : Int32) = nI 10 from rfl, nI_eq (by omega) (by decide)]
  omega
end MOE
