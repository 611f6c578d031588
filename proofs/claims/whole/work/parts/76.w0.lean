/-! a share is a number -/
theorem sh0 : ∀ k, k < 13 → ∀ n, n < 13 → n = 0 ∨ Op.cmpValue (FP.dcmp (FP.f2d (FP.fdiv (FP.i2f (nI k)) (FP.i2f (nI n)))) (FP.f2d (FP.fdiv (FP.i2f (nI k)) (FP.i2f (nI n))))) .l = 0 := by decide +kernel
theorem share_n0 {σ : SG} {c : Int32} (hK : k_share σ c = 0) : ¬ gN σ = 0 := fun e => by
  unfold k_share at hK
  split at hK
  · first | cases hK | (rw [if_pos e] at hK; cases hK)
  · cases hK
theorem share_ok {σ : SG} {c : Int32} (hn : gN σ ≤ 12) (hK : k_share σ c = 0) : vf_n64 (FP.f2d (a_share σ (ix c))) := fd_ok (k := gN σ - prsN σ (ix c)) (by omega) (by omega) (share_n0 hK)
theorem share_eq {σ : SG} {c : Int32} (hn : gN σ ≤ 12) (hK : k_share σ c = 0) : Op.cmpValue (FP.dcmp (FP.f2d (a_share σ (ix c))) (FP.f2d (a_share σ (ix c)))) .l = 0 := (sh0 (gN σ - prsN σ (ix c)) (by omega) (gN σ) (by omega)).resolve_left (share_n0 hK)
