abbrev adjS (σ : SG) : Nat → Nat → Bool := adjB (gK σ) (gR σ) (gV σ)
theorem adjS_s {σ : SG} : ∀ i j, adjS σ i j = adjS σ j i := fun _ _ => adjB_symm
theorem conM_t {σ : SG} : ∀ i, i < gN σ → ∀ j, (conM (gN σ) (gK σ) (gR σ) (gV σ) i).testBit j = (decide (j < gN σ) && adjS σ i j) := fun _ _ _ => maskN_t
theorem cntB_cut {f : Nat → Bool} {n : Nat} : ∀ {N : Nat}, n ≤ N → cntB N (fun k => decide (k < n) && f k) = cntB n f
  | 0, h => by rw [show n = 0 by omega]; rfl
  | N + 1, h => by
    rcases Nat.lt_or_ge N n with c | c
    · rw [show n = N + 1 by omega]
      exact cntB_c (fun i hi => by rw [decide_eq_true hi]; rfl)
    · rw [cntB_n, cntB_cut c, decide_eq_false (by omega)]
      rfl
