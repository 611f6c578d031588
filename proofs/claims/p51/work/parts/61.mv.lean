/-- the rows that have it, row 0 at the highest bit -/
def rvM (n : Nat) (f : Nat → Bool) : Nat → Nat
  | 0 => 0
  | i + 1 => rvM n f i ||| (if f i = true then 2 ^ (n - 1 - i) else 0)
theorem rvM_t {n : Nat} {f : Nat → Bool} {j : Nat} (hj : j < n) : ∀ i, i ≤ n → (rvM n f i).testBit (n - 1 - j) = (decide (j < i) && f j)
  | 0, _ => by show (0 : Nat).testBit _ = _; rw [Nat.zero_testBit, decide_eq_false (Nat.not_lt_zero j)]; rfl
  | i + 1, h => by
    show (rvM n f i ||| (if f i = true then 2 ^ (n - 1 - i) else 0)).testBit (n - 1 - j) = _
    rw [Nat.testBit_or, rvM_t hj i (by omega)]
    by_cases e : j = i
    · subst e
      rw [decide_eq_false (Nat.lt_irrefl j), decide_eq_true (Nat.lt_succ_self j)]
      cases c : f j
      · rw [if_neg (by decide), Nat.zero_testBit]; rfl
      · rw [if_pos rfl, tb_pow, decide_eq_true rfl]; rfl
    · have h1 : (if f i = true then 2 ^ (n - 1 - i) else 0 : Nat).testBit (n - 1 - j) = false := by
        split
        · rw [tb_pow, decide_eq_false (by omega)]
        · rw [Nat.zero_testBit]
      rw [h1, Bool.or_false]
      congr 1
      exact decide_eq_decide.mpr ⟨fun h => by omega, fun h => by omega⟩
def badR (σ : SG) : Nat := rvM (gN σ) (fun i => badB (gK σ) (gR σ) (gV σ i)) (gN σ)
def conR (σ : SG) (i : Nat) : Nat := rvM (gN σ) (adjB (gK σ) (gR σ) (gV σ) i) (gN σ)
