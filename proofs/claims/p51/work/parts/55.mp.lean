theorem mxN_c {f g : Nat → Nat} : ∀ {n : Nat}, (∀ i, i < n → f i = g i) → mxN n f = mxN n g
  | 0, _ => rfl
  | n + 1, h => by unfold mxN; rw [mxN_c (fun i hi => h i (by omega)), h n (by omega)]
theorem sumN_c {f g : Nat → Nat} : ∀ {n : Nat}, (∀ i, i < n → f i = g i) → sumN n f = sumN n g
  | 0, _ => rfl
  | n + 1, h => by show sumN n f + f n = sumN n g + g n; rw [sumN_c (fun i hi => h i (by omega)), h n (by omega)]
theorem sumN_0 {n : Nat} : sumN n (fun _ => 0) = 0 := by
  induction n with
  | zero => rfl
  | succ n ih => show sumN n _ + 0 = 0; rw [ih]
theorem sumN_add {f g : Nat → Nat} : ∀ {n : Nat}, sumN n (fun i => f i + g i) = sumN n f + sumN n g
  | 0 => rfl
  | n + 1 => by show sumN n _ + (f n + g n) = (sumN n f + f n) + (sumN n g + g n); rw [sumN_add]; omega
theorem sumN_one {a : Nat} : ∀ {n : Nat}, a < n → sumN n (fun k => if k = a then 1 else 0) = 1
  | n + 1, h => by
    show sumN n _ + (if n = a then 1 else 0) = 1
    by_cases e : n = a
    · rw [if_pos e, sumN_c (g := fun _ => 0) (fun i hi => if_neg (by omega)), sumN_0]
    · rw [if_neg e, sumN_one (by omega)]
/-- each row belongs to one class -/
theorem mem_sum {s : Int32} {v : Nat → Nat → Int32} {N : Nat} : ∀ n, n ≤ N → sumN N (fun k => cntB n (fun i => decide (fst s v i = k))) = n
  | 0, _ => sumN_0
  | n + 1, h => by
    have e : sumN N (fun k => cntB (n + 1) (fun i => decide (fst s v i = k))) = sumN N (fun k => cntB n (fun i => decide (fst s v i = k)) + (if k = fst s v n then 1 else 0)) := sumN_c (fun k _ => by
      show _ + (if decide (fst s v n = k) = true then 1 else 0) = _
      by_cases e : fst s v n = k
      · rw [decide_eq_true e, if_pos rfl, if_pos e.symm]
      · rw [decide_eq_false e, if_neg (by decide), if_neg (fun h => e h.symm)])
    rw [e, sumN_add, mem_sum n (by omega), sumN_one (by have := (fst_s s v n).1; omega)]
theorem first_b {s : Int32} {v : Nat → Nat → Int32} {k : Nat} : allB k (fun i => !eqIn s (v k) (v i)) = true ↔ fst s v k = k := by
  rw [fst_first, allB_t]
  constructor
  · intro h j hj; have := h j hj; simpa using this
  · intro h j hj; rw [h j hj]; rfl
