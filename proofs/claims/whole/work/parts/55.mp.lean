/-! the model: errorOf -/
def mosM (s : Int32) (c n : Nat) (v : Nat → Nat → Int32) (r : Nat) : Nat := mxN n (fun k => if eqIn s (v k) (v r) = true then cntB n (fun i => eqIn s (v i) (v r) && decide (v i c = v k c)) else 0)
def kepM (s : Int32) (c n : Nat) (v : Nat → Nat → Int32) : Nat := sumN n (fun k => if allB k (fun i => !eqIn s (v k) (v i)) = true then mosM s c n v k else 0)
theorem mxN_c {f g : Nat → Nat} : ∀ {n : Nat}, (∀ i, i < n → f i = g i) → mxN n f = mxN n g
  | 0, _ => rfl
  | n + 1, h => by unfold mxN; rw [mxN_c (fun i hi => h i (by omega)), h n (by omega)]
theorem sumN_c {f g : Nat → Nat} : ∀ {n : Nat}, (∀ i, i < n → f i = g i) → sumN n f = sumN n g
  | 0, _ => rfl
  | n + 1, h => by show sumN n f + f n = sumN n g + g n; rw [sumN_c (fun i hi => h i (by omega)), h n (by omega)]
theorem sumN_0 {n : Nat} : sumN n (fun _ => 0) = 0 := by
  induction n with
  | zero => rfl
  | succ n ih => show sumN n _ + 0 = 0; rw [ih]
theorem sumN_add {f g : Nat → Nat} : ∀ {n : Nat}, sumN n (fun i => f i + g i) = sumN n f + sumN n g
  | 0 => rfl
  | n + 1 => by show sumN n _ + (f n + g n) = (sumN n f + f n) + (sumN n g + g n); rw [sumN_add]; omega
theorem sumN_one {a : Nat} : ∀ {n : Nat}, a < n → sumN n (fun k => if k = a then 1 else 0) = 1
  | n + 1, h => by
    show sumN n _ + (if n = a then 1 else 0) = 1
    by_cases e : n = a
    · rw [if_pos e, sumN_c (g := fun _ => 0) (fun i hi => if_neg (by omega)), sumN_0]
    · rw [if_neg e, sumN_one (by omega)]
/-- each row belongs to one class -/
theorem mem_sum {s : Int32} {v : Nat → Nat → Int32} {N : Nat} : ∀ n, n ≤ N → sumN N (fun k => cntB n (fun i => decide (fst s v i = k))) = n
  | 0, _ => sumN_0
  | n + 1, h => by
    have e : sumN N (fun k => cntB (n + 1) (fun i => decide (fst s v i = k))) = sumN N (fun k => cntB n (fun i => decide (fst s v i = k)) + (if k = fst s v n then 1 else 0)) := sumN_c (fun k _ => by
      show _ + (if decide (fst s v n = k) = true then 1 else 0) = _
      by_cases e : fst s v n = k
      · rw [decide_eq_true e, if_pos rfl, if_pos e.symm]
      · rw [decide_eq_false e, if_neg (by decide), if_neg (fun h => e h.symm)])
    rw [e, sumN_add, mem_sum n (by omega), sumN_one (by have := (fst_s s v n).1; omega)]
theorem mos_eq {s : Int32} {c n : Nat} {v : Nat → Nat → Int32} {k : Nat} (hk : fst s v k = k) : mosM s c n v k = mostN s c n v k := mxN_c (fun i _ => by
  by_cases h : fst s v i = k
  · have h1 : eqIn s (v i) (v k) = true := fst_eq.mp (h.trans hk.symm)
    rw [if_pos h1, if_pos h]
    refine cntB_c (fun z _ => ?_)
    congr 1
    cases h2 : eqIn s (v z) (v i)
    · cases h3 : eqIn s (v z) (v k)
      · rfl
      · rw [eqIn_trans h3 (eqIn_sym h1)] at h2; cases h2
    · exact eqIn_trans h2 h1
  · rw [if_neg h, if_neg (fun h1 => h ((fst_eq.mpr h1).trans hk))])
theorem first_b {s : Int32} {v : Nat → Nat → Int32} {k : Nat} : allB k (fun i => !eqIn s (v k) (v i)) = true ↔ fst s v k = k := by
  rw [fst_first, allB_t]
  constructor
  · intro h j hj; have := h j hj; simpa using this
  · intro h j hj; rw [h j hj]; rfl
theorem err_eq {s : Int32} {c n : Nat} {v : Nat → Nat → Int32} : errN s c n v + kepM s c n v = n := by
  have h1 : errN s c n v + kepM s c n v = sumN n (fun k => memN s n v k) := by
    unfold errN kepM
    rw [← sumN_add]
    refine sumN_c (fun k hk => ?_)
    show (if fst s v k = k then memN s n v k - mostN s c n v k else 0) + (if allB k (fun i => !eqIn s (v k) (v i)) = true then mosM s c n v k else 0) = memN s n v k
    by_cases h : fst s v k = k
    · rw [if_pos h, if_pos (first_b.mpr h), mos_eq h]
      have := @mostN_mem s c n v k
      omega
    · rw [if_neg h, if_neg (fun q => h (first_b.mp q))]
      show 0 + 0 = cntB n (fun i => decide (fst s v i = k))
      have : ∀ m, cntB m (fun i => decide (fst s v i = k)) = 0 := fun m => by
        induction m with
        | zero => rfl
        | succ m ih => rw [cntB_s0 (decide_eq_false (fun e => h (by rw [← e]; exact fst_fst)))]; exact ih
      exact (this n).symm
  rw [h1]
  exact mem_sum n (Nat.le_refl n)
