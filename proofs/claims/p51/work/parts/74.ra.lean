/-! p51, mathematics: the best repair, the groups -/
theorem adj_self {σ : SG} (i : Nat) : adjS σ i i = false := by
  show (decide (¬ i = i) && _) = false
  rw [decide_eq_false (fun h => h rfl)]
  rfl
theorem few_min {σ : SG} (hn : gN σ ≤ 12) {k : Nat} (hk : k < 2 ^ gN σ) (h : repS σ k = true) : a_few σ ≤ popN k := by
  have := (try_min (σ := σ) (2 ^ gN σ)).1 k hk h
  rw [try_eq hn] at this
  exact this
theorem bst_rep {σ : SG} (hn : gN σ ≤ 12) : repS σ (bstN σ) = true := by
  refine (rep_rv hn).mp ?_
  rw [bst_sc hn]
  rcases (scN_min (n := gN σ) (P := repR σ) (a := 0) (b := 2 ^ gN σ - 1) (2 ^ gN σ)).2.2 with h | h
  · rw [h]; exact full_rep hn
  · exact h.1
theorem rep_all {σ : SG} (hn : gN σ ≤ 12) {k : Nat} : repS σ k = true ↔ ∀ i, i < gN σ → k.testBit i = false → bdS σ i = false ∧ ∀ j, j < gN σ → adjS σ i j = true → k.testBit j = true := (repS_t hn).trans (okP_all adjS_s adj_self)
theorem bst_ok {σ : SG} (hn : gN σ ≤ 12) {i : Nat} (hi : i < gN σ) (h : (bstN σ).testBit i = false) : bdS σ i = false ∧ ∀ j, j < gN σ → adjS σ i j = true → (bstN σ).testBit j = true := (rep_all hn).mp (bst_rep hn) i hi h
theorem bst_alone {σ : SG} (hn : gN σ ≤ 12) {i : Nat} (hi : i < gN σ) (hb : bdS σ i = false) (ha : ∀ j, j < gN σ → adjS σ i j = false) : (bstN σ).testBit i = false := by
  cases h : (bstN σ).testBit i
  · rfl
  · exfalso
    have hlt := bst_ltn (σ := σ)
    have ht : ∀ j, (bstN σ ^^^ 2 ^ i).testBit j = ((bstN σ).testBit j && decide (¬ j = i)) := fun j => by
      rw [Nat.testBit_xor, Nat.testBit_two_pow]
      by_cases e : j = i
      · subst e; rw [h, decide_eq_true rfl, decide_eq_false (fun q => q rfl)]; rfl
      · rw [decide_eq_false (fun q => e q.symm), decide_eq_true e, Bool.and_true, Bool.xor_false]
    have hk : bstN σ ^^^ 2 ^ i < 2 ^ gN σ := Nat.xor_lt_two_pow hlt (Nat.pow_lt_pow_right (by decide) hi)
    have hr : repS σ (bstN σ ^^^ 2 ^ i) = true := (rep_all hn).mpr (fun j hj hr => by
      by_cases e : j = i
      · subst e; exact ⟨hb, fun q hq h1 => by rw [ha q hq] at h1; cases h1⟩
      · have h2 : (bstN σ).testBit j = false := by rw [ht, decide_eq_true e, Bool.and_true] at hr; exact hr
        obtain ⟨h3, h4⟩ := bst_ok hn hj h2
        refine ⟨h3, fun q hq h1 => ?_⟩
        have e3 : ¬ q = i := fun e2 => by
          subst e2
          rw [adjS_s, ha j hj] at h1
          cases h1
        rw [ht, h4 q hq h1, decide_eq_true e3]
        rfl)
    have h5 := few_min hn hk hr
    have h6 : popN (bstN σ ^^^ 2 ^ i) < popN (bstN σ) := cntB_lt (k := i) (by rw [ht, decide_eq_false (fun q => q rfl), Bool.and_false]) h (by omega) (fun j hj h7 => by rw [ht, Bool.and_eq_true] at h7; exact h7.1)
    have h7 : a_few σ = popN (bstN σ) := rfl
    omega
theorem few_n {σ : SG} (hn : gN σ ≤ 12) : cntB (gN σ) (fun i => (bstN σ).testBit i) = a_few σ := (pop_cn hn bst_ltn).symm
theorem gs_eq {σ : SG} {i j : Nat} (hi : i < gN σ) (hj : j < gN σ) (h : adjS σ i j = true) : popN (rchN σ i) = popN (rchN σ j) := by
  have c1 : conE (gN σ) (adjS σ) i j = true := conE_cl hi i j hi hj conE_r h
  have c2 := conE_s adjS_s hi hj c1
  unfold popN
  refine cntB_c (fun k _ => ?_)
  rw [rchN_t hi, rchN_t hj]
  by_cases hk : k < gN σ
  · rw [show conE (gN σ) (adjS σ) i k = conE (gN σ) (adjS σ) j k from by
      rw [Bool.eq_iff_iff]
      exact ⟨fun h => conE_t hj hk c2 h, fun h => conE_t hi hk c1 h⟩]
  · rw [decide_eq_false hk]; rfl
theorem cnt_none {i : Nat} : ∀ {n : Nat}, n ≤ i → cntB n (fun k => decide (k = i)) = 0
  | 0, _ => rfl
  | n + 1, h => by rw [cntB_s0 (decide_eq_false (by omega))]; exact cnt_none (by omega)
theorem cnt_one {i : Nat} : ∀ {n : Nat}, i < n → cntB n (fun k => decide (k = i)) = 1
  | 0, h => absurd h (Nat.not_lt_zero i)
  | n + 1, h => by
    by_cases e : n = i
    · subst e; rw [cntB_s1 (decide_eq_true rfl), cnt_none (Nat.le_refl n)]
    · rw [cntB_s0 (decide_eq_false e)]; exact cnt_one (by omega)
theorem gs_pos {σ : SG} (hn : gN σ ≤ 12) {i : Nat} (hi : i < gN σ) : 1 ≤ popN (rchN σ i) ∧ popN (rchN σ i) ≤ 12 := by
  refine ⟨?_, cntB_le _ _⟩
  have h := cnt_one (i := i) (n := 12) (by omega)
  rcases Nat.lt_or_ge 0 (popN (rchN σ i)) with h1 | h1
  · exact h1
  · exfalso
    have h2 : cntB 12 (fun k => (rchN σ i).testBit k) < cntB 12 (fun k => decide (k = i) || (rchN σ i).testBit k) ∨ (rchN σ i).testBit i = true := by
      right
      rw [rchN_t hi, decide_eq_true hi, conE_r]; rfl
    have h3 : (rchN σ i).testBit i = true := by rw [rchN_t hi, decide_eq_true hi, conE_r]; rfl
    have h4 : cntB 12 (fun _ => false) < cntB 12 (fun k => (rchN σ i).testBit k) := cntB_lt (k := i) rfl h3 (by omega) (fun _ _ q => by cases q)
    have h5 : popN (rchN σ i) = cntB 12 (fun k => (rchN σ i).testBit k) := rfl
    omega
theorem gs_one {σ : SG} (hn : gN σ ≤ 12) {i : Nat} (hi : i < gN σ) : popN (rchN σ i) = 1 ↔ ∀ j, j < gN σ → adjS σ i j = false := by
  constructor
  · intro h j hj
    cases e : adjS σ i j
    · rfl
    · exfalso
      have hne : ¬ j = i := fun q => by subst q; rw [adj_self] at e; cases e
      have c1 : conE (gN σ) (adjS σ) i j = true := conE_cl hi i j hi hj conE_r e
      have h1 : cntB 12 (fun k => decide (k = i)) = 1 := cnt_one (by omega)
      have h2 : cntB 12 (fun k => decide (k = i)) < cntB 12 (fun k => (rchN σ i).testBit k) := cntB_lt (k := j) (decide_eq_false hne) (by rw [rchN_t hi, decide_eq_true hj, c1]; rfl) (by omega) (fun k hk h3 => by
        have := of_decide_eq_true h3
        subst this
        rw [rchN_t hi, decide_eq_true hi, conE_r]; rfl)
      have h3 : popN (rchN σ i) = cntB 12 (fun k => (rchN σ i).testBit k) := rfl
      omega
  · intro h
    have hc : clsdN (gN σ) (adjS σ) (fun k => decide (k = i)) := fun a k ha hk h1 h2 => by
      have := of_decide_eq_true h1
      subst this
      rw [h k hk] at h2; cases h2
    have h1 : ∀ k, k < 12 → (rchN σ i).testBit k = decide (k = i) := fun k _ => by
      rw [rchN_t hi]
      by_cases hk : k < gN σ
      · rw [decide_eq_true hk, Bool.true_and]
        cases e : conE (gN σ) (adjS σ) i k
        · refine (decide_eq_false (fun q => ?_)).symm
          subst q
          rw [conE_r] at e; cases e
        · exact (bal_sub hc (decide_eq_true rfl) (gN σ) k hk e).symm
      · rw [decide_eq_false hk, decide_eq_false (fun q => hk (by omega))]; rfl
    show cntB 12 _ = 1
    rw [cntB_c h1]
    exact cnt_one (by omega)
theorem sumN_swap {F : Nat → Nat → Nat} {m : Nat} : ∀ n, sumN n (fun k => sumN m (F k)) = sumN m (fun j => sumN n (fun k => F k j))
  | 0 => (sumN_0 (n := m)).symm
  | n + 1 => by
    show sumN n (fun k => sumN m (F k)) + sumN m (F n) = sumN m (fun j => sumN n (fun k => F k j) + F n j)
    rw [sumN_add, sumN_swap n]
theorem sumN_none {a : Nat} {f : Nat → Nat} : ∀ {n : Nat}, n ≤ a → sumN n (fun m => if m = a then f m else 0) = 0
  | 0, _ => rfl
  | n + 1, h => by
    show sumN n _ + (if n = a then f n else 0) = 0
    rw [sumN_none (by omega), if_neg (by omega)]
theorem sumN_at {a : Nat} {f : Nat → Nat} : ∀ {n : Nat}, a < n → sumN n (fun m => if m = a then f m else 0) = f a
  | 0, h => absurd h (Nat.not_lt_zero a)
  | n + 1, h => by
    show sumN n _ + (if n = a then f n else 0) = f a
    by_cases e : n = a
    · subst e; rw [sumN_none (Nat.le_refl n), if_pos rfl, Nat.zero_add]
    · rw [sumN_at (by omega), if_neg e, Nat.add_zero]
theorem sumN_cnt {P : Nat → Bool} {v : Nat} : ∀ {n : Nat}, sumN n (fun k => if P k = true then v else 0) = cntB n P * v
  | 0 => (Nat.zero_mul v).symm
  | n + 1 => by
    show sumN n _ + (if P n = true then v else 0) = _
    rw [sumN_cnt]
    cases h : P n
    · rw [cntB_s0 h, if_neg (by decide), Nat.add_zero]
    · rw [cntB_s1 h, if_pos rfl, Nat.succ_mul]
theorem sum_lab {n L : Nat} {lab : Nat → Nat} (h1 : ∀ k, k < n → lab k < n ∧ lab (lab k) = lab k) (hL : ∀ c, 1 ≤ c → c ≤ n → c * (L / c) = L) : sumN n (fun k => L / cntB n (fun j => decide (lab j = lab k))) = cntB n (fun k => decide (lab k = k)) * L := by
  rw [sumN_c (g := fun k => sumN n (fun m => if m = lab k then L / cntB n (fun j => decide (lab j = m)) else 0)) (fun k hk => (sumN_at (f := fun m => L / cntB n (fun j => decide (lab j = m))) (h1 k hk).1).symm), sumN_swap, ← sumN_cnt]
  refine sumN_c (fun m hm => ?_)
  rw [sumN_c (g := fun k => if decide (lab k = m) = true then L / cntB n (fun j => decide (lab j = m)) else 0) (fun k _ => by
    by_cases e : lab k = m
    · rw [if_pos e.symm, if_pos (decide_eq_true e)]
    · rw [if_neg (fun q => e q.symm), if_neg (by rw [decide_eq_false e]; decide)]), sumN_cnt (P := fun k => decide (lab k = m))]
  by_cases e : lab m = m
  · rw [if_pos (decide_eq_true e)]
    refine hL _ ?_ (cntB_le _ _)
    have h4 : cntB n (fun _ => false) < cntB n (fun j => decide (lab j = m)) := cntB_lt (k := m) rfl (decide_eq_true e) hm (fun _ _ q => by cases q)
    omega
  · rw [if_neg (by rw [decide_eq_false e]; decide), show cntB n (fun j => decide (lab j = m)) = 0 from by
      rw [cntB_c (g := fun _ => false) (fun j hj => decide_eq_false (fun q => e (by rw [← q]; exact (h1 j hj).2)))]
      have : ∀ k, cntB k (fun _ => false) = 0 := fun k => by
        induction k with
        | zero => rfl
        | succ k ih => rw [cntB_s0 rfl]; exact ih
      exact this n, Nat.zero_mul]
theorem lcm12 : ∀ c, c < 13 → 1 ≤ c → c * (27720 / c) = 27720 := by decide +kernel
theorem gs_sum {σ : SG} (hn : gN σ ≤ 12) : sumN (gN σ) (fun k => 27720 / popN (rchN σ k)) = a_groups σ * 27720 := by
  have h0 := lbR_ok (A := adjS σ) adjS_s (n := gN σ) (gN σ)
  rw [groups_eq, sumN_c (g := fun k => 27720 / cntB (gN σ) (fun j => decide (labN σ j = labN σ k))) (fun k hk => by rw [grpSize_eq hn hk])]
  exact sum_lab (fun k hk => ⟨(h0 k hk).1, (lab_eq adjS_s (h0 k hk).1 hk).mpr (h0 k hk).2⟩) (fun c h1 h2 => lcm12 c (by omega) h1)
