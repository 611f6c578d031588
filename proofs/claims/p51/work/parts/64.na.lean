theorem cntB_lt {f g : Nat → Bool} {k : Nat} (hf : f k = false) (hg : g k = true) : ∀ {n : Nat}, k < n → (∀ i, i < n → f i = true → g i = true) → cntB n f < cntB n g
  | 0, h, _ => absurd h (Nat.not_lt_zero k)
  | n + 1, h, hi => by
    rw [cntB_n, cntB_n]
    by_cases e : k = n
    · subst e
      rw [hf, hg, if_neg (by decide), if_pos rfl]
      have := cntB_mono (f := f) (g := g) (n := k) (fun i h2 h3 => hi i (by omega) h3)
      omega
    · have h1 := cntB_lt hf hg (n := n) (by omega) (fun i h2 h3 => hi i (by omega) h3)
      cases c : f n
      · rw [if_neg (by decide)]
        split <;> omega
      · rw [hi n (by omega) c, if_pos rfl]
        omega
/-- what is reached from m in r steps -/
def balN (n : Nat) (A : Nat → Nat → Bool) (m : Nat) : Nat → Nat → Bool
  | 0, k => decide (k = m)
  | r + 1, k => balN n A m r k || anyB n (fun i => balN n A m r i && A i k)
def clsdN (n : Nat) (A : Nat → Nat → Bool) (C : Nat → Bool) : Prop := ∀ i k, i < n → k < n → C i = true → A i k = true → C k = true
theorem bal_s {n : Nat} {A : Nat → Nat → Bool} {m r k : Nat} : balN n A m (r + 1) k = (balN n A m r k || anyB n (fun i => balN n A m r i && A i k)) := rfl
theorem bal_up {n : Nat} {A : Nat → Nat → Bool} {m r k : Nat} (h : balN n A m r k = true) : balN n A m (r + 1) k = true := by rw [bal_s, h]; rfl
theorem bal_st {n : Nat} {A : Nat → Nat → Bool} {m r i k : Nat} (hi : i < n) (h : balN n A m r i = true) (ha : A i k = true) : balN n A m (r + 1) k = true := by
  rw [bal_s]
  exact or_t2 (anyB_t.mpr ⟨i, hi, and_tt h ha⟩)
theorem bal_sub {n : Nat} {A : Nat → Nat → Bool} {m : Nat} {C : Nat → Bool} (hC : clsdN n A C) (hm : C m = true) : ∀ r k, k < n → balN n A m r k = true → C k = true
  | 0, k, hk, h => by rw [show k = m from of_decide_eq_true h]; exact hm
  | r + 1, k, hk, h => by
    rw [bal_s, Bool.or_eq_true] at h
    rcases h with h | h
    · exact bal_sub hC hm r k hk h
    · obtain ⟨i, hi, h2⟩ := anyB_t.mp h
      rw [Bool.and_eq_true] at h2
      exact hC i k hi hk (bal_sub hC hm r i hi h2.1) h2.2
theorem bal_cl {n : Nat} {A : Nat → Nat → Bool} {m : Nat} (hm : m < n) : ∀ r, clsdN n A (balN n A m r) ∨ r + 1 ≤ cntB n (balN n A m r)
  | 0 => Or.inr (by
    have h := cntB_lt (f := fun _ => false) (g := balN n A m 0) (k := m) rfl (decide_eq_true rfl) hm (fun i _ h => by cases h)
    omega)
  | r + 1 => by
    rcases bal_cl hm r with h | h
    · left
      intro i k hi hk h1 h2
      have h3 : balN n A m r i = true := by
        rw [bal_s, Bool.or_eq_true] at h1
        rcases h1 with h1 | h1
        · exact h1
        · obtain ⟨j, hj, h4⟩ := anyB_t.mp h1
          rw [Bool.and_eq_true] at h4
          exact h j i hj hi h4.1 h4.2
      exact bal_up (h i k hi hk h3 h2)
    · by_cases hc : clsdN n A (balN n A m r)
      · left
        intro i k hi hk h1 h2
        have h3 : balN n A m r i = true := by
          rw [bal_s, Bool.or_eq_true] at h1
          rcases h1 with h1 | h1
          · exact h1
          · obtain ⟨j, hj, h4⟩ := anyB_t.mp h1
            rw [Bool.and_eq_true] at h4
            exact hc j i hj hi h4.1 h4.2
        exact bal_up (hc i k hi hk h3 h2)
      · right
        have ⟨i, k, hi, hk, h1, h2, h3⟩ : ∃ i k, i < n ∧ k < n ∧ balN n A m r i = true ∧ A i k = true ∧ balN n A m r k = false := by
          apply Classical.byContradiction
          intro hno
          apply hc
          intro i k hi hk h1 h2
          cases h3 : balN n A m r k
          · exact absurd ⟨i, k, hi, hk, h1, h2, h3⟩ hno
          · rfl
        have := cntB_lt (f := balN n A m r) (g := balN n A m (r + 1)) h3 (bal_st hi h1 h2) hk (fun i _ h => bal_up h)
        omega
/-- whether k is in the group of m -/
def conE (n : Nat) (A : Nat → Nat → Bool) (m k : Nat) : Bool := balN n A m n k
theorem conE_cl {n : Nat} {A : Nat → Nat → Bool} {m : Nat} (hm : m < n) : clsdN n A (conE n A m) := by
  rcases bal_cl (A := A) hm n with h | h
  · exact h
  · have := cntB_le (balN n A m n) n
    omega
theorem bal_le {n : Nat} {A : Nat → Nat → Bool} {m k r : Nat} (h : balN n A m r k = true) : ∀ d, balN n A m (r + d) k = true
  | 0 => h
  | d + 1 => bal_up (bal_le h d)
theorem conE_r {n : Nat} {A : Nat → Nat → Bool} {m : Nat} : conE n A m m = true := by
  have h := bal_le (n := n) (A := A) (m := m) (k := m) (r := 0) (decide_eq_true rfl) n
  rw [Nat.zero_add] at h
  exact h
theorem conE_t {n : Nat} {A : Nat → Nat → Bool} {a b c : Nat} (ha : a < n) (hc : c < n) (h1 : conE n A a b = true) (h2 : conE n A b c = true) : conE n A a c = true :=
  bal_sub (conE_cl ha) h1 n c hc h2
theorem conE_s {n : Nat} {A : Nat → Nat → Bool} (hs : ∀ i j, A i j = A j i) {a b : Nat} (ha : a < n) (hb : b < n) (h : conE n A a b = true) : conE n A b a = true := by
  have hcl : clsdN n A (fun j => conE n A j a) := fun i k hi hk h1 h2 => by
    have h3 : conE n A k i = true := conE_cl hk k i hk hi conE_r (by rw [hs k i]; exact h2)
    exact conE_t hk ha h3 h1
  exact bal_sub (C := fun j => conE n A j a) hcl conE_r n b hb h
/-- the gate's way: rounds over masks -/
theorem pass_in {n : Nat} {A : Nat → Nat → Bool} {M : Nat → Nat} {C : Nat → Bool} (hM : ∀ i, i < n → ∀ j, (M i).testBit j = (decide (j < n) && A i j)) (hC : clsdN n A C) : ∀ i S, i ≤ n → (∀ j, S.testBit j = true → j < n ∧ C j = true) → ∀ j, (passN M i S).testBit j = true → j < n ∧ C j = true
  | 0, S, _, h => h
  | i + 1, S, hi, h => by
    have ih := pass_in hM hC i S (by omega) h
    intro j hj
    unfold passN at hj
    by_cases c : (passN M i S).testBit i = true
    · rw [if_pos c, Nat.testBit_or, Bool.or_eq_true] at hj
      rcases hj with hj | hj
      · exact ih j hj
      · rw [hM i (by omega), Bool.and_eq_true, decide_eq_true_eq] at hj
        exact ⟨hj.1, hC i j (by omega) hj.1 (ih i c).2 hj.2⟩
    · rw [if_neg c] at hj
      exact ih j hj
theorem pass_up {M : Nat → Nat} {j : Nat} : ∀ i S, S.testBit j = true → (passN M i S).testBit j = true
  | 0, S, h => h
  | i + 1, S, h => by
    have ih := pass_up (M := M) i S h
    unfold passN
    split
    · rw [Nat.testBit_or, ih]; rfl
    · exact ih
theorem pass_st {M : Nat → Nat} {j k : Nat} : ∀ i S, k < i → S.testBit k = true → (M k).testBit j = true → (passN M i S).testBit j = true
  | 0, S, h, _, _ => absurd h (Nat.not_lt_zero k)
  | i + 1, S, h, h1, h2 => by
    unfold passN
    by_cases e : k = i
    · subst e
      rw [if_pos (pass_up k S h1), Nat.testBit_or, h2, Bool.or_true]
    · have ih := pass_st (M := M) (j := j) (k := k) i S (by omega) h1 h2
      split
      · rw [Nat.testBit_or, ih]; rfl
      · exact ih
theorem it_bal {n : Nat} {A : Nat → Nat → Bool} {M : Nat → Nat} (hM : ∀ i, i < n → ∀ j, (M i).testBit j = (decide (j < n) && A i j)) {q : Nat} : ∀ r k, k < n → balN n A q r k = true → (itN M n r (2 ^ q)).testBit k = true
  | 0, k, hk, h => by rw [show k = q from of_decide_eq_true h]; show (2 ^ q).testBit q = true; rw [tb_pow, decide_eq_true rfl]
  | r + 1, k, hk, h => by
    rw [bal_s, Bool.or_eq_true] at h
    show (passN M n (itN M n r (2 ^ q))).testBit k = true
    rcases h with h | h
    · exact pass_up _ _ (it_bal hM r k hk h)
    · obtain ⟨i, hi, h2⟩ := anyB_t.mp h
      rw [Bool.and_eq_true] at h2
      exact pass_st _ _ hi (it_bal hM r i hi h2.1) (by rw [hM i hi, decide_eq_true hk, h2.2]; rfl)
theorem it_in {n : Nat} {A : Nat → Nat → Bool} {M : Nat → Nat} (hM : ∀ i, i < n → ∀ j, (M i).testBit j = (decide (j < n) && A i j)) {q : Nat} (hq : q < n) : ∀ r j, (itN M n r (2 ^ q)).testBit j = true → j < n ∧ conE n A q j = true
  | 0, j, h => by
    have h1 : (2 ^ q).testBit j = true := h
    rw [tb_pow, decide_eq_true_eq] at h1
    subst h1
    exact ⟨hq, conE_r⟩
  | r + 1, j, h => pass_in hM (conE_cl hq) n _ (Nat.le_refl n) (it_in hM hq r) j h
theorem it_con {n : Nat} {A : Nat → Nat → Bool} {M : Nat → Nat} (hM : ∀ i, i < n → ∀ j, (M i).testBit j = (decide (j < n) && A i j)) {q : Nat} (hq : q < n) (j : Nat) : (itN M n n (2 ^ q)).testBit j = (decide (j < n) && conE n A q j) := by
  by_cases hj : j < n
  · rw [decide_eq_true hj, Bool.true_and]
    cases h : conE n A q j
    · cases h2 : (itN M n n (2 ^ q)).testBit j
      · rfl
      · rw [(it_in hM hq n j h2).2] at h; cases h
    · exact it_bal hM n j hj h
  · rw [decide_eq_false hj, Bool.false_and]
    cases h2 : (itN M n n (2 ^ q)).testBit j
    · rfl
    · exact absurd (it_in hM hq n j h2).1 hj
/-- the model's way: labels -/
def lbS (A : Nat → Nat → Bool) (k i : Nat) (L : Nat → Nat) : Nat → Nat := if (decide (L i < L k) && A k i) = true then (fun j => if j = k then L i else L j) else L
def lbI (A : Nat → Nat → Bool) (k : Nat) : Nat → (Nat → Nat) → Nat → Nat
  | 0, L => L
  | i + 1, L => lbS A k i (lbI A k i L)
def lbK (A : Nat → Nat → Bool) (n : Nat) : Nat → (Nat → Nat) → Nat → Nat
  | 0, L => L
  | k + 1, L => lbI A k n (lbK A n k L)
def lbR (A : Nat → Nat → Bool) (n : Nat) : Nat → Nat → Nat
  | 0 => fun j => j
  | r + 1 => lbK A n n (lbR A n r)
theorem lbS_le {A : Nat → Nat → Bool} {k i : Nat} {L : Nat → Nat} (j : Nat) : lbS A k i L j ≤ L j := by
  unfold lbS
  by_cases c : (decide (L i < L k) && A k i) = true
  · rw [if_pos c]
    rw [Bool.and_eq_true, decide_eq_true_eq] at c
    show (if j = k then L i else L j) ≤ L j
    by_cases e : j = k
    · rw [if_pos e, e]; omega
    · rw [if_neg e]; omega
  · rw [if_neg c]; exact Nat.le_refl _
theorem lbS_hit {A : Nat → Nat → Bool} {k i : Nat} {L : Nat → Nat} (h : A k i = true) : lbS A k i L k ≤ L i := by
  unfold lbS
  by_cases c : L i < L k
  · rw [if_pos (and_tt (decide_eq_true c) h)]
    show (if k = k then L i else L k) ≤ L i
    rw [if_pos rfl]
    exact Nat.le_refl _
  · rw [if_neg (by rw [decide_eq_false c]; exact fun h => by cases h)]
    omega
theorem lbI_le {A : Nat → Nat → Bool} {k : Nat} {L : Nat → Nat} (j : Nat) : ∀ i, lbI A k i L j ≤ L j
  | 0 => Nat.le_refl _
  | i + 1 => Nat.le_trans (lbS_le j) (lbI_le j i)
theorem lbI_hit {A : Nat → Nat → Bool} {k i : Nat} {L : Nat → Nat} (h : A k i = true) : ∀ g, i < g → lbI A k g L k ≤ L i
  | 0, hg => absurd hg (Nat.not_lt_zero i)
  | g + 1, hg => by
    show lbS A k g (lbI A k g L) k ≤ L i
    by_cases e : i = g
    · subst e
      exact Nat.le_trans (lbS_hit h) (lbI_le i i)
    · exact Nat.le_trans (lbS_le k) (lbI_hit h g (by omega))
theorem lbK_le {A : Nat → Nat → Bool} {n : Nat} {L : Nat → Nat} (j : Nat) : ∀ k, lbK A n k L j ≤ L j
  | 0 => Nat.le_refl _
  | k + 1 => Nat.le_trans (lbI_le j n) (lbK_le j k)
theorem lbK_hit {A : Nat → Nat → Bool} {n k i : Nat} {L : Nat → Nat} (hi : i < n) (h : A k i = true) : ∀ g, k < g → lbK A n g L k ≤ L i
  | 0, hg => absurd hg (Nat.not_lt_zero k)
  | g + 1, hg => by
    show lbI A g n (lbK A n g L) k ≤ L i
    by_cases e : k = g
    · subst e
      exact Nat.le_trans (lbI_hit h n hi) (lbK_le i k)
    · exact Nat.le_trans (lbI_le k n) (lbK_hit hi h g (by omega))
theorem lbR_le {A : Nat → Nat → Bool} {n : Nat} (j : Nat) : ∀ r, lbR A n r j ≤ j
  | 0 => Nat.le_refl _
  | r + 1 => Nat.le_trans (lbK_le j n) (lbR_le j r)
theorem lbR_bal {A : Nat → Nat → Bool} (hs : ∀ i j, A i j = A j i) {n m : Nat} : ∀ r k, k < n → balN n A m r k = true → lbR A n r k ≤ m
  | 0, k, hk, h => Nat.le_of_eq (of_decide_eq_true h)
  | r + 1, k, hk, h => by
    rw [bal_s, Bool.or_eq_true] at h
    rcases h with h | h
    · exact Nat.le_trans (lbK_le k n) (lbR_bal hs r k hk h)
    · obtain ⟨i, hi, h2⟩ := anyB_t.mp h
      rw [Bool.and_eq_true] at h2
      exact Nat.le_trans (lbK_hit hi (by rw [hs k i]; exact h2.2) n hk) (lbR_bal hs r i hi h2.1)
/-- each label is of the group -/
def lbOk (A : Nat → Nat → Bool) (n : Nat) (L : Nat → Nat) : Prop := ∀ k, k < n → L k < n ∧ conE n A (L k) k = true
theorem lbS_ok {A : Nat → Nat → Bool} (hs : ∀ i j, A i j = A j i) {n k i : Nat} {L : Nat → Nat} (hk : k < n) (hi : i < n) (h : lbOk A n L) : lbOk A n (lbS A k i L) := by
  unfold lbS
  by_cases c : (decide (L i < L k) && A k i) = true
  · rw [if_pos c]
    rw [Bool.and_eq_true, decide_eq_true_eq] at c
    intro j hj
    show (if j = k then L i else L j) < n ∧ conE n A (if j = k then L i else L j) j = true
    by_cases e : j = k
    · subst e
      rw [if_pos rfl]
      exact ⟨(h i hi).1, conE_cl (h i hi).1 i j hi hj (h i hi).2 (by rw [hs i j]; exact c.2)⟩
    · rw [if_neg e]; exact h j hj
  · rw [if_neg c]; exact h
theorem lbI_ok {A : Nat → Nat → Bool} (hs : ∀ i j, A i j = A j i) {n k : Nat} {L : Nat → Nat} (hk : k < n) (h : lbOk A n L) : ∀ i, i ≤ n → lbOk A n (lbI A k i L)
  | 0, _ => h
  | i + 1, hi => lbS_ok hs hk (by omega) (lbI_ok hs hk h i (by omega))
theorem lbK_ok {A : Nat → Nat → Bool} (hs : ∀ i j, A i j = A j i) {n : Nat} {L : Nat → Nat} (h : lbOk A n L) : ∀ k, k ≤ n → lbOk A n (lbK A n k L)
  | 0, _ => h
  | k + 1, hk => lbI_ok hs (by omega) (lbK_ok hs h k (by omega)) n (Nat.le_refl n)
theorem lbR_ok {A : Nat → Nat → Bool} (hs : ∀ i j, A i j = A j i) {n : Nat} : ∀ r, lbOk A n (lbR A n r)
  | 0 => fun k hk => ⟨hk, conE_r⟩
  | r + 1 => lbK_ok hs (lbR_ok hs r) n (Nat.le_refl n)
theorem lab_eq {A : Nat → Nat → Bool} (hs : ∀ i j, A i j = A j i) {n a b : Nat} (ha : a < n) (hb : b < n) : lbR A n n a = lbR A n n b ↔ conE n A a b = true := by
  obtain ⟨a1, a2⟩ := lbR_ok hs (n := n) n a ha
  obtain ⟨b1, b2⟩ := lbR_ok hs (n := n) n b hb
  constructor
  · intro h
    rw [← h] at b2
    exact conE_t ha hb (conE_s hs a1 ha a2) b2
  · intro h
    have h1 : lbR A n n b ≤ lbR A n n a := lbR_bal hs n b hb (conE_t a1 hb a2 h)
    have h2 : lbR A n n a ≤ lbR A n n b := lbR_bal hs n a ha (conE_t b1 ha b2 (conE_s hs ha hb h))
    omega
theorem lab_first {A : Nat → Nat → Bool} (hs : ∀ i j, A i j = A j i) {n k : Nat} (hk : k < n) : lbR A n n k = k ↔ ∀ i, i < k → conE n A i k = false := by
  obtain ⟨a1, a2⟩ := lbR_ok hs (n := n) n k hk
  constructor
  · intro h i hi
    cases c : conE n A i k
    · rfl
    · have : lbR A n n k ≤ i := lbR_bal hs n k hk c
      omega
  · intro h
    have hle := lbR_le (A := A) (n := n) k n
    rcases Nat.lt_or_ge (lbR A n n k) k with c | c
    · rw [h _ c] at a2; cases a2
    · omega
abbrev adjS (σ : SG) : Nat → Nat → Bool := adjB (gK σ) (gR σ) (gV σ)
/-- the label of a row -/
def labN (σ : SG) (k : Nat) : Nat := lbR (adjS σ) (gN σ) (gN σ) k
theorem adjS_s {σ : SG} : ∀ i j, adjS σ i j = adjS σ j i := fun _ _ => adjB_symm
theorem conM_t {σ : SG} : ∀ i, i < gN σ → ∀ j, (conM (gN σ) (gK σ) (gR σ) (gV σ) i).testBit j = (decide (j < gN σ) && adjS σ i j) := fun _ _ _ => maskN_t
theorem rchN_t {σ : SG} {q : Nat} (hq : q < gN σ) (j : Nat) : (rchN σ q).testBit j = (decide (j < gN σ) && conE (gN σ) (adjS σ) q j) := it_con conM_t hq j
theorem seenN_t {σ : SG} : ∀ i, i ≤ gN σ → ∀ j, j < gN σ → (seenN σ i).testBit j = anyB i (fun i' => conE (gN σ) (adjS σ) i' j)
  | 0, _, j, _ => by show (0 : Nat).testBit j = false; rw [Nat.zero_testBit]
  | i + 1, hi, j, hj => by
    have ih := seenN_t (σ := σ) i (by omega)
    unfold seenN
    rw [anyB_s]
    by_cases c : (seenN σ i).testBit i = true
    · rw [if_pos c, ih j hj]
      cases h : conE (gN σ) (adjS σ) i j
      · rw [Bool.or_false]
      · rw [Bool.or_true]
        rw [ih i (by omega)] at c
        obtain ⟨i', h1, h2⟩ := anyB_t.mp c
        exact anyB_t.mpr ⟨i', h1, conE_t (by omega) hj h2 h⟩
    · rw [if_neg c, Nat.testBit_or, ih j hj, rchN_t (by omega), decide_eq_true hj, Bool.true_and]
/-- as many groups -/
def a_grpM (σ : SG) : Nat := cntB (gN σ) (fun k => decide (labN σ k = k))
theorem groups_eq {σ : SG} : a_groups σ = a_grpM σ := cntB_c (fun k hk => by
  rw [seenN_t k (by omega) k hk]
  cases c : anyB k (fun i' => conE (gN σ) (adjS σ) i' k)
  · exact (decide_eq_true ((lab_first adjS_s hk).mpr (fun i hi => anyB_f.mp c i hi))).symm
  · refine (decide_eq_false (fun h => ?_)).symm
    rw [anyB_f.mpr (fun i hi => (lab_first adjS_s hk).mp h i hi)] at c
    cases c)
theorem cntB_cut {f : Nat → Bool} {n : Nat} : ∀ {N : Nat}, n ≤ N → cntB N (fun k => decide (k < n) && f k) = cntB n f
  | 0, h => by rw [show n = 0 by omega]; rfl
  | N + 1, h => by
    rcases Nat.lt_or_ge N n with c | c
    · rw [show n = N + 1 by omega]
      exact cntB_c (fun i hi => by rw [decide_eq_true hi]; rfl)
    · rw [cntB_n, cntB_cut c, decide_eq_false (by omega)]
      rfl
/-- as many rows -/
theorem grpSize_eq {σ : SG} (hn : gN σ ≤ 12) {p : Nat} (hp : p < gN σ) : popN (rchN σ p) = cntB (gN σ) (fun k => decide (labN σ k = labN σ p)) := by
  have h1 : popN (rchN σ p) = cntB 12 (fun k => decide (k < gN σ) && conE (gN σ) (adjS σ) p k) := cntB_c (fun k _ => rchN_t hp k)
  rw [h1, cntB_cut hn]
  refine cntB_c (fun k hk => ?_)
  cases c : conE (gN σ) (adjS σ) p k
  · refine (decide_eq_false (fun h => ?_)).symm
    rw [(lab_eq adjS_s hp hk).mp h.symm] at c
    cases c
  · exact (decide_eq_true ((lab_eq adjS_s hp hk).mpr c).symm).symm
