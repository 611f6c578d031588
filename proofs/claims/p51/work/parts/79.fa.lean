/-! p51, mathematics: medians, spreads, outliers; drift -/
theorem insG_cnt {Q : Int32 → Bool} {y : Int32} : ∀ {p : Nat} {f : Nat → Int32}, cntB (p + 1) (fun i => Q (insG p f y i)) = cntB p (fun i => Q (f i)) + (if Q y = true then 1 else 0)
  | 0, f => by
    show 0 + (if Q (upd f 0 y 0) = true then 1 else 0) = 0 + _
    rw [upd_s]
  | p + 1, f => by
    show cntB (p + 1) (fun i => Q (insG (p + 1) f y i)) + (if Q (insG (p + 1) f y (p + 1)) = true then 1 else 0) = (cntB p (fun i => Q (f i)) + (if Q (f p) = true then 1 else 0)) + _
    unfold insG
    by_cases c : y < f p
    · rw [if_pos c, insG_hi (by omega), upd_s, insG_cnt (p := p), cntB_c (f := fun i => Q (upd f (p + 1) (f p) i)) (g := fun i => Q (f i)) (fun i hi => by rw [upd_n (by omega)])]
      omega
    · rw [if_neg c, upd_s]
      rw [cntB_c (f := fun i => Q (upd f (p + 1) y i)) (g := fun i => Q (f i)) (fun i hi => by rw [upd_n (by omega)])]
      rfl
theorem insG_mem {y : Int32} : ∀ {p : Nat} {f : Nat → Int32} {i : Nat}, i ≤ p → insG p f y i = y ∨ ∃ j, j < p ∧ insG p f y i = f j
  | 0, f, i, hi => by
    have : i = 0 := by omega
    subst this
    exact Or.inl upd_s
  | p + 1, f, i, hi => by
    unfold insG
    by_cases c : y < f p
    · rw [if_pos c]
      by_cases e : i = p + 1
      · subst e
        right
        exact ⟨p, by omega, by rw [insG_hi (by omega), upd_s]⟩
      · rcases insG_mem (y := y) (p := p) (f := upd f (p + 1) (f p)) (i := i) (by omega) with h | ⟨j, h1, h2⟩
        · exact Or.inl h
        · exact Or.inr ⟨j, by omega, by rw [h2, upd_n (by omega)]⟩
    · rw [if_neg c]
      by_cases e : i = p + 1
      · subst e; exact Or.inl upd_s
      · exact Or.inr ⟨i, by omega, upd_n (by omega)⟩
def srtd (p : Nat) (f : Nat → Int32) : Prop := ∀ i j, i ≤ j → j < p → f i ≤ f j
theorem insG_srt {y : Int32} : ∀ {p : Nat} {f : Nat → Int32}, srtd p f → srtd (p + 1) (insG p f y)
  | 0, f, h => fun i j h1 h2 => by
    have e1 : i = 0 := by omega
    have e2 : j = 0 := by omega
    subst e1; subst e2
    exact Int32.le_refl _
  | p + 1, f, h => fun i j h1 h2 => by
    unfold insG
    by_cases c : y < f p
    · rw [if_pos c]
      have h' : srtd p (upd f (p + 1) (f p)) := fun a b h3 h4 => by
        rw [upd_n (by omega), upd_n (by omega)]
        exact h a b h3 (by omega)
      by_cases e : j = p + 1
      · subst e
        rw [insG_hi (i := p + 1) (by omega), upd_s]
        by_cases e2 : i = p + 1
        · subst e2
          rw [insG_hi (by omega), upd_s]
          exact Int32.le_refl _
        · rcases insG_mem (y := y) (p := p) (f := upd f (p + 1) (f p)) (i := i) (by omega) with h3 | ⟨q, h3, h4⟩
          · rw [h3]; exact Int32.le_of_lt c
          · rw [h4, upd_n (by omega)]; exact h q p (by omega) (by omega)
      · exact insG_srt h' i j h1 (by omega)
    · rw [if_neg c]
      by_cases e : j = p + 1
      · subst e
        rw [upd_s]
        by_cases e2 : i = p + 1
        · subst e2; rw [upd_s]; exact Int32.le_refl _
        · rw [upd_n e2]
          exact Int32.le_trans (h i p (by omega) (by omega)) (Int32.not_lt.mp c)
      · rw [upd_n e, upd_n (by omega)]
        exact h i j h1 (by omega)
theorem srtG_srt {f0 : Nat → Int32} {P : Nat → Bool} {y : Nat → Int32} : ∀ n, srtd (srtG f0 P y n).1 (srtG f0 P y n).2
  | 0 => fun i j _ h => absurd h (Nat.not_lt_zero j)
  | n + 1 => by
    unfold srtG
    by_cases c : P n = true
    · rw [if_pos c]; exact insG_srt (srtG_srt n)
    · rw [if_neg c]; exact srtG_srt n
theorem srtG_cnt {f0 : Nat → Int32} {P : Nat → Bool} {y : Nat → Int32} {Q : Int32 → Bool} : ∀ n, cntB (srtG f0 P y n).1 (fun i => Q ((srtG f0 P y n).2 i)) = cntB n (fun i => P i && Q (y i))
  | 0 => rfl
  | n + 1 => by
    have e : srtG f0 P y (n + 1) = if P n = true then ((srtG f0 P y n).1 + 1, insG (srtG f0 P y n).1 (srtG f0 P y n).2 (y n)) else srtG f0 P y n := rfl
    have ih := srtG_cnt (f0 := f0) (P := P) (y := y) (Q := Q) n
    show _ = cntB n (fun i => P i && Q (y i)) + (if (P n && Q (y n)) = true then 1 else 0)
    rw [← ih, e]
    by_cases c : P n = true
    · rw [if_pos c, c]
      exact insG_cnt
    · rw [if_neg c, show P n = false by simpa using c]
      rfl
theorem cntB_head {f : Nat → Bool} {h : Nat} : ∀ {p : Nat}, (∀ i, h ≤ i → i < p → f i = false) → cntB p f ≤ h
  | 0, _ => Nat.zero_le _
  | p + 1, hf => by
    have ih := cntB_head (f := f) (h := h) (p := p) (fun i h1 h2 => hf i h1 (by omega))
    rcases Nat.lt_or_ge p h with c | c
    · have := cntB_le f (p + 1); omega
    · rw [cntB_s0 (hf p c (by omega))]; exact ih
theorem cntB_tail {f : Nat → Bool} {h : Nat} : ∀ {p : Nat}, (∀ i, i < h → i < p → f i = false) → cntB p f ≤ p - h
  | 0, _ => Nat.zero_le _
  | p + 1, hf => by
    have ih := cntB_tail (f := f) (h := h) (p := p) (fun i h1 h2 => hf i h1 (by omega))
    rcases Nat.lt_or_ge p h with c | c
    · rw [cntB_s0 (hf p c (by omega))]; omega
    · cases e : f p
      · rw [cntB_s0 e]; omega
      · rw [cntB_s1 e]; omega
theorem med_of {P : Nat → Bool} {y : Nat → Int32} {n : Nat} (h : ¬ cntB n P = 0) : (∃ i, i < n ∧ P i = true ∧ y i = medG P y n) ∧ 2 * cntB n (fun i => P i && decide (y i < medG P y n)) < cntB n P ∧ 2 * cntB n (fun i => P i && decide (medG P y n < y i)) ≤ cntB n P := by
  have hp := srtG_n (f0 := fun _ => 0) (P := P) (y := y) n
  have hs := srtG_srt (f0 := fun _ => 0) (P := P) (y := y) n
  have hm : medG P y n = (srtG (fun _ => 0) P y n).2 ((cntB n P - 1) / 2) := by
    unfold medG midG
    rw [hp, if_neg h]
  have hlt : (cntB n P - 1) / 2 < (srtG (fun _ => 0) P y n).1 := by rw [hp]; omega
  refine ⟨?_, ?_, ?_⟩
  · have h1 := srtG_cnt (f0 := fun _ => 0) (P := P) (y := y) (Q := fun x => decide (x = medG P y n)) n
    cases h2 : anyB n (fun i => P i && decide (y i = medG P y n))
    · exfalso
      have h3 : cntB n (fun i => P i && decide (y i = medG P y n)) = 0 := by
        have := cntB_head (f := fun i => P i && decide (y i = medG P y n)) (h := 0) (p := n) (fun i _ hi => anyB_f.mp h2 i hi)
        omega
      have h4 : cntB (srtG (fun _ => 0) P y n).1 (fun _ => false) < cntB (srtG (fun _ => 0) P y n).1 (fun i => decide ((srtG (fun _ => 0) P y n).2 i = medG P y n)) := cntB_lt (k := (cntB n P - 1) / 2) rfl (decide_eq_true hm.symm) hlt (fun _ _ q => by cases q)
      have h1' : cntB (srtG (fun _ => 0) P y n).1 (fun i => decide ((srtG (fun _ => 0) P y n).2 i = medG P y n)) = cntB n (fun i => P i && decide (y i = medG P y n)) := h1
      omega
    · obtain ⟨i, hi, h3⟩ := anyB_t.mp h2
      rw [Bool.and_eq_true, decide_eq_true_eq] at h3
      exact ⟨i, hi, h3⟩
  · have h1 : cntB (srtG (fun _ => 0) P y n).1 (fun i => decide ((srtG (fun _ => 0) P y n).2 i < medG P y n)) = cntB n (fun i => P i && decide (y i < medG P y n)) := srtG_cnt (Q := fun x => decide (x < medG P y n)) n
    have h2 := cntB_head (f := fun i => decide ((srtG (fun _ => 0) P y n).2 i < medG P y n)) (h := (cntB n P - 1) / 2) (p := (srtG (fun _ => 0) P y n).1) (fun i h3 h4 => decide_eq_false (by rw [hm]; exact Int32.not_lt.mpr (hs _ _ h3 h4)))
    omega
  · have h1 : cntB (srtG (fun _ => 0) P y n).1 (fun i => decide (medG P y n < (srtG (fun _ => 0) P y n).2 i)) = cntB n (fun i => P i && decide (medG P y n < y i)) := srtG_cnt (Q := fun x => decide (medG P y n < x)) n
    have h2 := cntB_tail (f := fun i => decide (medG P y n < (srtG (fun _ => 0) P y n).2 i)) (h := (cntB n P - 1) / 2 + 1) (p := (srtG (fun _ => 0) P y n).1) (fun i h3 h4 => decide_eq_false (by rw [hm]; exact Int32.not_lt.mpr (hs _ _ (by omega) hlt)))
    omega
theorem ne_1002 {x : Int32} (h : okV x) : ¬ x = -1002 := fun e => by
  subst e
  unfold okV at h
  exact absurd h (by decide)
theorem med_ok {σ : SG} (ok : okS σ) {c : Nat} (hc : c < 5) (h : ¬ prsN σ c = 0) : okV (medN σ c) := by
  obtain ⟨⟨i, h1, h2, h3⟩, -⟩ := med_of (P := fun i => pres (gV σ i c)) (y := fun i => gV σ i c) h
  unfold medN
  rw [← h3]
  exact ok.2.2.2.2.1 i h1 c hc
theorem dist_pos : ∀ k, k < 201 → ∀ j, j < 201 → 0 ≤ dist (nI k - 100) (nI j - 100) := by decide +kernel
theorem spr_pos {σ : SG} (ok : okS σ) {c : Nat} (hc : c < 5) (h : ¬ prsN σ c = 0) : 0 ≤ sprN σ c (medN σ c) := by
  obtain ⟨k, k1, k2⟩ := okV_nat (med_ok ok hc h)
  obtain ⟨⟨i, h1, h2, h3⟩, -⟩ := med_of (P := fun i => pres (gV σ i c)) (y := fun i => dist (gV σ i c) (medN σ c)) h
  obtain ⟨j, j1, j2⟩ := okV_nat (ok.2.2.2.2.1 i h1 c hc)
  unfold sprN
  rw [← h3, k2, j2]
  exact dist_pos j (by omega) k (by omega)
/-- drift -/
theorem bkt_in : ∀ k, k ≤ 200 → ∃ b, b < 11 ∧ bktG (nI k - 100) = nI b := by
  have h : ∀ k, k < 201 → (decide (0 ≤ bktG (nI k - 100)) && decide (bktG (nI k - 100) ≤ nI 10)) = true := by decide +kernel
  intro k hk
  obtain ⟨c, h1, h2⟩ := (rng_t (n := 10) (by decide)).mp (h k (by omega))
  exact ⟨c, h1, h2⟩
theorem bkt_sum {y : Nat → Int32} : ∀ {n : Nat}, (∀ i, i < n → okV (y i)) → sumN 11 (fun b => cntB n (fun i => decide (bktG (y i) = nI b))) = n
  | 0, _ => sumN_0 (n := 11)
  | n + 1, h => by
    show sumN 11 (fun b => cntB n (fun i => decide (bktG (y i) = nI b)) + (if decide (bktG (y n) = nI b) = true then 1 else 0)) = n + 1
    rw [sumN_add, bkt_sum (fun i hi => h i (by omega))]
    obtain ⟨k, k1, k2⟩ := okV_nat (h n (by omega))
    obtain ⟨b, b1, b2⟩ := bkt_in k k1
    rw [sumN_c (g := fun q => if q = b then 1 else 0) (fun q hq => by
      rw [k2, b2]
      by_cases e : q = b
      · rw [if_pos e, if_pos (decide_eq_true (by rw [e]))]
      · rw [if_neg e, if_neg (by rw [decide_eq_false (fun z => e ((nI_eq (by omega) (by omega)).mp z).symm)]; decide)]), sumN_one b1]
theorem abs_le : ∀ x, x < 145 → ∀ y, y < 145 → ∃ t, t ≤ x + y ∧ absI (nI x - nI y) = nI t := by
  intro x hx y hy
  rcases Nat.lt_or_ge x y with h | h
  · refine ⟨y - x, by omega, ?_⟩
    unfold absI
    rw [if_neg (Int32.not_le.mpr (pk_sneg (by omega) h)), Int32.zero_sub, Int32.neg_sub, pk_sub (by omega)]
  · refine ⟨x - y, by omega, ?_⟩
    unfold absI
    rw [pk_sub h, if_pos (nI_pos' (by omega))]
theorem sumI_le {f : Nat → Int32} {u : Nat → Nat} : ∀ n, (∀ b, b < n → ∃ t, t ≤ u b ∧ f b = nI t) → ∃ S, S ≤ sumN n u ∧ sumI f n = nI S
  | 0, _ => ⟨0, Nat.le_refl 0, rfl⟩
  | n + 1, h => by
    obtain ⟨S, h1, h2⟩ := sumI_le n (fun b hb => h b (by omega))
    obtain ⟨t, h3, h4⟩ := h n (by omega)
    refine ⟨S + t, Nat.add_le_add h1 h3, ?_⟩
    show sumI f n + f n = _
    rw [h2, h4, nI_add]
theorem sumN_mul {f : Nat → Nat} {a : Nat} : ∀ {n : Nat}, sumN n (fun i => f i * a) = sumN n f * a
  | 0 => (Nat.zero_mul a).symm
  | n + 1 => by
    show sumN n (fun i => f i * a) + f n * a = (sumN n f + f n) * a
    rw [sumN_mul, Nat.add_mul]
theorem drf_in {σ : SG} (ok : okS σ) (hp : prfS σ) {c : Nat} (hc : c < 5) (hn0 : ¬ gN σ = 0) (hp0 : ¬ gP σ = 0) : ∃ d, d ≤ 1000 ∧ drfN σ c = nI d := by
  obtain ⟨t, t1, t2⟩ := hp c hc
  have hs := bkt_sum (y := fun i => gV σ i c) (n := gN σ) (fun i hi => ok.2.2.2.2.1 i hi c hc)
  have tb : ∀ b, b < 11 → t b ≤ 12 := fun b hb => by
    have hle : ∀ {n : Nat} {f : Nat → Nat} {b : Nat}, b < n → f b ≤ sumN n f := fun {n f b} hb => by
      induction n with
      | zero => exact absurd hb (Nat.not_lt_zero b)
      | succ n ih =>
        show f b ≤ sumN n f + f n
        by_cases e : b = n
        · subst e; omega
        · have := ih (by omega); omega
    have := hle (f := t) hb
    have := ok.2.2.2.1
    omega
  obtain ⟨S, h1, h2⟩ := sumI_le (f := drfB σ c) (u := fun b => bktN σ c b * gP σ + t b * gN σ) 11 (fun b hb => by
    have hb2 : bktN σ c b ≤ 12 := Nat.le_trans (cntB_le _ _) ok.1
    have e1 : bktN σ c b * gP σ ≤ 12 * 12 := Nat.mul_le_mul hb2 ok.2.2.2.1
    have e2 : t b * gN σ ≤ 12 * 12 := Nat.mul_le_mul (tb b hb) ok.1
    unfold drfB
    rw [t1 b hb, pk_mul, pk_mul]
    exact abs_le _ (by omega) _ (by omega))
  rw [sumN_add, sumN_mul, sumN_mul, t2, show sumN 11 (bktN σ c) = gN σ from hs] at h1
  have hd0 : 0 < 2 * gN σ * gP σ := Nat.mul_pos (Nat.mul_pos (by decide) (by omega)) (by omega)
  have hd : 2 * gN σ * gP σ ≤ 2 * 12 * 12 := Nat.mul_le_mul (Nat.mul_le_mul (Nat.le_refl 2) ok.1) ok.2.2.2.1
  have hS : S ≤ 2 * gN σ * gP σ := by
    have : gN σ * gP σ + gP σ * gN σ = 2 * gN σ * gP σ := by rw [Nat.mul_comm (gP σ) (gN σ), Nat.mul_assoc, Nat.two_mul]
    omega
  refine ⟨1000 * S / (2 * gN σ * gP σ), ?_, ?_⟩
  · refine Nat.div_le_of_le_mul ?_
    rw [Nat.mul_comm (2 * gN σ * gP σ) 1000]
    exact Nat.mul_le_mul_left 1000 hS
  · unfold drfN
    rw [h2, show (1000 : Int32) = nI 1000 from rfl, show (2 : Int32) = nI 2 from rfl, pk_mul, pk_mul, pk_mul, pk_div (by omega) hd0 (by omega)]
theorem mst_max {d : Nat → Int32} (h0 : (-1 : Int32) < d 0) : ∀ c, (mstG d (c + 1)).1 < c + 1 ∧ ∀ q, q < c + 1 → d q ≤ (mstG d (c + 1)).2
  | 0 => by
    rw [mst_1 h0]
    exact ⟨Nat.lt_succ_self 0, fun q hq => by
      have : q = 0 := by omega
      subst this; exact Int32.le_refl _⟩
  | c + 1 => by
    obtain ⟨h1, h2⟩ := mst_max h0 c
    rw [mst_s (c := c + 1)]
    by_cases e : (mstG d (c + 1)).2 < d (c + 1)
    · rw [if_pos e]
      refine ⟨Nat.lt_succ_self _, fun q hq => ?_⟩
      by_cases e2 : q = c + 1
      · subst e2; exact Int32.le_refl _
      · exact Int32.le_trans (h2 q (by omega)) (Int32.le_of_lt e)
    · rw [if_neg e]
      refine ⟨by omega, fun q hq => ?_⟩
      by_cases e2 : q = c + 1
      · subst e2; exact Int32.not_lt.mp e
      · exact h2 q (by omega)
