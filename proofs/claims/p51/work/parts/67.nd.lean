theorem tb_out {k n i : Nat} (h : k < 2 ^ n) (hi : n ≤ i) : k.testBit i = false := by
  cases c : k.testBit i
  · rfl
  · have := tb_lt h c; omega
theorem tb_ext {n a b : Nat} (ha : a < 2 ^ n) (hb : b < 2 ^ n) (h : ∀ i, i < n → a.testBit i = b.testBit i) : a = b := Nat.eq_of_testBit_eq (fun i => by
  rcases Nat.lt_or_ge i n with c | c
  · exact h i c
  · rw [tb_out ha c, tb_out hb c])
theorem cntB_rev : ∀ {n : Nat} {f : Nat → Bool}, cntB n (fun i => f (n - 1 - i)) = cntB n f
  | 0, _ => rfl
  | n + 1, f => by
    have h : cntB (n + 1) (fun i => f (n + 1 - 1 - i)) = cntB 1 (fun i => f (n + 1 - 1 - i)) + cntB n (fun i => f (n + 1 - 1 - (1 + i))) := by
      rw [show n + 1 = 1 + n by omega, cntB_add]
    rw [h, cntB_n (n := n)]
    have h2 : cntB n (fun i => f (n + 1 - 1 - (1 + i))) = cntB n f := by
      rw [← cntB_rev (n := n) (f := f)]
      exact cntB_c (fun i _ => by rw [show n + 1 - 1 - (1 + i) = n - 1 - i by omega])
    rw [h2]
    show 0 + (if f (n + 1 - 1 - 0) = true then 1 else 0) + cntB n f = _
    rw [show n + 1 - 1 - 0 = n by omega]
    omega
theorem rvM_ltn {n : Nat} {f : Nat → Bool} : ∀ i, i ≤ n → rvM n f i < 2 ^ n
  | 0, _ => Nat.two_pow_pos n
  | i + 1, h => by
    show rvM n f i ||| (if f i = true then 2 ^ (n - 1 - i) else 0) < 2 ^ n
    refine Nat.or_lt_two_pow (rvM_ltn i (by omega)) ?_
    split
    · exact Nat.pow_lt_pow_right (by decide) (by omega)
    · exact Nat.two_pow_pos n
/-- turned round: row 0 highest -/
def rvF (n k : Nat) : Nat := rvM n (fun i => k.testBit i) n
theorem rvF_lt {n k : Nat} : rvF n k < 2 ^ n := rvM_ltn n (Nat.le_refl n)
theorem rvF_t {n k j : Nat} (hj : j < n) : (rvF n k).testBit (n - 1 - j) = k.testBit j := by
  unfold rvF
  rw [rvM_t hj n (Nat.le_refl n), decide_eq_true hj]
  rfl
theorem rvF_u {n k k' : Nat} (h' : k' < 2 ^ n) (h : ∀ j, j < n → k'.testBit (n - 1 - j) = k.testBit j) : rvF n k = k' := tb_ext rvF_lt h' (fun i hi => by
  have h1 := rvF_t (k := k) (show n - 1 - i < n by omega)
  have h2 := h (n - 1 - i) (by omega)
  rw [show n - 1 - (n - 1 - i) = i by omega] at h1 h2
  rw [h1, h2])
abbrev cnN (n k : Nat) : Nat := cntB n (fun i => k.testBit i)
theorem cnN_rv {n k : Nat} : cnN n (rvF n k) = cnN n k := by
  show cntB n (fun i => (rvF n k).testBit i) = _
  rw [← cntB_rev]
  exact cntB_c (fun i hi => rvF_t hi)
theorem pop_cn {n k : Nat} (hn : n ≤ 12) (h : k < 2 ^ n) : popN k = cnN n k := by
  rw [show cnN n k = cntB 12 (fun i => decide (i < n) && k.testBit i) from (cntB_cut hn).symm]
  exact cntB_c (fun i _ => by
    by_cases c : i < n
    · rw [decide_eq_true c]; rfl
    · rw [decide_eq_false c, tb_out h (by omega)]; rfl)
/-- the first of the fewest, of the sets from a on -/
def scN (n : Nat) (P : Nat → Bool) (a b : Nat) : Nat → Nat
  | 0 => b
  | m + 1 => if (decide (cnN n (a + m) < cnN n (scN n P a b m)) && P (a + m)) = true then a + m else scN n P a b m
theorem scN_add {n : Nat} {P : Nat → Bool} {a b m : Nat} : ∀ m', scN n P a b (m + m') = scN n P (a + m) (scN n P a b m) m'
  | 0 => rfl
  | m' + 1 => by
    show (if (decide (cnN n (a + (m + m')) < cnN n (scN n P a b (m + m'))) && P (a + (m + m'))) = true then a + (m + m') else scN n P a b (m + m')) = (if (decide (cnN n (a + m + m') < cnN n (scN n P (a + m) (scN n P a b m) m')) && P (a + m + m')) = true then a + m + m' else scN n P (a + m) (scN n P a b m) m')
    rw [scN_add m', Nat.add_assoc]
theorem scN_no {n : Nat} {P : Nat → Bool} {a b : Nat} : ∀ m, (∀ i, i < m → cnN n b ≤ cnN n (a + i) ∨ P (a + i) = false) → scN n P a b m = b
  | 0, _ => rfl
  | m + 1, h => by
    have ih := scN_no (n := n) (P := P) (a := a) (b := b) m (fun i hi => h i (by omega))
    show (if (decide (cnN n (a + m) < cnN n (scN n P a b m)) && P (a + m)) = true then a + m else scN n P a b m) = b
    rw [ih]
    refine if_neg ?_
    rcases h m (by omega) with c | c
    · rw [decide_eq_false (by omega)]; exact fun h => by cases h
    · rw [c, Bool.and_false]; exact fun h => by cases h
theorem scN_min {n : Nat} {P : Nat → Bool} {a b : Nat} : ∀ m, cnN n (scN n P a b m) ≤ cnN n b ∧ (∀ i, i < m → P (a + i) = true → cnN n (scN n P a b m) ≤ cnN n (a + i)) ∧ (scN n P a b m = b ∨ (P (scN n P a b m) = true ∧ scN n P a b m < a + m))
  | 0 => ⟨Nat.le_refl _, fun i hi => absurd hi (Nat.not_lt_zero i), Or.inl rfl⟩
  | m + 1 => by
    obtain ⟨h1, h2, h3⟩ := scN_min (n := n) (P := P) (a := a) (b := b) m
    have e : scN n P a b (m + 1) = if (decide (cnN n (a + m) < cnN n (scN n P a b m)) && P (a + m)) = true then a + m else scN n P a b m := rfl
    by_cases c : (decide (cnN n (a + m) < cnN n (scN n P a b m)) && P (a + m)) = true
    · rw [e, if_pos c]
      rw [Bool.and_eq_true, decide_eq_true_eq] at c
      refine ⟨by omega, fun i hi hp => ?_, Or.inr ⟨c.2, by omega⟩⟩
      by_cases q : i = m
      · rw [q]; exact Nat.le_refl _
      · have := h2 i (by omega) hp; omega
    · rw [e, if_neg c]
      refine ⟨h1, fun i hi hp => ?_, h3.imp id (fun h => ⟨h.1, by omega⟩)⟩
      by_cases q : i = m
      · subst q
        rw [hp, Bool.and_true, decide_eq_true_eq] at c
        omega
      · exact h2 i (by omega) hp
/-- the rows below p that stay are good, and don't conflict -/
def okP (bd : Nat → Bool) (ad : Nat → Nat → Bool) (p : Nat) (r : Nat → Bool) : Prop := ∀ i, i < p → r i = false → bd i = false ∧ ∀ j, j < i → r j = false → ad i j = false
theorem okP_c {bd : Nat → Bool} {ad : Nat → Nat → Bool} {p : Nat} {r r' : Nat → Bool} (h : ∀ i, i < p → r i = r' i) : okP bd ad p r → okP bd ad p r' := fun k i hi hr => by
  obtain ⟨h1, h2⟩ := k i hi (by rw [h i hi]; exact hr)
  exact ⟨h1, fun j hj hr2 => h2 j hj (by rw [h j (by omega)]; exact hr2)⟩
theorem okP_lo {bd : Nat → Bool} {ad : Nat → Nat → Bool} {p q : Nat} {r : Nat → Bool} (hq : q ≤ p) (h : okP bd ad p r) : okP bd ad q r := fun i hi => h i (by omega)
theorem okP_s {bd : Nat → Bool} {ad : Nat → Nat → Bool} {p : Nat} {r : Nat → Bool} (h : okP bd ad p r) (h2 : r p = false → bd p = false ∧ ∀ j, j < p → r j = false → ad p j = false) : okP bd ad (p + 1) r := fun i hi hr => by
  by_cases e : i = p
  · subst e; exact h2 hr
  · exact h i (by omega) hr
theorem bits_at {R g t p : Nat} (ht : t < 2 ^ g) {i : Nat} (hi : i < p) : (R * 2 ^ g + t).testBit (p + g - 1 - i) = R.testBit (p - 1 - i) := by
  rw [Nat.mul_comm, Nat.testBit_two_pow_mul_add _ ht, if_neg (by omega), show p + g - 1 - i - g = p - 1 - i by omega]
theorem cn_at {R g t p : Nat} (ht : t < 2 ^ g) : cnN p R ≤ cnN (p + g) (R * 2 ^ g + t) := by
  show _ ≤ cntB (p + g) _
  rw [Nat.add_comm p g, cntB_add]
  refine Nat.le_trans (Nat.le_of_eq (cntB_c (fun i _ => ?_))) (Nat.le_add_left _ _)
  show R.testBit i = (R * 2 ^ g + t).testBit (g + i)
  rw [Nat.mul_comm, Nat.testBit_two_pow_mul_add _ ht, if_neg (by omega), show g + i - g = i by omega]
theorem tb2_0 (R : Nat) : (2 * R).testBit 0 = false := by rw [Nat.testBit_zero]; exact decide_eq_false (by omega)
theorem tb2_1 (R : Nat) : (2 * R + 1).testBit 0 = true := by rw [Nat.testBit_zero]; exact decide_eq_true (by omega)
theorem tb2_s (R i : Nat) : (2 * R).testBit (i + 1) = R.testBit i := by rw [Nat.testBit_succ, show 2 * R / 2 = R by omega]
theorem tb2_s1 (R i : Nat) : (2 * R + 1).testBit (i + 1) = R.testBit i := by rw [Nat.testBit_succ, show (2 * R + 1) / 2 = R by omega]
theorem bfN_ltn {B : Nat} {M : Nat → Nat} {n : Nat} : ∀ (g p rem best : Nat), p + g = n → rem < 2 ^ p → best < 2 ^ n → bfN B M g p rem best < 2 ^ n
  | 0, p, rem, best, h, hr, hb => by
    show (if popN best ≤ popN rem then best else rem) < 2 ^ n
    split
    · exact hb
    · rw [← h]; exact hr
  | g + 1, p, rem, best, h, hr, hb => by
    show (if popN best ≤ popN rem then best else bfN B M g (p + 1) (rem ||| 2 ^ p) (if stayN B M p rem = true then bfN B M g (p + 1) rem best else best)) < 2 ^ n
    have h1 : rem < 2 ^ (p + 1) := Nat.lt_of_lt_of_le hr (Nat.pow_le_pow_right (by decide) (by omega))
    have h2 : rem ||| 2 ^ p < 2 ^ (p + 1) := Nat.or_lt_two_pow h1 (Nat.pow_lt_pow_right (by decide) (by omega))
    split
    · exact hb
    · refine bfN_ltn g (p + 1) _ _ (by omega) h2 ?_
      split
      · exact bfN_ltn g (p + 1) _ _ (by omega) h1 hb
      · exact hb
/-- row after row is set after set -/
theorem bf_sc {B : Nat} {M : Nat → Nat} {bd : Nat → Bool} {ad : Nat → Nat → Bool} {n : Nat} {P : Nat → Bool} (hn : n ≤ 12) (hB : ∀ i, i < n → B.testBit i = bd i) (hM : ∀ i, i < n → ∀ j, j < i → (M i).testBit j = ad i j)
    (hP : ∀ k, k < 2 ^ n → (P k = true ↔ okP bd ad n (fun i => k.testBit (n - 1 - i)))) : ∀ (g p rem R best : Nat), p + g = n → rem < 2 ^ p → R < 2 ^ p → best < 2 ^ n → (∀ i, i < p → R.testBit (p - 1 - i) = rem.testBit i) → okP bd ad p (fun i => rem.testBit i) →
    rvF n (bfN B M g p rem best) = scN n P (R * 2 ^ g) (rvF n best) (2 ^ g)
  | 0, p, rem, R, best, h, hr, hR, hb, hRv, hok => by
    have hpn : p = n := by omega
    subst hpn
    have e1 : rvF p rem = R := rvF_u hR hRv
    have e2 : P R = true := (hP R hR).mpr (okP_c (fun i hi => (hRv i hi).symm) hok)
    show rvF p (if popN best ≤ popN rem then best else rem) = (if (decide (cnN p (R * 2 ^ 0 + 0) < cnN p (rvF p best)) && P (R * 2 ^ 0 + 0)) = true then R * 2 ^ 0 + 0 else rvF p best)
    rw [show R * 2 ^ 0 + 0 = R by rw [Nat.pow_zero, Nat.mul_one, Nat.add_zero], e2, Bool.and_true, cnN_rv, pop_cn hn hb, pop_cn hn hr, show cnN p R = cnN p rem by rw [← e1, cnN_rv]]
    by_cases c : cnN p best ≤ cnN p rem
    · rw [if_pos c, if_neg (by rw [decide_eq_false (by omega)]; exact fun h => by cases h)]
    · rw [if_neg c, if_pos (decide_eq_true (by omega)), e1]
  | g + 1, p, rem, R, best, h, hr, hR, hb, hRv, hok => by
    have hpn : rem < 2 ^ n := Nat.lt_of_lt_of_le hr (Nat.pow_le_pow_right (by decide) (by omega))
    have hcr : cnN p R = cnN p rem := by
      rw [← rvF_u hR hRv, cnN_rv]
    have hcn : popN rem = cnN p rem := pop_cn (by omega) hr
    have hcb : popN best = cnN n (rvF n best) := by rw [cnN_rv, pop_cn hn hb]
    show rvF n (if popN best ≤ popN rem then best else bfN B M g (p + 1) (rem ||| 2 ^ p) (if stayN B M p rem = true then bfN B M g (p + 1) rem best else best)) = _
    by_cases c : popN best ≤ popN rem
    · rw [if_pos c]
      refine (scN_no _ (fun i hi => Or.inl ?_)).symm
      have := cn_at (R := R) (p := p) hi
      rw [h] at this
      omega
    · rw [if_neg c]
      have h1 : rem < 2 ^ (p + 1) := Nat.lt_of_lt_of_le hr (Nat.pow_le_pow_right (by decide) (by omega))
      have h2 : rem ||| 2 ^ p < 2 ^ (p + 1) := Nat.or_lt_two_pow h1 (Nat.pow_lt_pow_right (by decide) (by omega))
      have hR1 : 2 * R < 2 ^ (p + 1) := by rw [Nat.pow_succ]; omega
      have hR2 : 2 * R + 1 < 2 ^ (p + 1) := by rw [Nat.pow_succ]; omega
      have rp : rem.testBit p = false := tb_out hr (Nat.le_refl p)
      have hv1 : ∀ i, i < p + 1 → (2 * R).testBit (p + 1 - 1 - i) = rem.testBit i := fun i hi => by
        by_cases e : i = p
        · subst e; rw [show i + 1 - 1 - i = 0 by omega, tb2_0, rp]
        · rw [show p + 1 - 1 - i = (p - 1 - i) + 1 by omega, tb2_s]; exact hRv i (by omega)
      have hv2 : ∀ i, i < p + 1 → (2 * R + 1).testBit (p + 1 - 1 - i) = (rem ||| 2 ^ p).testBit i := fun i hi => by
        rw [Nat.testBit_or, tb_pow]
        by_cases e : i = p
        · subst e; rw [show i + 1 - 1 - i = 0 by omega, tb2_1, decide_eq_true rfl, Bool.or_true]
        · rw [show p + 1 - 1 - i = (p - 1 - i) + 1 by omega, tb2_s1, decide_eq_false (fun q => e q.symm), Bool.or_false]; exact hRv i (by omega)
      have hok2 : okP bd ad (p + 1) (fun i => (rem ||| 2 ^ p).testBit i) := okP_s (okP_c (fun i hi => by
        show rem.testBit i = (rem ||| 2 ^ p).testBit i
        rw [Nat.testBit_or, tb_pow, decide_eq_false (by omega), Bool.or_false]) hok) (fun q => by
        exfalso
        have q2 : (rem ||| 2 ^ p).testBit p = false := q
        rw [Nat.testBit_or, tb_pow, decide_eq_true rfl, Bool.or_true] at q2
        cases q2)
      have ex : R * 2 ^ (g + 1) = 2 * R * 2 ^ g := by rw [Nat.pow_succ, Nat.mul_comm (2 ^ g) 2, ← Nat.mul_assoc, Nat.mul_comm R 2]
      have ex2 : 2 * R * 2 ^ g + 2 ^ g = (2 * R + 1) * 2 ^ g := by rw [Nat.add_mul, Nat.one_mul]
      have first : rvF n (if stayN B M p rem = true then bfN B M g (p + 1) rem best else best) = scN n P (2 * R * 2 ^ g) (rvF n best) (2 ^ g) := by
        by_cases s : stayN B M p rem = true
        · rw [if_pos s]
          refine bf_sc hn hB hM hP g (p + 1) rem (2 * R) best (by omega) h1 hR1 hb hv1 (okP_s hok (fun _ => ?_))
          unfold stayN at s
          rw [Bool.and_eq_true] at s
          refine ⟨?_, fun j hj hr2 => ?_⟩
          · rw [← hB p (by omega)]
            cases e : B.testBit p
            · rfl
            · rw [e] at s; exact absurd s.1 (by decide)
          · have := allB_t.mp s.2 j hj
            rw [hM p (by omega) j hj, show rem.testBit j = false from hr2, Bool.or_false] at this
            cases e : ad p j
            · rfl
            · rw [e] at this; cases this
        · rw [if_neg s]
          refine (scN_no _ (fun i hi => Or.inr ?_)).symm
          cases e : P (2 * R * 2 ^ g + i)
          · rfl
          · exfalso
            have hlt : 2 * R * 2 ^ g + i < 2 ^ n := by
              have q1 : (2 * R + 1) * 2 ^ g ≤ 2 ^ (p + 1) * 2 ^ g := Nat.mul_le_mul_right _ (Nat.le_of_lt hR2)
              rw [← Nat.pow_add, show p + 1 + g = n by omega, ← ex2] at q1
              omega
            have ok9 := (hP _ hlt).mp e
            have bt9 : ∀ i', i' < p + 1 → (2 * R * 2 ^ g + i).testBit (n - 1 - i') = rem.testBit i' := fun i' hi' => by
              rw [show n - 1 - i' = p + 1 + g - 1 - i' by omega, bits_at hi hi']
              exact hv1 i' hi'
            have ok8 := okP_c bt9 (okP_lo (show p + 1 ≤ n by omega) ok9)
            obtain ⟨g1, g2⟩ := ok8 p (by omega) rp
            apply s
            unfold stayN
            rw [hB p (by omega), g1]
            refine and_tt rfl (allB_t.mpr (fun j hj => ?_))
            rw [hM p (by omega) j hj]
            cases e9 : rem.testBit j
            · rw [g2 j hj e9]; rfl
            · rw [Bool.or_true]
      have hlt2 : (if stayN B M p rem = true then bfN B M g (p + 1) rem best else best) < 2 ^ n := by
        split
        · exact bfN_ltn g (p + 1) _ _ (by omega) h1 hb
        · exact hb
      rw [bf_sc hn hB hM hP g (p + 1) (rem ||| 2 ^ p) (2 * R + 1) _ (by omega) h2 hR2 hlt2 hv2 hok2, first, ex, Nat.pow_succ, Nat.mul_two, scN_add, ex2]
abbrev bdS (σ : SG) (i : Nat) : Bool := badB (gK σ) (gR σ) (gV σ i)
theorem subN_bits {a r n : Nat} (hn : n ≤ 12) (ha : a < 2 ^ n) : subN a r = true ↔ ∀ j, j < n → a.testBit j = true → r.testBit j = true := by
  rw [subN_t (Nat.lt_of_lt_of_le ha (Nat.pow_le_pow_right (by decide) hn))]
  exact ⟨fun h j _ => h j, fun h j hj => h j (tb_lt ha hj) hj⟩
theorem okP_all {bd : Nat → Bool} {ad : Nat → Nat → Bool} {n : Nat} {r : Nat → Bool} (hs : ∀ i j, ad i j = ad j i) (h0 : ∀ i, ad i i = false) : okP bd ad n r ↔ ∀ i, i < n → r i = false → bd i = false ∧ ∀ j, j < n → ad i j = true → r j = true := by
  constructor
  · intro h i hi hr
    refine ⟨(h i hi hr).1, fun j hj ha => ?_⟩
    cases e : r j
    · exfalso
      rcases Nat.lt_trichotomy i j with c | c | c
      · rw [hs i j, (h j hj e).2 i c hr] at ha; cases ha
      · rw [c, h0] at ha; cases ha
      · rw [(h i hi hr).2 j c e] at ha; cases ha
    · rfl
  · intro h i hi hr
    refine ⟨(h i hi hr).1, fun j hj hr2 => ?_⟩
    cases e : ad i j
    · rfl
    · rw [(h i hi hr).2 j (by omega) e] at hr2; cases hr2
theorem repM_t {σ : SG} (hn : gN σ ≤ 12) {k : Nat} : repM (gN σ) (badR σ) (conR σ) k = true ↔ okP (bdS σ) (adjS σ) (gN σ) (fun i => k.testBit (gN σ - 1 - i)) := by
  rw [okP_all adjS_s (fun i => adjB_s)]
  unfold repM
  rw [Bool.and_eq_true, subN_bits (a := badR σ) hn (rvM_ltn _ (Nat.le_refl _)), allB_t]
  constructor
  · rintro ⟨h1, h2⟩ i hi hr
    have hr' : k.testBit (gN σ - 1 - i) = false := hr
    refine ⟨?_, fun j hj ha => ?_⟩
    · cases e : bdS σ i
      · rfl
      · have h3 := h1 (gN σ - 1 - i) (by omega) (by
          unfold badR
          rw [rvM_t hi _ (Nat.le_refl _), decide_eq_true hi]
          exact e)
        rw [hr'] at h3; cases h3
    · have h3 := h2 i hi
      rw [hr', Bool.false_or, subN_bits (a := conR σ i) hn (rvM_ltn _ (Nat.le_refl _))] at h3
      refine h3 (gN σ - 1 - j) (by omega) ?_
      unfold conR
      rw [rvM_t hj _ (Nat.le_refl _), decide_eq_true hj]
      exact ha
  · intro h
    refine ⟨fun j hj hb => ?_, fun i hi => ?_⟩
    · have e : gN σ - 1 - (gN σ - 1 - j) = j := by omega
      have hi : gN σ - 1 - j < gN σ := by omega
      have hb2 := hb
      unfold badR at hb2
      rw [← e, rvM_t hi _ (Nat.le_refl _), decide_eq_true hi] at hb2
      cases c : k.testBit j
      · have := (h (gN σ - 1 - j) hi (by show k.testBit (gN σ - 1 - (gN σ - 1 - j)) = false; rw [e]; exact c)).1
        have hb3 : bdS σ (gN σ - 1 - j) = true := hb2
        rw [this] at hb3; cases hb3
      · rfl
    · cases c : k.testBit (gN σ - 1 - i)
      · rw [Bool.false_or, subN_bits (a := conR σ i) hn (rvM_ltn _ (Nat.le_refl _))]
        intro j hj ha
        have e : gN σ - 1 - (gN σ - 1 - j) = j := by omega
        have hj2 : gN σ - 1 - j < gN σ := by omega
        have ha2 := ha
        unfold conR at ha2
        rw [← e, rvM_t hj2 _ (Nat.le_refl _), decide_eq_true hj2] at ha2
        have := (h i hi c).2 (gN σ - 1 - j) hj2 ha2
        rw [← e]
        exact this
      · rfl
theorem repS_t {σ : SG} (hn : gN σ ≤ 12) {k : Nat} : repS σ k = true ↔ okP (bdS σ) (adjS σ) (gN σ) (fun i => k.testBit i) := by
  rw [okP_all adjS_s (fun i => adjB_s)]
  unfold repS repN
  rw [Bool.and_eq_true, subN_bits (a := badM (gN σ) (gK σ) (gR σ) (gV σ)) hn (maskN_lt _), allB_t]
  constructor
  · rintro ⟨h1, h2⟩ i hi hr
    have hr' : k.testBit i = false := hr
    refine ⟨?_, fun j hj ha => ?_⟩
    · cases e : bdS σ i
      · rfl
      · have h3 := h1 i hi (by
          unfold badM
          rw [maskN_t, decide_eq_true hi]
          exact e)
        rw [hr'] at h3; cases h3
    · have h3 := h2 i hi
      rw [hr', Bool.false_or, subN_bits (a := conM (gN σ) (gK σ) (gR σ) (gV σ) i) hn (maskN_lt _)] at h3
      exact h3 j hj (by rw [conM_t i hi, decide_eq_true hj]; exact ha)
  · intro h
    refine ⟨fun j hj hb => ?_, fun i hi => ?_⟩
    · unfold badM at hb
      rw [maskN_t, decide_eq_true hj] at hb
      have hb3 : bdS σ j = true := hb
      cases c : k.testBit j
      · rw [(h j hj c).1] at hb3; cases hb3
      · rfl
    · cases c : k.testBit i
      · rw [Bool.false_or, subN_bits (a := conM (gN σ) (gK σ) (gR σ) (gV σ) i) hn (maskN_lt _)]
        intro j hj ha
        rw [conM_t i hi, decide_eq_true hj] at ha
        exact (h i hi c).2 j hj ha
      · rfl
theorem full_t {n i : Nat} (hi : i < n) : (2 ^ n - 1).testBit i = true := by rw [tb_low]; exact decide_eq_true hi
theorem full_lt {n : Nat} : 2 ^ n - 1 < 2 ^ n := by have := Nat.two_pow_pos n; omega
theorem rvF_full {n : Nat} : rvF n (2 ^ n - 1) = 2 ^ n - 1 := rvF_u full_lt (fun j hj => by rw [full_t (by omega), full_t hj])
theorem cntB_all {f : Nat → Bool} : ∀ {n : Nat}, (∀ i, i < n → f i = true) → cntB n f = n
  | 0, _ => rfl
  | n + 1, h => by rw [cntB_s1 (h n (by omega)), cntB_all (fun i hi => h i (by omega))]
abbrev repR (σ : SG) (k : Nat) : Bool := repM (gN σ) (badR σ) (conR σ) k
/-- the best repair, turned round -/
theorem bst_sc {σ : SG} (hn : gN σ ≤ 12) : rvF (gN σ) (bstN σ) = scN (gN σ) (repR σ) 0 (2 ^ gN σ - 1) (2 ^ gN σ) := by
  have h := bf_sc (B := badM (gN σ) (gK σ) (gR σ) (gV σ)) (M := conM (gN σ) (gK σ) (gR σ) (gV σ)) (bd := bdS σ) (ad := adjS σ) (n := gN σ) (P := repR σ) hn (fun i hi => by unfold badM; rw [maskN_t, decide_eq_true hi]; rfl) (fun i hi j hj => by rw [conM_t i hi, decide_eq_true (show j < gN σ by omega)]; rfl) (fun k _ => repM_t hn) (gN σ) 0 0 0 (2 ^ gN σ - 1) (by omega) (by decide) (by decide) full_lt (fun i hi => absurd hi (Nat.not_lt_zero i)) (fun i hi => absurd hi (Nat.not_lt_zero i))
  rw [Nat.zero_mul, rvF_full] at h
  exact h
theorem bst_ltn {σ : SG} : bstN σ < 2 ^ gN σ := bfN_ltn (gN σ) 0 0 _ (by omega) (by decide) full_lt
theorem full_rep {σ : SG} (hn : gN σ ≤ 12) : repR σ (2 ^ gN σ - 1) = true := (repM_t hn).mpr (fun i hi hr => by
  have hr' : (2 ^ gN σ - 1).testBit (gN σ - 1 - i) = false := hr
  rw [full_t (by omega)] at hr'
  cases hr')
theorem try_min {σ : SG} : ∀ k, (∀ i, i < k → repS σ i = true → tryN σ k ≤ popN i) ∧ (tryN σ k = gN σ ∨ ∃ i, i < k ∧ repS σ i = true ∧ tryN σ k = popN i)
  | 0 => ⟨fun i hi => absurd hi (Nat.not_lt_zero i), Or.inl rfl⟩
  | k + 1 => by
    obtain ⟨h1, h2⟩ := try_min (σ := σ) k
    have e : tryN σ (k + 1) = if (decide (popN k < tryN σ k) && repS σ k) = true then popN k else tryN σ k := rfl
    by_cases c : (decide (popN k < tryN σ k) && repS σ k) = true
    · rw [e, if_pos c]
      rw [Bool.and_eq_true, decide_eq_true_eq] at c
      refine ⟨fun i hi hp => ?_, Or.inr ⟨k, by omega, c.2, rfl⟩⟩
      by_cases q : i = k
      · rw [q]; exact Nat.le_refl _
      · have := h1 i (by omega) hp; omega
    · rw [e, if_neg c]
      refine ⟨fun i hi hp => ?_, h2.imp id (fun ⟨i, hi, h⟩ => ⟨i, by omega, h⟩)⟩
      by_cases q : i = k
      · subst q
        rw [hp, Bool.and_true, decide_eq_true_eq] at c
        omega
      · exact h1 i (by omega) hp
theorem rep_rv {σ : SG} (hn : gN σ ≤ 12) {k : Nat} : repR σ (rvF (gN σ) k) = true ↔ repS σ k = true := by
  rw [repM_t hn, repS_t hn]
  exact ⟨okP_c (fun i hi => rvF_t hi), okP_c (fun i hi => (rvF_t hi).symm)⟩
/-- trying all sets gives as many rows -/
theorem try_eq {σ : SG} (hn : gN σ ≤ 12) : tryN σ (2 ^ gN σ) = a_few σ := by
  obtain ⟨h1, h2⟩ := try_min (σ := σ) (2 ^ gN σ)
  obtain ⟨m1, m2, m3⟩ := scN_min (n := gN σ) (P := repR σ) (a := 0) (b := 2 ^ gN σ - 1) (2 ^ gN σ)
  rw [← bst_sc hn] at m1 m2 m3
  have hfull : cnN (gN σ) (2 ^ gN σ - 1) = gN σ := cntB_all (fun i hi => full_t hi)
  have hb : repR σ (rvF (gN σ) (bstN σ)) = true := by
    rcases m3 with m3 | m3
    · rw [m3]; exact full_rep hn
    · exact m3.1
  have hp : popN (bstN σ) = cnN (gN σ) (rvF (gN σ) (bstN σ)) := by rw [cnN_rv, pop_cn hn bst_ltn]
  have up : tryN σ (2 ^ gN σ) ≤ popN (bstN σ) := h1 _ bst_ltn ((rep_rv hn).mp hb)
  have lo : popN (bstN σ) ≤ tryN σ (2 ^ gN σ) := by
    rcases h2 with h2 | ⟨i, hi, hr, h2⟩
    · rw [hp, h2]; exact Nat.le_trans m1 (Nat.le_of_eq hfull)
    · have := m2 (rvF (gN σ) i) rvF_lt (by rw [Nat.zero_add]; exact (rep_rv hn).mpr hr)
      rw [Nat.zero_add] at this
      rw [hp, h2, pop_cn hn hi, ← cnN_rv (n := gN σ) (k := i)]
      exact this
  unfold a_few
  omega
