theorem bit_i {y c : Nat} (hc : c < 32) : (nI y >>> (nI c &&& 31)) &&& 1 = b2i (y.testBit c) := by
  rcases and1 (nI y >>> (nI c &&& 31)) with e | e
  · rw [e]
    have := sb_0.mp e
    rw [sb_n y hc] at this
    rw [this]; rfl
  · rw [e]
    have := sb_1.mp e
    rw [sb_n y hc] at this
    rw [this]; rfl
theorem b2i_n (b : Bool) : b2i b = nI (if b = true then 1 else 0) := by cases b <;> rfl
theorem cntB_n {f : Nat → Bool} {n : Nat} : cntB (n + 1) f = cntB n f + (if f n = true then 1 else 0) := rfl
theorem pop5 : ∀ y, y < 32 → cntB 5 (fun i => y.testBit i) = popN y := by decide +kernel
theorem sub32 : ∀ t, t < 32 → ∀ s, s < 32 → (decide (t &&& s = t) = subN t s) := by decide +kernel
theorem popS : ∀ t, t < 32 → ∀ s, s < 32 → subN t s = true → t < s → popN t < popN s := by decide +kernel
theorem subTr : ∀ a, a < 32 → ∀ b, b < 32 → subN a b = true → ∀ c, c < 32 → subN b c = true → subN a c = true := by
  intro a ha b hb h1 c hc h2
  have e1 := (subN_t (show a < 2 ^ 12 by omega)).mp h1
  have e2 := (subN_t (show b < 2 ^ 12 by omega)).mp h2
  exact (subN_t (show a < 2 ^ 12 by omega)).mpr (fun j hj => e2 j (e1 j hj))
theorem pop_le5 : ∀ s, s < 32 → popN s ≤ 5 := by decide +kernel
def isMinF (f : Nat → Bool) (s : Nat) : Bool := f s && allB s (fun l => !subN l s || !f l)
theorem sub_refl {s : Nat} (h : s < 32) : subN s s = true := (subN_t (show s < 2 ^ 12 by omega)).mpr (fun _ h => h)
theorem min_ex {f : Nat → Bool} : ∀ (n s : Nat), s < n → s < 32 → f s = true → ∃ m, m ≤ s ∧ subN m s = true ∧ isMinF f m = true
  | 0, s, h, _, _ => absurd h (Nat.not_lt_zero s)
  | n + 1, s, h, h32, hf => by
    cases hm : allB s (fun l => !subN l s || !f l)
    · have : ∃ l, l < s ∧ subN l s = true ∧ f l = true := by
        cases h2 : anyB s (fun l => subN l s && f l)
        · exfalso
          have h3 := anyB_f.mp h2
          rw [allB_t.mpr (fun l hl => by
            have := h3 l hl
            cases h4 : subN l s
            · rfl
            · rw [h4] at this
              have h5 : f l = false := this
              rw [h5]; rfl)] at hm
          cases hm
        · obtain ⟨l, hl, h3⟩ := anyB_t.mp h2
          rw [Bool.and_eq_true] at h3
          exact ⟨l, hl, h3.1, h3.2⟩
      obtain ⟨l, hl, h3, h4⟩ := this
      obtain ⟨m, m1, m2, m3⟩ := min_ex n l (by omega) (by omega) h4
      exact ⟨m, by omega, subTr m (by omega) l (by omega) m2 s h32 h3, m3⟩
    · exact ⟨s, Nat.le_refl _, sub_refl h32, and_tt hf hm⟩
theorem minK_t {f : Nat → Bool} : ∀ k, k ≤ 192 → ∀ s, s < 32 → (minK f k).testBit s = (decide (32 * popN s + s < k) && isMinF f s)
  | 0, _, s, _ => by show (0 : Nat).testBit s = _; rw [Nat.zero_testBit, decide_eq_false (Nat.not_lt_zero _)]; rfl
  | k + 1, hk, s, hs => by
    have ih := minK_t (f := f) k (by omega)
    have h0 : k % 32 < 32 := Nat.mod_lt _ (by decide)
    have hold : popN (k % 32) = k / 32 → holdB (k % 32) (minK f k) = anyB (k % 32) (fun t => subN t (k % 32) && isMinF f t) := fun hp => by
      unfold holdB
      refine anyB_c (fun t ht => ?_)
      rw [sub32 t (by omega) (k % 32) h0]
      cases h1 : subN t (k % 32)
      · rfl
      · have h2 := popS t (by omega) (k % 32) h0 h1 ht
        rw [ih t (by omega), decide_eq_true (show 32 * popN t + t < k by omega)]
        rfl
    have eM : popN (k % 32) = k / 32 → (!holdB (k % 32) (minK f k) && f (k % 32)) = isMinF f (k % 32) := fun hp => by
      rw [hold hp]
      show _ = (f (k % 32) && allB (k % 32) (fun l => !subN l (k % 32) || !f l))
      cases hf : f (k % 32)
      · rw [Bool.and_false]; rfl
      · rw [Bool.and_true]
        show _ = (true && _)
        rw [Bool.true_and]
        cases h1 : allB (k % 32) (fun l => !subN l (k % 32) || !f l)
        · cases h2 : anyB (k % 32) (fun t => subN t (k % 32) && isMinF f t)
          · exfalso
            have h3 := anyB_f.mp h2
            rw [allB_t.mpr (fun l hl => by
              cases h4 : subN l (k % 32)
              · rfl
              · cases h5 : f l
                · rfl
                · obtain ⟨m, m1, m2, m3⟩ := min_ex (f := f) (l + 1) l (by omega) (by omega) h5
                  have := h3 m (by omega)
                  rw [subTr m (by omega) l (by omega) m2 _ h0 h4, m3] at this
                  cases this)] at h1
            cases h1
          · rfl
        · have : anyB (k % 32) (fun t => subN t (k % 32) && isMinF f t) = false := anyB_f.mpr (fun t ht => by
            have h3 := allB_t.mp h1 t ht
            cases h4 : subN t (k % 32)
            · rfl
            · rw [h4] at h3
              have h5 : f t = false := by simpa using h3
              show (true && isMinF f t) = false
              unfold isMinF
              rw [h5]; rfl)
          rw [this]; rfl
    show (if (decide (popN (k % 32) = k / 32) && !holdB (k % 32) (minK f k) && f (k % 32)) = true then minK f k ||| 2 ^ (k % 32) else minK f k).testBit s = _
    by_cases hp : popN (k % 32) = k / 32
    · rw [decide_eq_true hp, Bool.true_and, eM hp]
      by_cases e : s = k % 32
      · subst e
        rw [decide_eq_true (show 32 * popN (k % 32) + k % 32 < k + 1 by omega)]
        cases h1 : isMinF f (k % 32)
        · rw [if_neg (by decide), ih _ h0, h1, Bool.and_false, Bool.and_false]
        · rw [if_pos rfl, Nat.testBit_or, tb_pow, decide_eq_true rfl, Bool.or_true]; rfl
      · have e2 : decide (32 * popN s + s < k + 1) = decide (32 * popN s + s < k) := decide_eq_decide.mpr ⟨fun h => by omega, fun h => by omega⟩
        rw [e2, ← ih s hs]
        split
        · rw [Nat.testBit_or, tb_pow, decide_eq_false (fun h => e h.symm), Bool.or_false]
        · rfl
    · rw [decide_eq_false hp, Bool.false_and, Bool.false_and, if_neg (by decide), ih s hs]
      have e2 : decide (32 * popN s + s < k + 1) = decide (32 * popN s + s < k) := decide_eq_decide.mpr ⟨fun h => by
        by_cases e : 32 * popN s + s = k
        · exact absurd (by rw [← e, show (32 * popN s + s) % 32 = s by omega, show (32 * popN s + s) / 32 = popN s by omega]) hp
        · omega, fun h => by omega⟩
      rw [e2]
theorem minM_t {σ : SG} {c s : Nat} (hs : s < 32) : (minM σ c).testBit s = isMinB σ c s := by
  have := pop_le5 s hs
  unfold minM
  rw [minK_t 192 (Nat.le_refl _) s hs, decide_eq_true (show 32 * popN s + s < 192 by omega)]
  rfl
theorem minCnt_p {σ : SG} {c : Nat} : minCnt σ c = pop32 (minM σ c) := cntB_c (fun s hs => (minM_t hs).symm)
theorem detM_t {σ : SG} {c s : Nat} (hs : s < 32) : (detM σ c).testBit s = detB σ s c := by
  unfold detM
  rw [maskN_t, decide_eq_true hs, Bool.true_and]
theorem minCnt_T {σ : SG} {c : Nat} : minCnt σ c = a_minT σ c := cntB_c (fun s hs => by
  rw [detM_t hs]
  unfold isMinB
  cases hd : detB σ s c
  · rfl
  · show allB s _ = !holdB s (detM σ c)
    cases h1 : holdB s (detM σ c)
    · refine allB_t.mpr (fun l hl => ?_)
      have h2 := anyB_f.mp h1 l hl
      rw [sub32 l (by omega) s hs, detM_t (by omega)] at h2
      cases h3 : subN l s
      · rfl
      · rw [h3] at h2
        have h4 : detB σ l c = false := h2
        rw [h4]; rfl
    · obtain ⟨l, hl, h2⟩ := anyB_t.mp h1
      rw [sub32 l (by omega) s hs, detM_t (by omega), Bool.and_eq_true] at h2
      exact allB_f hl (by rw [h2.1, h2.2]; rfl))
