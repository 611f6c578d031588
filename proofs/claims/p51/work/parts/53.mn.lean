theorem hitB_c {f g : Nat → Bool} (h : ∀ s, s < 32 → f s = g s) : hitB f = hitB g := by
  funext k
  unfold hitB
  rw [h (k % 32) (Nat.mod_lt _ (by decide))]
theorem cntB_or {f g h : Nat → Bool} : ∀ {n : Nat}, (∀ i, i < n → h i = (f i || g i) ∧ (f i && g i) = false) → cntB n h = cntB n f + cntB n g
  | 0, _ => rfl
  | n + 1, hh => by
    have h1 := cntB_or (f := f) (g := g) (h := h) (n := n) (fun i hi => hh i (by omega))
    have h2 := hh n (by omega)
    show cntB n h + (if h n = true then 1 else 0) = (cntB n f + (if f n = true then 1 else 0)) + (cntB n g + (if g n = true then 1 else 0))
    rw [h1, h2.1]
    cases e1 : f n <;> cases e2 : g n
    · rfl
    · show _ + 1 = _ + 0 + (_ + 1); omega
    · show _ + 1 = _ + 1 + (_ + 0); omega
    · rw [e1, e2] at h2; exact absurd h2.2 (by decide)
theorem cnt_hit {f : Nat → Bool} : ∀ L, cntB (32 * L) (hitB f) = cntB 32 (fun s => decide (popN s < L) && f s)
  | 0 => by
    show 0 = _
    rw [cntB_c (g := fun _ => false) (fun i _ => by rw [decide_eq_false (Nat.not_lt_zero _)]; rfl)]
    decide +kernel
  | L + 1 => by
    rw [show 32 * (L + 1) = 32 * L + 32 by omega, cntB_add, cnt_hit L]
    refine (cntB_or (fun i hi => ?_)).symm
    have e : hitB f (32 * L + i) = (decide (popN i = L) && f i) := by
      unfold hitB
      rw [show (32 * L + i) % 32 = i by omega, show (32 * L + i) / 32 = L by omega]
    rw [e]
    cases hf : f i
    · rw [Bool.and_false, Bool.and_false, Bool.and_false]; exact ⟨rfl, rfl⟩
    · rw [Bool.and_true, Bool.and_true, Bool.and_true]
      by_cases h1 : popN i < L
      · rw [decide_eq_true h1, decide_eq_true (show popN i < L + 1 by omega), decide_eq_false (show ¬ popN i = L by omega)]; exact ⟨rfl, rfl⟩
      · by_cases h2 : popN i = L
        · rw [decide_eq_false h1, decide_eq_true h2, decide_eq_true (show popN i < L + 1 by omega)]; exact ⟨rfl, rfl⟩
        · rw [decide_eq_false h1, decide_eq_false h2, decide_eq_false (show ¬ popN i < L + 1 by omega)]; exact ⟨rfl, rfl⟩
theorem cnt_192 {f : Nat → Bool} : cntB 192 (hitB f) = cntB 32 f := (cnt_hit 6).trans (cntB_c (fun i hi => by
  rw [decide_eq_true (show popN i < 6 by have := pop_le5 i hi; omega)]; rfl))
theorem cnt_at {H : Nat → Bool} {q : Nat} : ∀ {N : Nat}, q < cntB N H → ∃ k, k < N ∧ H k = true ∧ cntB k H = q
  | 0, h => absurd h (Nat.not_lt_zero q)
  | N + 1, h => by
    by_cases h1 : q < cntB N H
    · obtain ⟨k, k1, k2⟩ := cnt_at h1
      exact ⟨k, by omega, k2⟩
    · cases h2 : H N
      · rw [cntB_s0 h2] at h; exact absurd h h1
      · rw [cntB_s1 h2] at h
        exact ⟨N, Nat.lt_succ_self N, h2, by omega⟩
theorem keyM_t {σ : SG} {s : Nat} (hs : s < 32) : (keyM σ).testBit s = keyB (nI s) (gN σ) (gV σ) := by
  unfold keyM
  rw [maskN_t, decide_eq_true hs, Bool.true_and]
