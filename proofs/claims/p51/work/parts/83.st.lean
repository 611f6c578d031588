/-! p51, mathematics: how the state goes on; behind a repair -/
theorem iv.val {D : Nat} {σ : SG} (h : iv D σ) (i c : Nat) (y : Int32) : iv D (s_val σ i c y) := h
theorem iv.rem {D : Nat} {σ : SG} (h : iv D σ) {i : Nat} (hi : i < gN σ) : iv D (s_rem σ i) := by
  obtain ⟨⟨h1, f, h2, h3⟩, h4, h5⟩ := h
  refine ⟨⟨h1, shf f i, fun j hj => ?_, fun j k hjk hk => ?_⟩, h4, h5⟩
  · have hj' : j < gN σ - 1 := hj
    show shf (gI σ) i j = nI (shf f i j) ∧ shf f i j < D
    unfold shf
    by_cases c : j < i
    · rw [if_pos c, if_pos c]; exact h2 j (by omega)
    · rw [if_neg c, if_neg c]; exact h2 (j + 1) (by omega)
  · have hk' : k < gN σ - 1 := hk
    show shf f i j < shf f i k
    unfold shf
    by_cases c : k < i
    · rw [if_pos (show j < i by omega), if_pos c]; exact h3 j k hjk (by omega)
    · rw [if_neg c]
      by_cases c2 : j < i
      · rw [if_pos c2]; exact h3 j (k + 1) (by omega) (by omega)
      · rw [if_neg c2]; exact h3 (j + 1) (k + 1) (by omega) (by omega)
theorem iv.save {D : Nat} {σ : SG} (h : iv D σ) (ok : okS σ) : iv D (s_save σ) := by
  refine ⟨h.1, fun j hj => ⟨bktN σ j, fun b hb => ?_, ?_⟩, h.2.2⟩
  · show svQ σ 5 0 j b = _
    unfold svQ
    rw [if_pos ⟨Or.inl hj, hb⟩]
  · exact bkt_sum (y := fun i => gV σ i j) (fun i hi => ok.2.2.2.2.1 i hi j hj)
theorem rp_c {m : Nat} : ∀ (i : Nat) (σ : SG), i ≤ gN σ → ∃ e : Nat → Nat, gN (rpD m i σ) + cntB i (fun j => m.testBit j) = gN σ ∧ (∀ j, j < gN (rpD m i σ) → e j < gN σ ∧ (e j < i → m.testBit (e j) = false) ∧ gV (rpD m i σ) j = gV σ (e j)) ∧ (∀ j k, j < k → k < gN (rpD m i σ) → e j < e k) ∧ gK (rpD m i σ) = gK σ ∧ gR (rpD m i σ) = gR σ
  | 0, σ, _ => ⟨fun j => j, rfl, fun j hj => ⟨hj, fun h => absurd h (Nat.not_lt_zero j), rfl⟩, fun j k h _ => h, rfl, rfl⟩
  | i + 1, σ, hi => by
    show ∃ e : Nat → Nat, gN (rpD m i (if m.testBit i = true then s_rem σ i else σ)) + _ = _ ∧ _
    cases hb : m.testBit i
    · obtain ⟨e, h1, h2, h3, h4⟩ := rp_c (m := m) i σ (by omega)
      have es : rpD m (i + 1) σ = rpD m i σ := by
        show rpD m i (if m.testBit i = true then s_rem σ i else σ) = _
        rw [if_neg (by rw [hb]; decide)]
      rw [es, if_neg (by decide)]
      refine ⟨e, by rw [cntB_s0 (f := fun j => m.testBit j) hb]; exact h1, fun j hj => ?_, h3, h4⟩
      obtain ⟨g1, g2, g3⟩ := h2 j hj
      refine ⟨g1, fun h => ?_, g3⟩
      by_cases c : e j < i
      · exact g2 c
      · have : e j = i := by omega
        rw [this]; exact hb
    · obtain ⟨e, h1, h2, h3, h4, h5⟩ := rp_c (m := m) i (s_rem σ i) (show i ≤ gN σ - 1 by omega)
      have es : rpD m (i + 1) σ = rpD m i (s_rem σ i) := by
        show rpD m i (if m.testBit i = true then s_rem σ i else σ) = _
        rw [if_pos hb]
      have hn : gN (s_rem σ i) = gN σ - 1 := rfl
      rw [es, if_pos rfl]
      refine ⟨fun j => if e j < i then e j else e j + 1, by rw [cntB_s1 (f := fun j => m.testBit j) hb]; omega, fun j hj => ?_, fun j k hjk hk => ?_, h4, h5⟩
      · obtain ⟨g1, g2, g3⟩ := h2 j hj
        have g3' : gV (rpD m i (s_rem σ i)) j = shf (gV σ) i (e j) := g3
        unfold shf at g3'
        show (if e j < i then e j else e j + 1) < _ ∧ ((if e j < i then e j else e j + 1) < i + 1 → m.testBit (if e j < i then e j else e j + 1) = false) ∧ _ = gV σ (if e j < i then e j else e j + 1)
        by_cases c : e j < i
        · rw [if_pos c] at g3' ⊢
          exact ⟨by omega, fun _ => g2 c, g3'⟩
        · rw [if_neg c] at g3' ⊢
          exact ⟨by omega, fun h => absurd h (by omega), g3'⟩
      · have := h3 j k hjk hk
        show (if e j < i then e j else e j + 1) < (if e k < i then e k else e k + 1)
        by_cases c : e k < i
        · rw [if_pos (show e j < i by omega), if_pos c]; exact this
        · rw [if_neg c]
          by_cases c2 : e j < i
          · rw [if_pos c2]; omega
          · rw [if_neg c2]; omega
/-- no row is bad, no two conflict -/
def calm (τ : SG) : Prop := ∀ i, i < gN τ → bdS τ i = false ∧ ∀ j, j < gN τ → adjS τ i j = false
theorem rp_calm {σ : SG} (hn : gN σ ≤ 12) : gN (rpD (bstN σ) (gN σ) σ) + a_few σ = gN σ ∧ calm (rpD (bstN σ) (gN σ) σ) := by
  obtain ⟨e, h1, h2, h3, h4, h5⟩ := rp_c (m := bstN σ) (gN σ) σ (Nat.le_refl _)
  rw [few_n hn] at h1
  refine ⟨h1, fun i hi => ?_⟩
  obtain ⟨g1, g2, g3⟩ := h2 i hi
  obtain ⟨b1, b2⟩ := bst_ok hn g1 (g2 g1)
  refine ⟨?_, fun j hj => ?_⟩
  · show badB (gK (rpD (bstN σ) (gN σ) σ)) (gR (rpD (bstN σ) (gN σ) σ)) (gV (rpD (bstN σ) (gN σ) σ) i) = false
    rw [h4, h5, g3]
    exact b1
  · obtain ⟨q1, q2, q3⟩ := h2 j hj
    show (decide (¬ j = i) && conB (gK (rpD (bstN σ) (gN σ) σ)) (gR (rpD (bstN σ) (gN σ) σ)) (gV (rpD (bstN σ) (gN σ) σ) i) (gV (rpD (bstN σ) (gN σ) σ) j)) = false
    rw [h4, h5, g3, q3]
    by_cases c : j = i
    · rw [decide_eq_false (fun q => q c)]; rfl
    · have hne : ¬ e j = e i := fun q => by
        rcases Nat.lt_trichotomy i j with d | d | d
        · have := h3 i j d hj; omega
        · exact c d.symm
        · have := h3 j i d hi; omega
      cases ha : conB (gK σ) (gR σ) (gV σ (e i)) (gV σ (e j))
      · exact Bool.and_false _
      · exfalso
        have : adjS σ (e i) (e j) = true := by
          show (decide (¬ e j = e i) && conB (gK σ) (gR σ) (gV σ (e i)) (gV σ (e j))) = true
          rw [decide_eq_true hne, ha]; rfl
        have h6 := b2 (e j) q1 this
        rw [q2 q1] at h6; cases h6
theorem calm_few {τ : SG} (hn : gN τ ≤ 12) (h : calm τ) : a_few τ = 0 := by
  have := few_min hn (k := 0) (Nat.two_pow_pos _) ((rep_all hn).mpr (fun i hi _ => ⟨(h i hi).1, fun j hj ha => by rw [(h i hi).2 j hj] at ha; cases ha⟩))
  have e : popN 0 = 0 := by decide
  omega
theorem calm_groups {τ : SG} (h : calm τ) : a_groups τ = gN τ := by
  rw [groups_eq]
  refine cntB_all (fun k hk => decide_eq_true ((lab_first adjS_s hk).mpr (fun i hi => ?_)))
  cases e : conE (gN τ) (adjS τ) i k
  · rfl
  · exfalso
    have hc : clsdN (gN τ) (adjS τ) (fun q => decide (q = i)) := fun a q ha hq h1 h2 => by
      rw [(h a ha).2 q hq] at h2; cases h2
    have := bal_sub hc (decide_eq_true rfl) (gN τ) k hk e
    have h2 : k = i := of_decide_eq_true this
    omega
theorem calm_vio {τ : SG} (h : calm τ) {q : Nat} (hq : q < gK τ) (hd : drR (gR τ q) = false) : sumN (gN τ) (vioR (gR τ q) (gV τ)) = 0 := by
  refine sumN_z.mpr (fun k hk => ?_)
  obtain ⟨h1, h2⟩ := h k hk
  have b1 : brkR (gR τ q) (gV τ k) = false := by
    have := anyB_f.mp h1 q hq
    rw [hd] at this
    exact this
  show (if brkR (gR τ q) (gV τ k) = true then 1 else 0) + cntB k (fun i => clsR (gR τ q) (gV τ k) (gV τ i)) = 0
  rw [if_neg (by rw [b1]; decide), Nat.zero_add]
  have := cntB_head (f := fun i => clsR (gR τ q) (gV τ k) (gV τ i)) (h := 0) (p := k) (fun i _ hi => by
    have h3 := h2 i (by omega)
    have h4 : (decide (¬ i = k) && conB (gK τ) (gR τ) (gV τ k) (gV τ i)) = false := h3
    rw [decide_eq_true (show ¬ i = k by omega), Bool.true_and] at h4
    have h5 := anyB_f.mp h4 q hq
    rw [hd] at h5
    exact h5)
  omega
