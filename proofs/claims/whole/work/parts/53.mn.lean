/-! the model: smallestKey, minimalAt -/
theorem hitB_c {f g : Nat → Bool} (h : ∀ s, s < 32 → f s = g s) : hitB f = hitB g := by
  funext k
  unfold hitB
  rw [h (k % 32) (Nat.mod_lt _ (by decide))]
theorem cntB_or {f g h : Nat → Bool} : ∀ {n : Nat}, (∀ i, i < n → h i = (f i || g i) ∧ (f i && g i) = false) → cntB n h = cntB n f + cntB n g
  | 0, _ => rfl
  | n + 1, hh => by
    have h1 := cntB_or (f := f) (g := g) (h := h) (n := n) (fun i hi => hh i (by omega))
    have h2 := hh n (by omega)
    show cntB n h + (if h n = true then 1 else 0) = (cntB n f + (if f n = true then 1 else 0)) + (cntB n g + (if g n = true then 1 else 0))
    rw [h1, h2.1]
    cases e1 : f n <;> cases e2 : g n
    · rfl
    · show _ + 1 = _ + 0 + (_ + 1); omega
    · show _ + 1 = _ + 1 + (_ + 0); omega
    · rw [e1, e2] at h2; exact absurd h2.2 (by decide)
theorem cnt_hit {f : Nat → Bool} : ∀ L, cntB (32 * L) (hitB f) = cntB 32 (fun s => decide (popN s < L) && f s)
  | 0 => by
    show 0 = _
    rw [cntB_c (g := fun _ => false) (fun i _ => by rw [decide_eq_false (Nat.not_lt_zero _)]; rfl)]
    decide +kernel
  | L + 1 => by
    rw [show 32 * (L + 1) = 32 * L + 32 by omega, cntB_add, cnt_hit L]
    refine (cntB_or (fun i hi => ?_)).symm
    have e : hitB f (32 * L + i) = (decide (popN i = L) && f i) := by
      unfold hitB
      rw [show (32 * L + i) % 32 = i by omega, show (32 * L + i) / 32 = L by omega]
    rw [e]
    cases hf : f i
    · rw [Bool.and_false, Bool.and_false, Bool.and_false]; exact ⟨rfl, rfl⟩
    · rw [Bool.and_true, Bool.and_true, Bool.and_true]
      by_cases h1 : popN i < L
      · rw [decide_eq_true h1, decide_eq_true (show popN i < L + 1 by omega), decide_eq_false (show ¬ popN i = L by omega)]; exact ⟨rfl, rfl⟩
      · by_cases h2 : popN i = L
        · rw [decide_eq_false h1, decide_eq_true h2, decide_eq_true (show popN i < L + 1 by omega)]; exact ⟨rfl, rfl⟩
        · rw [decide_eq_false h1, decide_eq_false h2, decide_eq_false (show ¬ popN i < L + 1 by omega)]; exact ⟨rfl, rfl⟩
theorem cnt_192 {f : Nat → Bool} : cntB 192 (hitB f) = cntB 32 f := (cnt_hit 6).trans (cntB_c (fun i hi => by
  rw [decide_eq_true (show popN i < 6 by have := pop_le5 i hi; omega)]; rfl))
theorem cnt_at {H : Nat → Bool} {q : Nat} : ∀ {N : Nat}, q < cntB N H → ∃ k, k < N ∧ H k = true ∧ cntB k H = q
  | 0, h => absurd h (Nat.not_lt_zero q)
  | N + 1, h => by
    by_cases h1 : q < cntB N H
    · obtain ⟨k, k1, k2⟩ := cnt_at h1
      exact ⟨k, by omega, k2⟩
    · cases h2 : H N
      · rw [cntB_s0 h2] at h; exact absurd h h1
      · rw [cntB_s1 h2] at h
        exact ⟨N, Nat.lt_succ_self N, h2, by omega⟩
theorem keyM_t {σ : SG} {s : Nat} (hs : s < 32) : (keyM σ).testBit s = keyB (nI s) (gN σ) (gV σ) := by
  unfold keyM
  rw [maskN_t, decide_eq_true hs, Bool.true_and]
theorem sub_dec (q : Int32) (c : Nat) : q - nI c + Int32.ofInt (-1) = q - nI (c + 1) := by
  rw [← nI_1, Int32.sub_eq_add_neg, Int32.sub_eq_add_neg, Int32.neg_add, Int32.sub_eq_add_neg, Int32.add_assoc]
  rfl
section MON
variable {l : Launch} {θ : e_T} {ph : e_PH} {mo : Nat} {μ : Nat → Nat} {σ : SG} {t : Int32} {s : Nat → Int32} {F : Nat → Nat → Int32}
theorem w_smallestKey (htr : l.stackTraces = false) (hm : MP θ ph mo μ σ t) : MC yX12_smallestKey cX12_smallestKey 3 (some .int) 3 0 0 l θ [.ref mo] ph (nP θ ph mo μ σ (k_sk σ) (zI (k_sk σ) (a_sk σ))) (fun _ _ => False) := by
  obtain ⟨s, F, hm, hr, rfl⟩ := hm
  refine MC.of htr (by decide) (Nat.le_of_ble_eq_true rfl) ?_
  intro x hX hQ hT
  let H : Nat → Bool := hitB (fun i => (keyM σ).testBit i)
  have outer : ∀ (z L : Nat), 6 - L < z → L ≤ 6 → (∀ k, k < 32 * L → H k = false) → EJ θ x 2 [(0, .ref mo), (1, .int (nI L))] [] ph 0 0 := by
    intro z
    induction z with
    | zero => intro L hz; omega
    | succ z ih =>
      intro L hz hL hinv
      refine e_iload_n hX 1 iX12_smallestKey_2 rfl rfl ?_
      refine e_iconst (v := 5) hX iX12_smallestKey_3 (by decide) ?_
      refine e_icmp_gt hX iX12_smallestKey_4 (fun c4 => ?_) (fun c4 => ?_)
      · have hL6 : L = 6 := by
          rcases Nat.lt_or_ge L 6 with h | h
          · exact absurd (nI_le (show L ≤ 5 by omega) (by decide)) (Int32.not_le.mpr c4)
          · omega
        subst hL6
        have h0 : keyM σ = 0 := by
          apply Nat.eq_of_testBit_eq
          intro j
          rw [Nat.zero_testBit]
          by_cases hj : j < 32
          · have h1 := hinv (32 * popN j + j) (by have := pop_le5 j hj; omega)
            have h2 : (decide (popN ((32 * popN j + j) % 32) = (32 * popN j + j) / 32) && (keyM σ).testBit ((32 * popN j + j) % 32)) = false := h1
            rw [show (32 * popN j + j) % 32 = j by omega, show (32 * popN j + j) / 32 = popN j by omega, decide_eq_true rfl] at h2
            exact h2
          · exact Nat.testBit_lt_two_pow (Nat.lt_of_lt_of_le (maskN_lt 32) (Nat.pow_le_pow_right (by decide) (by omega)))
        have hk : k_sk σ = 1 := if_pos h0
        refine e_aload_n hX 0 iX12_smallestKey_49 rfl rfl ?_
        refine e_iconst (v := 1) hX iX12_smallestKey_50 (by decide) ?_
        refine e_callV hX iX12_smallestKey_51 hm.1 (n_fails htr hm 1) rfl rfl ⟨by decide, by decide, by decide, by decide⟩ (Nat.le_of_ble_eq_true rfl) (fun _ _ h => h.elim) (fun v9 ph9 hv9 => ?_)
        obtain ⟨rfl, e9⟩ := hv9
        subst ph9
        exact e_iret hX hQ iX12_smallestKey_54 rfl (by decide) (by decide) (nP.mk (hm.told hr kept.refl 1) (by rw [hk]; rfl) (by rw [zI_n (by omega)]))
      · have hL6 : L < 6 := by
          rcases Nat.lt_or_ge L 6 with h | h
          · exact h
          · exact absurd (nI_lt (show 5 < L by omega) (by omega)) c4
        have inner : ∀ (z' y : Nat), 32 - y < z' → y ≤ 32 → (∀ k, k < 32 * L + y → H k = false) → EJ θ x 9 [(0, .ref mo), (1, .int (nI L)), (2, .int (nI y))] [] ph 0 0 := by
          intro z'
          induction z' with
          | zero => intro y hz'; omega
          | succ z' ih' =>
            intro y hz' hy hk
            refine e_iload_n hX 2 iX12_smallestKey_9 rfl rfl ?_
            refine e_bipush (v := 32) hX iX12_smallestKey_10 (by decide) ?_
            refine e_icmp_ge hX iX12_smallestKey_12 (fun c12 => ?_) (fun c12 => ?_)
            · have hy2 := nI_same hy (by decide) c12
              subst hy2
              refine e_iinc hX iX12_smallestKey_43 rfl (by first | exact nI_inc _ | rfl) (by decide) ?_
              refine e_goto hX iX12_smallestKey_46 ?_
              refine e_loc [0, 1] ?_
              exact ih (L + 1) (by omega) (by omega) hk
            · have hy2 := nI_less hy (by decide) c12
              have eH : H (32 * L + y) = (decide (popN y = L) && keyB (nI y) (gN σ) (gV σ)) := by
                show (decide (popN ((32 * L + y) % 32) = (32 * L + y) / 32) && (keyM σ).testBit ((32 * L + y) % 32)) = _
                rw [show (32 * L + y) % 32 = y by omega, show (32 * L + y) / 32 = L by omega, keyM_t hy2]
              have hp := pop_le5 y hy2
              have next : H (32 * L + y) = false → EJ θ x 37 [(0, .ref mo), (1, .int (nI L)), (2, .int (nI y))] [] ph 0 0 := by
                intro hf
                refine e_iinc hX iX12_smallestKey_37 rfl (by first | exact nI_inc _ | rfl) (by decide) ?_
                refine e_goto hX iX12_smallestKey_40 ?_
                refine e_loc [0, 1, 2] ?_
                refine ih' (y + 1) (by omega) (by omega) (fun k hk2 => ?_)
                by_cases e : k = 32 * L + y
                · subst e; exact hf
                · exact hk k (by omega)
              refine e_iload_n hX 2 iX12_smallestKey_15 rfl rfl ?_
              refine e_callS hX iX12_smallestKey_16 (n_sizeOf htr hy2) rfl rfl ⟨by decide, by decide, by decide, by decide⟩ (Nat.le_of_ble_eq_true rfl) (fun _ _ h => h.elim) (fun v9 ph9 hv9 => ?_)
              obtain ⟨rfl, e9⟩ := hv9
              subst ph9
              refine e_iload_n hX 1 iX12_smallestKey_19 rfl rfl ?_
              refine e_icmp_ne hX iX12_smallestKey_20 (fun c20 => ?_) (fun c20 => ?_)
              · refine e_loc [0, 1, 2] ?_
                exact next (by rw [eH]; exact and_f1 (decide_eq_false (fun e => c20 (by rw [e]))))
              · have e1 : popN y = L := (nI_eq (by omega) (by omega)).mp c20
                refine e_aload_n hX 0 iX12_smallestKey_23 rfl rfl ?_
                refine e_iload_n hX 2 iX12_smallestKey_24 rfl rfl ?_
                refine e_callV hX iX12_smallestKey_25 hm.1 (n_keyed htr hm hr (nI y)) rfl rfl ⟨by decide, by decide, by decide, by decide⟩ (Nat.le_of_ble_eq_true rfl) (fun _ _ h => h.elim) (fun v9 ph9 hv9 => ?_)
                obtain ⟨rfl, e9⟩ := hv9
                subst ph9
                refine e_if_eq hX iX12_smallestKey_28 (fun c28 => ?_) (fun c28 => ?_)
                · refine e_loc [0, 1, 2] ?_
                  exact next (by rw [eH]; exact and_f2 (b2i_0.mp c28))
                · have e0 : H (32 * L + y) = true := by rw [eH]; exact and_tt (decide_eq_true e1) (b2i_n0.mp c28)
                  have hcn : cntB (32 * L + y) H = 0 := by
                    rw [cntB_c (g := fun _ => false) hk]
                    have : ∀ n, cntB n (fun _ => false) = 0 := fun n => by
                      induction n with
                      | zero => rfl
                      | succ n ih => rw [cntB_s0 rfl]; exact ih
                    exact this _
                  have hk1 : ¬ keyM σ = 0 := fun e => by
                    have h1 := b2i_n0.mp c28
                    rw [← keyM_t hy2, e, Nat.zero_testBit] at h1
                    cases h1
                  have hk0 : k_sk σ = 0 := if_neg hk1
                  have ha : a_sk σ = nI y := by
                    unfold a_sk sioN
                    rw [sioK_u (show 32 * L + y < 192 by omega) e0 hcn, if_pos (by omega), show (32 * L + y) % 32 = y by omega]
                  refine e_aload_n hX 0 iX12_smallestKey_31 rfl rfl ?_
                  refine e_iload_n hX 2 iX12_smallestKey_32 rfl rfl ?_
                  refine e_callV hX iX12_smallestKey_33 hm.1 (n_tells htr hm (nI y)) rfl rfl ⟨by decide, by decide, by decide, by decide⟩ (Nat.le_of_ble_eq_true rfl) (fun _ _ h => h.elim) (fun v9 ph9 hv9 => ?_)
                  obtain ⟨rfl, e9⟩ := hv9
                  subst ph9
                  exact e_iret hX hQ iX12_smallestKey_36 rfl (by decide) (by decide) (nP.mk (hm.told hr kept.refl 0) (by rw [hk0]; rfl) (by rw [zI_0 hk0, ha]))
        refine e_iconst (v := 0) hX iX12_smallestKey_7 (by decide) ?_
        refine e_istore_n hX 2 iX12_smallestKey_8 rfl (by decide) ?_
        refine e_loc [0, 1, 2] ?_
        exact inner 33 0 (by omega) (by omega) hinv
  refine e_iconst (v := 0) hX iX12_smallestKey_0 (by decide) ?_
  refine e_istore_n hX 1 iX12_smallestKey_1 rfl (by decide) ?_
  refine e_loc [0, 1] ?_
  exact outer 7 0 (by omega) (by omega) (fun k hk => absurd hk (Nat.not_lt_zero k))
end MON
