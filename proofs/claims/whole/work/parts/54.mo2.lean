/-! the model: minimalAt -/
section MOO
variable {l : Launch} {θ : e_T} {ph : e_PH} {mo : Nat} {μ : Nat → Nat} {σ : SG} {t : Int32} {s : Nat → Int32} {F : Nat → Nat → Int32}
theorem w_minimalAt (htr : l.stackTraces = false) (hm : MP θ ph mo μ σ t) (c q : Int32) : MC yX12_minimalAt cX12_minimalAt 6 (some .int) 4 0 0 l θ [.ref mo, .int c, .int q] ph (nP θ ph mo μ σ (k_minAt σ c q) (zI (k_minAt σ c q) (a_minAt σ c q))) (fun _ _ => False) := by
  obtain ⟨s, F, hm, hr, rfl⟩ := hm
  refine MC.of htr (by decide) (Nat.le_of_ble_eq_true rfl) ?_
  intro x hX hQ hT
  refine e_iload_n hX 1 iX12_minimalAt_0 rfl rfl ?_
  refine e_callS hX iX12_minimalAt_1 (n_isColumn htr c) rfl rfl ⟨by decide, by decide, by decide, by decide⟩ (Nat.le_of_ble_eq_true rfl) (fun _ _ h => h.elim) (fun v9 ph9 hv9 => ?_)
  obtain ⟨rfl, e9⟩ := hv9
  subst ph9
  refine e_if_ne hX iX12_minimalAt_4 (fun c4 => ?_) (fun c4 => ?_)
  · have h2 := b2i_n0.mp c4
    obtain ⟨c', hc', rfl⟩ := colB_t.mp h2
    have hix : ix (nI c') = c' := ix_n (by omega)
    let H : Nat → Bool := hitB (fun i => (minM σ c').testBit i)
    have hp32 : pop32 (minM σ c') ≤ 32 := cntB_le _ _
    have tot : cntB 192 H = pop32 (minM σ c') := cnt_192
    have outer : ∀ (z L : Nat), 6 - L < z → L ≤ 6 → (∀ k, k < 32 * L → ¬ (H k = true ∧ q = nI (cntB k H))) → EJ θ x 18 [(0, .ref mo), (1, .int (nI c')), (2, .int q), (3, .int (q - nI (cntB (32 * L) H))), (4, .int (nI L))] [] ph 0 0 := by
      intro z
      induction z with
      | zero => intro L hz; omega
      | succ z ih =>
        intro L hz hL hinv
        refine e_iload hX iX12_minimalAt_18 rfl ?_
        refine e_iconst (v := 5) hX iX12_minimalAt_20 (by decide) ?_
        refine e_icmp_gt hX iX12_minimalAt_21 (fun c21 => ?_) (fun c21 => ?_)
        · have hL6 : L = 6 := by
            rcases Nat.lt_or_ge L 6 with h | h
            · exact absurd (nI_le (show L ≤ 5 by omega) (by decide)) (Int32.not_le.mpr c21)
            · omega
          subst hL6
          have hno : ¬ (decide (0 ≤ q) && decide (q < nI (pop32 (minM σ (ix (nI c')))))) = true := fun h => by
            rw [hix] at h
            obtain ⟨q', hq', rfl⟩ := (ltB_t (by omega)).mp h
            obtain ⟨k, k1, k2, k3⟩ := cnt_at (H := H) (N := 192) (q := q') (by rw [tot]; exact hq')
            exact hinv k k1 ⟨k2, by rw [k3]⟩
          have hk : k_minAt σ (nI c') q = 1 := (if_pos h2).trans (if_neg hno)
          refine e_aload_n hX 0 iX12_minimalAt_83 rfl rfl ?_
          refine e_iconst (v := 1) hX iX12_minimalAt_84 (by decide) ?_
          refine e_callV hX iX12_minimalAt_85 hm.1 (n_fails htr hm 1) rfl rfl ⟨by decide, by decide, by decide, by decide⟩ (Nat.le_of_ble_eq_true rfl) (fun _ _ h => h.elim) (fun v9 ph9 hv9 => ?_)
          obtain ⟨rfl, e9⟩ := hv9
          subst ph9
          exact e_iret hX hQ iX12_minimalAt_88 rfl (by decide) (by decide) (nP.mk (hm.told hr kept.refl 1) (by rw [hk]; rfl) (by rw [zI_n (by omega)]))
        · have hL6 : L < 6 := by
            rcases Nat.lt_or_ge L 6 with h | h
            · exact h
            · exact absurd (nI_lt (show 5 < L by omega) (by omega)) c21
          have inner : ∀ (z' y : Nat), 32 - y < z' → y ≤ 32 → (∀ k, k < 32 * L + y → ¬ (H k = true ∧ q = nI (cntB k H))) → EJ θ x 27 [(0, .ref mo), (1, .int (nI c')), (2, .int q), (3, .int (q - nI (cntB (32 * L + y) H))), (4, .int (nI L)), (5, .int (nI y))] [] ph 0 0 := by
            intro z'
            induction z' with
            | zero => intro y hz'; omega
            | succ z' ih' =>
              intro y hz' hy hk
              refine e_iload hX iX12_minimalAt_27 rfl ?_
              refine e_bipush (v := 32) hX iX12_minimalAt_29 (by decide) ?_
              refine e_icmp_ge hX iX12_minimalAt_31 (fun c31 => ?_) (fun c31 => ?_)
              · have hy2 := nI_same hy (by decide) c31
                subst hy2
                refine e_iinc hX iX12_minimalAt_77 rfl (by first | exact nI_inc _ | rfl) (by decide) ?_
                refine e_goto hX iX12_minimalAt_80 ?_
                refine e_loc [0, 1, 2, 3, 4] ?_
                exact ih (L + 1) (by omega) (by omega) hk
              · have hy2 := nI_less hy (by decide) c31
                have eH : H (32 * L + y) = (decide (popN y = L) && isMinB σ c' y) := by
                  show (decide (popN ((32 * L + y) % 32) = (32 * L + y) / 32) && (minM σ c').testBit ((32 * L + y) % 32)) = _
                  rw [show (32 * L + y) % 32 = y by omega, show (32 * L + y) / 32 = L by omega, minM_t hy2]
                have hp := pop_le5 y hy2
                have hcn := cntB_le H (32 * L + y)
                have next : ∀ w, w = q - nI (cntB (32 * L + (y + 1)) H) → ¬ (H (32 * L + y) = true ∧ q = nI (cntB (32 * L + y) H)) → EJ θ x 71 [(0, .ref mo), (1, .int (nI c')), (2, .int q), (3, .int w), (4, .int (nI L)), (5, .int (nI y))] [] ph 0 0 := by
                  intro w hw hf
                  refine e_iinc hX iX12_minimalAt_71 rfl (by first | exact nI_inc _ | rfl) (by decide) ?_
                  refine e_goto hX iX12_minimalAt_74 ?_
                  refine e_loc [0, 1, 2, 3, 4, 5] ?_
                  rw [hw]
                  refine ih' (y + 1) (by omega) (by omega) (fun k hk2 => ?_)
                  by_cases e : k = 32 * L + y
                  · subst e; exact hf
                  · exact hk k (by omega)
                refine e_iload hX iX12_minimalAt_34 rfl ?_
                refine e_callS hX iX12_minimalAt_36 (n_sizeOf htr hy2) rfl rfl ⟨by decide, by decide, by decide, by decide⟩ (Nat.le_of_ble_eq_true rfl) (fun _ _ h => h.elim) (fun v9 ph9 hv9 => ?_)
                obtain ⟨rfl, e9⟩ := hv9
                subst ph9
                refine e_iload hX iX12_minimalAt_39 rfl ?_
                refine e_icmp_ne hX iX12_minimalAt_41 (fun c41 => ?_) (fun c41 => ?_)
                · have e0 : H (32 * L + y) = false := by rw [eH]; exact and_f1 (decide_eq_false (fun e => c41 (by rw [e])))
                  refine e_loc [0, 1, 2, 3, 4, 5] ?_
                  exact next _ (by rw [show 32 * L + (y + 1) = 32 * L + y + 1 by omega, cntB_s0 e0]) (fun h => by rw [e0] at h; cases h.1)
                · have e1 : popN y = L := (nI_eq (by omega) (by omega)).mp c41
                  refine e_aload_n hX 0 iX12_minimalAt_44 rfl rfl ?_
                  refine e_iload hX iX12_minimalAt_45 rfl ?_
                  refine e_iload_n hX 1 iX12_minimalAt_47 rfl rfl ?_
                  refine e_callV hX iX12_minimalAt_48 hm.1 (n_isMinimal htr hm hr hy2 hc') rfl rfl ⟨by decide, by decide, by decide, by decide⟩ (Nat.le_of_ble_eq_true rfl) (fun _ _ h => h.elim) (fun v9 ph9 hv9 => ?_)
                  obtain ⟨rfl, e9⟩ := hv9
                  subst ph9
                  refine e_if_ne hX iX12_minimalAt_51 (fun c51 => ?_) (fun c51 => ?_)
                  · have e0 : H (32 * L + y) = true := by rw [eH]; exact and_tt (decide_eq_true e1) (b2i_n0.mp c51)
                    refine e_iload_n hX 3 iX12_minimalAt_57 rfl rfl ?_
                    refine e_if_ne hX iX12_minimalAt_58 (fun c58 => ?_) (fun c58 => ?_)
                    · have hne : ¬ q = nI (cntB (32 * L + y) H) := fun e => c58 (by rw [e]; exact Int32.sub_self _)
                      refine e_iinc hX iX12_minimalAt_68 rfl (sub_dec q _) (by decide) ?_
                      refine e_loc [0, 1, 2, 3, 4, 5] ?_
                      exact next _ (by rw [show 32 * L + (y + 1) = 32 * L + y + 1 by omega, cntB_s1 e0]) (fun h => hne h.2)
                    · have heq : q = nI (cntB (32 * L + y) H) := by
                        have e5 : q - nI (cntB (32 * L + y) H) + nI (cntB (32 * L + y) H) = 0 + nI (cntB (32 * L + y) H) := by rw [c58]
                        rw [Int32.sub_add_cancel, Int32.zero_add] at e5
                        exact e5
                      have hlt : cntB (32 * L + y) H < pop32 (minM σ c') := by
                        rw [← tot]
                        have h5 := cntB_mono2 (f := H) (a := 32 * L + y + 1) (b := 192) (by omega)
                        rw [cntB_s1 e0] at h5
                        omega
                      have hyes : (decide (0 ≤ q) && decide (q < nI (pop32 (minM σ (ix (nI c')))))) = true := by
                        rw [hix]
                        exact (ltB_t (by omega)).mpr ⟨_, hlt, heq⟩
                      have hk0 : k_minAt σ (nI c') q = 0 := (if_pos h2).trans (if_pos hyes)
                      have ha : a_minAt σ (nI c') q = nI y := by
                        unfold a_minAt sioN
                        rw [hix, heq, ix_n (by omega), sioK_u (show 32 * L + y < 192 by omega) e0 rfl, if_pos (by omega), show (32 * L + y) % 32 = y by omega]
                      refine e_aload_n hX 0 iX12_minimalAt_61 rfl rfl ?_
                      refine e_iload hX iX12_minimalAt_62 rfl ?_
                      refine e_callV hX iX12_minimalAt_64 hm.1 (n_tells htr hm (nI y)) rfl rfl ⟨by decide, by decide, by decide, by decide⟩ (Nat.le_of_ble_eq_true rfl) (fun _ _ h => h.elim) (fun v9 ph9 hv9 => ?_)
                      obtain ⟨rfl, e9⟩ := hv9
                      subst ph9
                      exact e_iret hX hQ iX12_minimalAt_67 rfl (by decide) (by decide) (nP.mk (hm.told hr kept.refl 0) (by rw [hk0]; rfl) (by rw [zI_0 hk0, ha]))
                  · have e0 : H (32 * L + y) = false := by rw [eH]; exact and_f2 (b2i_0.mp c51)
                    refine e_goto hX iX12_minimalAt_54 ?_
                    refine e_loc [0, 1, 2, 3, 4, 5] ?_
                    exact next _ (by rw [show 32 * L + (y + 1) = 32 * L + y + 1 by omega, cntB_s0 e0]) (fun h => by rw [e0] at h; cases h.1)
          refine e_iconst (v := 0) hX iX12_minimalAt_24 (by decide) ?_
          refine e_istore hX iX12_minimalAt_25 (by decide) ?_
          refine e_loc [0, 1, 2, 3, 4, 5] ?_
          exact inner 33 0 (by omega) (by omega) hinv
    refine e_iload_n hX 2 iX12_minimalAt_13 rfl rfl ?_
    refine e_istore_n hX 3 iX12_minimalAt_14 rfl (by decide) ?_
    refine e_iconst (v := 0) hX iX12_minimalAt_15 (by decide) ?_
    refine e_istore hX iX12_minimalAt_16 (by decide) ?_
    refine e_loc [0, 1, 2, 3, 4] ?_
    have := outer 7 0 (by omega) (by omega) (fun k hk => absurd hk (Nat.not_lt_zero k))
    rw [show q - nI (cntB (32 * 0) H) = q from Int32.sub_zero _] at this
    exact this
  · have hk : k_minAt σ c q = 1 := if_neg (by rw [b2i_0.mp c4]; decide)
    refine e_aload_n hX 0 iX12_minimalAt_7 rfl rfl ?_
    refine e_iconst (v := 1) hX iX12_minimalAt_8 (by decide) ?_
    refine e_callV hX iX12_minimalAt_9 hm.1 (n_fails htr hm 1) rfl rfl ⟨by decide, by decide, by decide, by decide⟩ (Nat.le_of_ble_eq_true rfl) (fun _ _ h => h.elim) (fun v9 ph9 hv9 => ?_)
    obtain ⟨rfl, e9⟩ := hv9
    subst ph9
    exact e_iret hX hQ iX12_minimalAt_12 rfl (by decide) (by decide) (nP.mk (hm.told hr kept.refl 1) (by rw [hk]; rfl) (by rw [zI_n (by omega)]))
end MOO
