/-! the model: fixes, keyed and what asks them -/
theorem MR.eq {σ : SG} {s : Nat → Int32} {F : Nat → Nat → Int32} (h : MR σ s F) (y : Int32) {i j : Nat} (hi : i < gN σ) (hj : j < gN σ) : eqIn y (vF F i) (vF F j) = eqIn y (gV σ i) (gV σ j) := eqIn_c (h.v hi) (h.v hj)
def isMinB (σ : SG) (c s : Nat) : Bool := detB σ s c && allB s (fun l => !subN l s || !detB σ l c)
def minCnt (σ : SG) (c : Nat) : Nat := cntB 32 (isMinB σ c)
section MOI
variable {l : Launch} {θ : e_T} {ph : e_PH} {mo : Nat} {μ : Nat → Nat} {σ : SG} {t : Int32} {s : Nat → Int32} {F : Nat → Nat → Int32}
theorem n_fixes (htr : l.stackTraces = false) (hm : MI θ ph mo μ s F) (hr : MR σ s F) {y c : Nat} (hy : y < 32) (hc : c < 5) : MC yX12_fixes cX12_fixes 6 (some .boolean) 2 0 0 l θ [.ref mo, .int (nI y), .int (nI c)] ph (fun z p => z = some (.int (b2i (detB σ y c))) ∧ p = ph) (fun _ _ => False) := by
  have hn := hr.ok.1
  let P : Nat → Nat → Bool := fun k i => !eqIn (nI y) (gV σ k) (gV σ i) || decide (gV σ k c = gV σ i c)
  let Q : Nat → Bool := fun k => allB k (P k)
  let X0 : Nat → Nat → Bool := fun k i => (!y.testBit c && allB k Q) && allB i (P k)
  have x0 : ∀ k, X0 k 0 = (!y.testBit c && allB k Q) := fun k => Bool.and_true _
  have xs : ∀ k, X0 k k = X0 (k + 1) 0 := fun k => by rw [x0]; show ((!y.testBit c && allB k Q) && Q k) = (!y.testBit c && (allB k Q && Q k)); rw [Bool.and_assoc]
  have xf : ∀ k i, i ≤ k → X0 k i = false → X0 (k + 1) 0 = false := fun k i hik h => by
    rw [← xs]
    cases h2 : (!y.testBit c && allB k Q)
    · exact and_f1 h2
    · have h3 : allB i (P k) = false := by
        have : ((!y.testBit c && allB k Q) && allB i (P k)) = false := h
        rw [h2] at this
        exact this
      refine and_f2 ?_
      cases h4 : allB k (P k)
      · rfl
      · rw [allB_t.mpr (fun z hz => allB_t.mp h4 z (by omega))] at h3; cases h3
  refine MC.of htr (by decide) (Nat.le_of_ble_eq_true rfl) ?_
  intro x hX hQ hT
  have outer : ∀ (z k : Nat), gN σ - k < z → k ≤ gN σ → EJ θ x 17 [(0, .ref mo), (1, .int (nI y)), (2, .int (nI c)), (3, .int (b2i (X0 k 0))), (4, .int (nI k))] [] ph 0 0 := by
    intro z
    induction z with
    | zero => intro k hz; omega
    | succ z ih =>
      intro k hz hk
      refine e_iload hX iX12_fixes_17 rfl ?_
      refine e_aload_n hX 0 iX12_fixes_19 rfl rfl ?_
      refine e_get hX iX12_fixes_20 hm.1 rfl ?_
      rw [hr.1.1]
      refine e_icmp_ge hX iX12_fixes_23 (fun c23 => ?_) (fun c23 => ?_)
      · have hkn := nI_same hk (by omega) c23
        subst hkn
        refine e_iload_n hX 3 iX12_fixes_87 rfl rfl ?_
        exact e_zret hX hQ iX12_fixes_88 rfl (nar_b _) (by decide) (by decide) ⟨by rw [x0]; rfl, rfl⟩
      · have hkn := nI_less hk (by omega) c23
        have done : ∀ b, b = X0 (k + 1) 0 → EJ θ x 81 [(0, .ref mo), (1, .int (nI y)), (2, .int (nI c)), (3, .int (b2i b)), (4, .int (nI k))] [] ph 0 0 := by
          intro b hb
          refine e_iinc hX iX12_fixes_81 rfl (by first | exact nI_inc _ | rfl) (by decide) ?_
          refine e_goto hX iX12_fixes_84 ?_
          refine e_loc [0, 1, 2, 3, 4] ?_
          rw [hb]
          exact ih (k + 1) (by omega) (by omega)
        have inner : ∀ (z' i : Nat), k - i < z' → i ≤ k → EJ θ x 29 [(0, .ref mo), (1, .int (nI y)), (2, .int (nI c)), (3, .int (b2i (X0 k i))), (4, .int (nI k)), (5, .int (nI i))] [] ph 0 0 := by
          intro z'
          induction z' with
          | zero => intro i hz'; omega
          | succ z' ih' =>
            intro i hz' hik
            refine e_iload hX iX12_fixes_29 rfl ?_
            refine e_iload hX iX12_fixes_31 rfl ?_
            refine e_icmp_ge hX iX12_fixes_33 (fun c33 => ?_) (fun c33 => ?_)
            · have hin := nI_same hik (by omega) c33
              refine e_loc [0, 1, 2, 3, 4] ?_
              exact done _ (by rw [hin]; exact xs k)
            · have hin := nI_less hik (by omega) c33
              refine e_iload_n hX 3 iX12_fixes_36 rfl rfl ?_
              refine e_if_eq hX iX12_fixes_37 (fun c37 => ?_) (fun c37 => ?_)
              · refine e_loc [0, 1, 2, 3, 4] ?_
                exact done _ (by rw [b2i_0.mp c37]; exact (xf k i hik (b2i_0.mp c37)).symm)
              · have ht := b2i_n0.mp c37
                have back : ∀ b, b = P k i → EJ θ x 74 [(0, .ref mo), (1, .int (nI y)), (2, .int (nI c)), (4, .int (nI k)), (5, .int (nI i))] [.int (b2i b)] ph 0 0 := by
                  intro b hb
                  refine e_istore_n hX 3 iX12_fixes_74 rfl (by decide) ?_
                  refine e_iinc hX iX12_fixes_75 rfl (by first | exact nI_inc _ | rfl) (by decide) ?_
                  refine e_goto hX iX12_fixes_78 ?_
                  refine e_loc [0, 1, 2, 3, 4, 5] ?_
                  have := ih' (i + 1) (by omega) (by omega)
                  rw [show X0 k (i + 1) = b by
                    show ((!y.testBit c && allB k Q) && (allB i (P k) && P k i)) = b
                    rw [← Bool.and_assoc, show ((!y.testBit c && allB k Q) && allB i (P k)) = true from ht, hb]; rfl] at this
                  exact this
                refine e_aload_n hX 0 iX12_fixes_40 rfl rfl ?_
                refine e_iload_n hX 1 iX12_fixes_41 rfl rfl ?_
                refine e_iload hX iX12_fixes_42 rfl ?_
                refine e_iload hX iX12_fixes_44 rfl ?_
                refine e_callV hX iX12_fixes_46 hm.1 (n_alike htr hm (nI y) (show k < 18 by omega) (show i < 18 by omega)) rfl rfl ⟨by decide, by decide, by decide, by decide⟩ (Nat.le_of_ble_eq_true rfl) (fun _ _ h => h.elim) (fun v9 ph9 hv9 => ?_)
                obtain ⟨rfl, e9⟩ := hv9
                subst ph9
                rw [hr.eq (nI y) hkn (by omega)]
                refine e_if_eq hX iX12_fixes_49 (fun c49 => ?_) (fun c49 => ?_)
                · refine e_iconst (v := 1) hX iX12_fixes_69 (by decide) ?_
                  refine e_goto hX iX12_fixes_70 ?_
                  refine e_loc [0, 1, 2, 4, 5] ?_
                  exact back true (or_t1 (by rw [b2i_0.mp c49]; rfl)).symm
                · refine e_aload_n hX 0 iX12_fixes_52 rfl rfl ?_
                  refine e_iload hX iX12_fixes_53 rfl ?_
                  refine e_iload_n hX 2 iX12_fixes_55 rfl rfl ?_
                  refine e_callV hX iX12_fixes_56 hm.1 (n_at htr hm (show k < 18 by omega) hc) rfl rfl ⟨by decide, by decide, by decide, by decide⟩ (Nat.le_of_ble_eq_true rfl) (fun _ _ h => h.elim) (fun v9 ph9 hv9 => ?_)
                  obtain ⟨rfl, e9⟩ := hv9
                  subst ph9
                  refine e_aload_n hX 0 iX12_fixes_59 rfl rfl ?_
                  refine e_iload hX iX12_fixes_60 rfl ?_
                  refine e_iload_n hX 2 iX12_fixes_62 rfl rfl ?_
                  refine e_callV hX iX12_fixes_63 hm.1 (n_at htr hm (show i < 18 by omega) hc) rfl rfl ⟨by decide, by decide, by decide, by decide⟩ (Nat.le_of_ble_eq_true rfl) (fun _ _ h => h.elim) (fun v9 ph9 hv9 => ?_)
                  obtain ⟨rfl, e9⟩ := hv9
                  subst ph9
                  rw [hr.v hkn c hc, hr.v (show i < gN σ by omega) c hc]
                  refine e_icmp_ne hX iX12_fixes_66 (fun c66 => ?_) (fun c66 => ?_)
                  · refine e_iconst (v := 0) hX iX12_fixes_73 (by decide) ?_
                    refine e_loc [0, 1, 2, 4, 5] ?_
                    exact back false (or_ff (by rw [b2i_n0.mp c49]; rfl) (decide_eq_false c66)).symm
                  · refine e_iconst (v := 1) hX iX12_fixes_69 (by decide) ?_
                    refine e_goto hX iX12_fixes_70 ?_
                    refine e_loc [0, 1, 2, 4, 5] ?_
                    exact back true (or_t2 (decide_eq_true c66)).symm
        refine e_iconst (v := 0) hX iX12_fixes_26 (by decide) ?_
        refine e_istore hX iX12_fixes_27 (by decide) ?_
        refine e_loc [0, 1, 2, 3, 4, 5] ?_
        exact inner (k + 1) 0 (by omega) (by omega)
  have start : ∀ b, b = X0 0 0 → EJ θ x 13 [(0, .ref mo), (1, .int (nI y)), (2, .int (nI c))] [.int (b2i b)] ph 0 0 := by
    intro b hb
    refine e_istore_n hX 3 iX12_fixes_13 rfl (by decide) ?_
    refine e_iconst (v := 0) hX iX12_fixes_14 (by decide) ?_
    refine e_istore hX iX12_fixes_15 (by decide) ?_
    refine e_loc [0, 1, 2, 3, 4] ?_
    rw [hb]
    exact outer (gN σ + 1) 0 (by omega) (by omega)
  have e0 : X0 0 0 = !y.testBit c := by rw [x0]; exact Bool.and_true _
  refine e_iload_n hX 1 iX12_fixes_0 rfl rfl ?_
  refine e_iload_n hX 2 iX12_fixes_1 rfl rfl ?_
  refine e_ishr hX iX12_fixes_2 ?_
  refine e_iconst (v := 1) hX iX12_fixes_3 (by decide) ?_
  refine e_iand hX iX12_fixes_4 ?_
  refine e_if_ne hX iX12_fixes_5 (fun c5 => ?_) (fun c5 => ?_)
  · have h2 : sb (nI y) c = true := by
      rcases and1 (nI y >>> (nI c &&& 31)) with e | e
      · exact absurd e c5
      · exact sb_1.mp e
    rw [sb_n y (show c < 32 by omega)] at h2
    refine e_iconst (v := 0) hX iX12_fixes_12 (by decide) ?_
    exact start false (by rw [e0, h2]; rfl)
  · have h2 := sb_0.mp c5
    rw [sb_n y (show c < 32 by omega)] at h2
    refine e_iconst (v := 1) hX iX12_fixes_8 (by decide) ?_
    refine e_goto hX iX12_fixes_9 ?_
    exact start true (by rw [e0, h2]; rfl)
theorem n_keyed (htr : l.stackTraces = false) (hm : MI θ ph mo μ s F) (hr : MR σ s F) (y : Int32) : MC yX12_keyed cX12_keyed 5 (some .boolean) 2 0 0 l θ [.ref mo, .int y] ph (fun z p => z = some (.int (b2i (keyB y (gN σ) (gV σ)))) ∧ p = ph) (fun _ _ => False) := by
  have hn := hr.ok.1
  let P : Nat → Nat → Bool := fun k i => !eqIn y (gV σ k) (gV σ i)
  let Q : Nat → Bool := fun k => allB k (P k)
  refine MC.of htr (by decide) (Nat.le_of_ble_eq_true rfl) ?_
  intro x hX hQ hT
  have outer : ∀ (z k : Nat), gN σ - k < z → k ≤ gN σ → EJ θ x 4 [(0, .ref mo), (1, .int y), (2, .int (b2i (allB k Q))), (3, .int (nI k))] [] ph 0 0 := by
    intro z
    induction z with
    | zero => intro k hz; omega
    | succ z ih =>
      intro k hz hk
      refine e_iload_n hX 3 iX12_keyed_4 rfl rfl ?_
      refine e_aload_n hX 0 iX12_keyed_5 rfl rfl ?_
      refine e_get hX iX12_keyed_6 hm.1 rfl ?_
      rw [hr.1.1]
      refine e_icmp_ge hX iX12_keyed_9 (fun c9 => ?_) (fun c9 => ?_)
      · have hkn := nI_same hk (by omega) c9
        subst hkn
        refine e_iload_n hX 2 iX12_keyed_54 rfl rfl ?_
        exact e_zret hX hQ iX12_keyed_55 rfl (nar_b _) (by decide) (by decide) ⟨rfl, rfl⟩
      · have hkn := nI_less hk (by omega) c9
        have inner : ∀ (z' i : Nat), k - i < z' → i ≤ k → EJ θ x 15 [(0, .ref mo), (1, .int y), (2, .int (b2i (allB k Q && allB i (P k)))), (3, .int (nI k)), (4, .int (nI i))] [] ph 0 0 := by
          intro z'
          induction z' with
          | zero => intro i hz'; omega
          | succ z' ih' =>
            intro i hz' hik
            have back : ∀ b, b = (allB k Q && allB (i + 1) (P k)) → i < k → EJ θ x 41 [(0, .ref mo), (1, .int y), (3, .int (nI k)), (4, .int (nI i))] [.int (b2i b)] ph 0 0 := by
              intro b hb hin
              refine e_istore_n hX 2 iX12_keyed_41 rfl (by decide) ?_
              refine e_iinc hX iX12_keyed_42 rfl (by first | exact nI_inc _ | rfl) (by decide) ?_
              refine e_goto hX iX12_keyed_45 ?_
              refine e_loc [0, 1, 2, 3, 4] ?_
              rw [hb]
              exact ih' (i + 1) (by omega) (by omega)
            have ea : (allB k Q && allB (i + 1) (P k)) = ((allB k Q && allB i (P k)) && P k i) := by rw [allB_s, Bool.and_assoc]
            refine e_iload hX iX12_keyed_15 rfl ?_
            refine e_iload_n hX 3 iX12_keyed_17 rfl rfl ?_
            refine e_icmp_ge hX iX12_keyed_18 (fun c18 => ?_) (fun c18 => ?_)
            · have hin := nI_same hik (by omega) c18
              subst hin
              refine e_iinc hX iX12_keyed_48 rfl (by first | exact nI_inc _ | rfl) (by decide) ?_
              refine e_goto hX iX12_keyed_51 ?_
              refine e_loc [0, 1, 2, 3] ?_
              exact ih (i + 1) (by omega) (by omega)
            · have hin := nI_less hik (by omega) c18
              refine e_iload_n hX 2 iX12_keyed_21 rfl rfl ?_
              refine e_if_eq hX iX12_keyed_22 (fun c22 => ?_) (fun c22 => ?_)
              · refine e_iconst (v := 0) hX iX12_keyed_40 (by decide) ?_
                refine e_loc [0, 1, 3, 4] ?_
                exact back false (by rw [ea, b2i_0.mp c22]; rfl) hin
              · have ht := b2i_n0.mp c22
                refine e_aload_n hX 0 iX12_keyed_25 rfl rfl ?_
                refine e_iload_n hX 1 iX12_keyed_26 rfl rfl ?_
                refine e_iload_n hX 3 iX12_keyed_27 rfl rfl ?_
                refine e_iload hX iX12_keyed_28 rfl ?_
                refine e_callV hX iX12_keyed_30 hm.1 (n_alike htr hm y (show k < 18 by omega) (show i < 18 by omega)) rfl rfl ⟨by decide, by decide, by decide, by decide⟩ (Nat.le_of_ble_eq_true rfl) (fun _ _ h => h.elim) (fun v9 ph9 hv9 => ?_)
                obtain ⟨rfl, e9⟩ := hv9
                subst ph9
                rw [hr.eq y hkn (by omega)]
                refine e_if_ne hX iX12_keyed_33 (fun c33 => ?_) (fun c33 => ?_)
                · refine e_iconst (v := 0) hX iX12_keyed_40 (by decide) ?_
                  refine e_loc [0, 1, 3, 4] ?_
                  exact back false (by rw [ea, ht]; show false = !eqIn y (gV σ k) (gV σ i); rw [b2i_n0.mp c33]; rfl) hin
                · refine e_iconst (v := 1) hX iX12_keyed_36 (by decide) ?_
                  refine e_goto hX iX12_keyed_37 ?_
                  refine e_loc [0, 1, 3, 4] ?_
                  exact back true (by rw [ea, ht]; show true = !eqIn y (gV σ k) (gV σ i); rw [b2i_0.mp c33]; rfl) hin
        refine e_iconst (v := 0) hX iX12_keyed_12 (by decide) ?_
        refine e_istore hX iX12_keyed_13 (by decide) ?_
        refine e_loc [0, 1, 2, 3, 4] ?_
        have := inner (k + 1) 0 (by omega) (by omega)
        rw [show (allB k Q && allB 0 (P k)) = allB k Q from Bool.and_true _] at this
        exact this
  refine e_iconst (v := 1) hX iX12_keyed_0 (by decide) ?_
  refine e_istore_n hX 2 iX12_keyed_1 rfl (by decide) ?_
  refine e_iconst (v := 0) hX iX12_keyed_2 (by decide) ?_
  refine e_istore_n hX 3 iX12_keyed_3 rfl (by decide) ?_
  refine e_loc [0, 1, 2, 3] ?_
  exact outer (gN σ + 1) 0 (by omega) (by omega)
theorem w_isKey (htr : l.stackTraces = false) (hm : MP θ ph mo μ σ t) (y : Int32) : MC yX12_isKey cX12_isKey 2 (some .boolean) 3 0 0 l θ [.ref mo, .int y] ph (nP θ ph mo μ σ (k_set y) (zB (k_set y) (keyB y (gN σ) (gV σ)))) (fun _ _ => False) := by
  obtain ⟨s, F, hm, hr, rfl⟩ := hm
  refine MC.of htr (by decide) (Nat.le_of_ble_eq_true rfl) ?_
  intro x hX hQ hT
  refine e_aload_n hX 0 iX12_isKey_0 rfl rfl ?_
  refine e_iload_n hX 1 iX12_isKey_1 rfl rfl ?_
  refine e_callS hX iX12_isKey_2 (n_isSet htr y) rfl rfl ⟨by decide, by decide, by decide, by decide⟩ (Nat.le_of_ble_eq_true rfl) (fun _ _ h => h.elim) (fun v9 ph9 hv9 => ?_)
  obtain ⟨rfl, e9⟩ := hv9
  subst ph9
  refine e_if_eq hX iX12_isKey_5 (fun c5 => ?_) (fun c5 => ?_)
  · have h0 := b2i_0.mp c5
    have hk : k_set y = 1 := if_neg (by rw [h0]; decide)
    refine e_iconst (v := 1) hX iX12_isKey_12 (by decide) ?_
    refine e_iload_n hX 1 iX12_isKey_13 rfl rfl ?_
    refine e_callS hX iX12_isKey_14 (n_isSet htr y) rfl rfl ⟨by decide, by decide, by decide, by decide⟩ (Nat.le_of_ble_eq_true rfl) (fun _ _ h => h.elim) (fun v9 ph9 hv9 => ?_)
    obtain ⟨rfl, e9⟩ := hv9
    subst ph9
    refine e_if_eq hX iX12_isKey_17 (fun c17 => ?_) (fun c17 => ?_)
    · refine e_iconst (v := 0) hX iX12_isKey_32 (by decide) ?_
      refine e_callV hX iX12_isKey_33 hm.1 (n_asks htr hm 1 false) rfl rfl ⟨by decide, by decide, by decide, by decide⟩ (Nat.le_of_ble_eq_true rfl) (fun _ _ h => h.elim) (fun v9 ph9 hv9 => ?_)
      obtain ⟨rfl, e9⟩ := hv9
      subst ph9
      exact e_zret hX hQ iX12_isKey_36 rfl (nar_b _) (by decide) (by decide) (nP.mk (hm.told hr kept.refl 1) (by rw [hk]; rfl) (by unfold zB; rw [hk]; rfl))
    · exact absurd c5 c17
  · have h0 := b2i_n0.mp c5
    have hk : k_set y = 0 := if_pos h0
    have fin : ∀ b, b = keyB y (gN σ) (gV σ) → EJ θ x 33 [(0, .ref mo)] [.int (b2i b), .int 0, .ref mo] ph 0 0 := by
      intro b hb
      refine e_callV hX iX12_isKey_33 hm.1 (n_asks htr hm 0 b) rfl rfl ⟨by decide, by decide, by decide, by decide⟩ (Nat.le_of_ble_eq_true rfl) (fun _ _ h => h.elim) (fun v9 ph9 hv9 => ?_)
      obtain ⟨rfl, e9⟩ := hv9
      subst ph9
      exact e_zret hX hQ iX12_isKey_36 rfl (nar_b _) (by decide) (by decide) (nP.mk (hm.told hr kept.refl 0) (by rw [hk]; rfl) (by unfold zB; rw [hk, hb]; rfl))
    refine e_iconst (v := 0) hX iX12_isKey_8 (by decide) ?_
    refine e_goto hX iX12_isKey_9 ?_
    refine e_iload_n hX 1 iX12_isKey_13 rfl rfl ?_
    refine e_callS hX iX12_isKey_14 (n_isSet htr y) rfl rfl ⟨by decide, by decide, by decide, by decide⟩ (Nat.le_of_ble_eq_true rfl) (fun _ _ h => h.elim) (fun v9 ph9 hv9 => ?_)
    obtain ⟨rfl, e9⟩ := hv9
    subst ph9
    refine e_if_eq hX iX12_isKey_17 (fun c17 => ?_) (fun c17 => ?_)
    · exact absurd c17 c5
    · refine e_aload_n hX 0 iX12_isKey_20 rfl rfl ?_
      refine e_iload_n hX 1 iX12_isKey_21 rfl rfl ?_
      refine e_callV hX iX12_isKey_22 hm.1 (n_keyed htr hm hr y) rfl rfl ⟨by decide, by decide, by decide, by decide⟩ (Nat.le_of_ble_eq_true rfl) (fun _ _ h => h.elim) (fun v9 ph9 hv9 => ?_)
      obtain ⟨rfl, e9⟩ := hv9
      subst ph9
      refine e_if_eq hX iX12_isKey_25 (fun c25 => ?_) (fun c25 => ?_)
      · refine e_iconst (v := 0) hX iX12_isKey_32 (by decide) ?_
        refine e_loc [0] ?_
        exact fin false (b2i_0.mp c25).symm
      · refine e_iconst (v := 1) hX iX12_isKey_28 (by decide) ?_
        refine e_goto hX iX12_isKey_29 ?_
        refine e_loc [0] ?_
        exact fin true (b2i_n0.mp c25).symm
theorem w_closureOf (htr : l.stackTraces = false) (hm : MP θ ph mo μ σ t) (y : Int32) : MC yX12_closureOf cX12_closureOf 4 (some .int) 3 0 0 l θ [.ref mo, .int y] ph (nP θ ph mo μ σ (k_set y) (zI (k_set y) (nI (a_clos σ (ix y))))) (fun _ _ => False) := by
  obtain ⟨s, F, hm, hr, rfl⟩ := hm
  refine MC.of htr (by decide) (Nat.le_of_ble_eq_true rfl) ?_
  intro x hX hQ hT
  refine e_iload_n hX 1 iX12_closureOf_0 rfl rfl ?_
  refine e_callS hX iX12_closureOf_1 (n_isSet htr y) rfl rfl ⟨by decide, by decide, by decide, by decide⟩ (Nat.le_of_ble_eq_true rfl) (fun _ _ h => h.elim) (fun v9 ph9 hv9 => ?_)
  obtain ⟨rfl, e9⟩ := hv9
  subst ph9
  refine e_if_ne hX iX12_closureOf_4 (fun c4 => ?_) (fun c4 => ?_)
  · have h0 := b2i_n0.mp c4
    have hk : k_set y = 0 := if_pos h0
    obtain ⟨y', hy', rfl⟩ := setB_t.mp h0
    let G : Nat → Bool := fun c => detB σ y' c
    have loop : ∀ (z i : Nat), 5 - i < z → i ≤ 5 → EJ θ x 17 [(0, .ref mo), (1, .int (nI y')), (2, .int (nI (y' ||| maskN i G))), (3, .int (nI i))] [] ph 0 0 := by
      intro z
      induction z with
      | zero => intro i hz; omega
      | succ z ih =>
        intro i hz hi
        have next : ∀ d, maskN (i + 1) G = maskN i G ||| d → i < 5 → EJ θ x 39 [(0, .ref mo), (1, .int (nI y')), (3, .int (nI i))] [.int (nI d), .int (nI (y' ||| maskN i G))] ph 0 0 := by
          intro d hd hin
          refine e_ior hX iX12_closureOf_39 ?_
          rw [nI_or, Nat.or_assoc, ← hd]
          refine e_istore_n hX 2 iX12_closureOf_40 rfl (by decide) ?_
          refine e_iinc hX iX12_closureOf_41 rfl (by first | exact nI_inc _ | rfl) (by decide) ?_
          refine e_goto hX iX12_closureOf_44 ?_
          refine e_loc [0, 1, 2, 3] ?_
          exact ih (i + 1) (by omega) (by omega)
        refine e_iload_n hX 3 iX12_closureOf_17 rfl rfl ?_
        refine e_iconst (v := 5) hX iX12_closureOf_18 (by decide) ?_
        refine e_icmp_ge hX iX12_closureOf_19 (fun c19 => ?_) (fun c19 => ?_)
        · have hin := nI_same hi (by decide) c19
          subst hin
          refine e_aload_n hX 0 iX12_closureOf_47 rfl rfl ?_
          refine e_iload_n hX 2 iX12_closureOf_48 rfl rfl ?_
          refine e_callV hX iX12_closureOf_49 hm.1 (n_tells htr hm (nI (y' ||| maskN 5 G))) rfl rfl ⟨by decide, by decide, by decide, by decide⟩ (Nat.le_of_ble_eq_true rfl) (fun _ _ h => h.elim) (fun v9 ph9 hv9 => ?_)
          obtain ⟨rfl, e9⟩ := hv9
          subst ph9
          exact e_iret hX hQ iX12_closureOf_52 rfl (by decide) (by decide) (nP.mk (hm.told hr kept.refl 0) (by rw [hk]; rfl) (by rw [zI_0 hk, ix_n (by omega)]; rfl))
        · have hin := nI_less hi (by decide) c19
          refine e_iload_n hX 2 iX12_closureOf_22 rfl rfl ?_
          refine e_aload_n hX 0 iX12_closureOf_23 rfl rfl ?_
          refine e_iload_n hX 1 iX12_closureOf_24 rfl rfl ?_
          refine e_iload_n hX 3 iX12_closureOf_25 rfl rfl ?_
          refine e_callV hX iX12_closureOf_26 hm.1 (n_fixes htr hm hr hy' hin) rfl rfl ⟨by decide, by decide, by decide, by decide⟩ (Nat.le_of_ble_eq_true rfl) (fun _ _ h => h.elim) (fun v9 ph9 hv9 => ?_)
          obtain ⟨rfl, e9⟩ := hv9
          subst ph9
          refine e_if_eq hX iX12_closureOf_29 (fun c29 => ?_) (fun c29 => ?_)
          · refine e_iconst (v := 0) hX iX12_closureOf_38 (by decide) ?_
            refine e_loc [0, 1, 3] ?_
            exact next 0 (by rw [maskN_s0 (b2i_0.mp c29), Nat.or_zero]) hin
          · refine e_iconst (v := 1) hX iX12_closureOf_32 (by decide) ?_
            refine e_iload_n hX 3 iX12_closureOf_33 rfl rfl ?_
            refine e_ishl hX iX12_closureOf_34 ?_
            rw [sh1 i (by omega)]
            refine e_goto hX iX12_closureOf_35 ?_
            refine e_loc [0, 1, 3] ?_
            exact next (2 ^ i) (maskN_s1 (b2i_n0.mp c29)) hin
    refine e_iload_n hX 1 iX12_closureOf_13 rfl rfl ?_
    refine e_istore_n hX 2 iX12_closureOf_14 rfl (by decide) ?_
    refine e_iconst (v := 0) hX iX12_closureOf_15 (by decide) ?_
    refine e_istore_n hX 3 iX12_closureOf_16 rfl (by decide) ?_
    refine e_loc [0, 1, 2, 3] ?_
    have := loop 6 0 (by omega) (by omega)
    rw [show y' ||| maskN 0 G = y' from Nat.or_zero y'] at this
    exact this
  · have hk : k_set y = 1 := if_neg (by rw [b2i_0.mp c4]; decide)
    refine e_aload_n hX 0 iX12_closureOf_7 rfl rfl ?_
    refine e_iconst (v := 1) hX iX12_closureOf_8 (by decide) ?_
    refine e_callV hX iX12_closureOf_9 hm.1 (n_fails htr hm 1) rfl rfl ⟨by decide, by decide, by decide, by decide⟩ (Nat.le_of_ble_eq_true rfl) (fun _ _ h => h.elim) (fun v9 ph9 hv9 => ?_)
    obtain ⟨rfl, e9⟩ := hv9
    subst ph9
    exact e_iret hX hQ iX12_closureOf_12 rfl (by decide) (by decide) (nP.mk (hm.told hr kept.refl 1) (by rw [hk]; rfl) (by rw [zI_n (by omega)]))
theorem n_isMinimal (htr : l.stackTraces = false) (hm : MI θ ph mo μ s F) (hr : MR σ s F) {y c : Nat} (hy : y < 32) (hc : c < 5) : MC yX12_isMinimal cX12_isMinimal 5 (some .boolean) 3 0 0 l θ [.ref mo, .int (nI y), .int (nI c)] ph (fun z p => z = some (.int (b2i (isMinB σ c y))) ∧ p = ph) (fun _ _ => False) := by
  let R : Nat → Bool := fun l => !subN l y || !detB σ l c
  refine MC.of htr (by decide) (Nat.le_of_ble_eq_true rfl) ?_
  intro x hX hQ hT
  have loop : ∀ (z i : Nat), y - i < z → i ≤ y → EJ θ x 10 [(0, .ref mo), (1, .int (nI y)), (2, .int (nI c)), (3, .int (b2i (detB σ y c && allB i R))), (4, .int (nI i))] [] ph 0 0 := by
    intro z
    induction z with
    | zero => intro i hz; omega
    | succ z ih =>
      intro i hz hi
      have back : ∀ b, b = (detB σ y c && allB (i + 1) R) → i < y → EJ θ x 44 [(0, .ref mo), (1, .int (nI y)), (2, .int (nI c)), (4, .int (nI i))] [.int (b2i b)] ph 0 0 := by
        intro b hb hin
        refine e_istore_n hX 3 iX12_isMinimal_44 rfl (by decide) ?_
        refine e_iinc hX iX12_isMinimal_45 rfl (by first | exact nI_inc _ | rfl) (by decide) ?_
        refine e_goto hX iX12_isMinimal_48 ?_
        refine e_loc [0, 1, 2, 3, 4] ?_
        rw [hb]
        exact ih (i + 1) (by omega) (by omega)
      refine e_iload hX iX12_isMinimal_10 rfl ?_
      refine e_iload_n hX 1 iX12_isMinimal_12 rfl rfl ?_
      refine e_icmp_ge hX iX12_isMinimal_13 (fun c13 => ?_) (fun c13 => ?_)
      · have hin := nI_same hi (by omega) c13
        subst hin
        refine e_iload_n hX 3 iX12_isMinimal_51 rfl rfl ?_
        exact e_zret hX hQ iX12_isMinimal_52 rfl (nar_b _) (by decide) (by decide) ⟨rfl, rfl⟩
      · have hin := nI_less hi (by omega) c13
        refine e_iload_n hX 3 iX12_isMinimal_16 rfl rfl ?_
        refine e_if_eq hX iX12_isMinimal_17 (fun c17 => ?_) (fun c17 => ?_)
        · have h0 := b2i_0.mp c17
          have e0 : isMinB σ c y = false := by
            cases h2 : isMinB σ c y
            · rfl
            · have h3 : (detB σ y c && allB y R) = true := h2
              rw [Bool.and_eq_true] at h3
              rw [h3.1, allB_t.mpr (fun k hk => allB_t.mp h3.2 k (by omega))] at h0
              cases h0
          rw [h0]
          refine e_iload_n hX 3 iX12_isMinimal_51 rfl rfl ?_
          exact e_zret hX hQ iX12_isMinimal_52 rfl (nar_b _) (by decide) (by decide) ⟨by rw [e0], rfl⟩
        · have ht := b2i_n0.mp c17
          have ea : (detB σ y c && allB (i + 1) R) = R i := by rw [allB_s, ← Bool.and_assoc, ht]; rfl
          refine e_iload hX iX12_isMinimal_20 rfl ?_
          refine e_iload_n hX 1 iX12_isMinimal_22 rfl rfl ?_
          refine e_iconst (v := (-1)) hX iX12_isMinimal_23 (by decide) ?_
          refine e_ixor hX iX12_isMinimal_24 ?_
          refine e_iand hX iX12_isMinimal_25 ?_
          refine e_if_ne hX iX12_isMinimal_26 (fun c26 => ?_) (fun c26 => ?_)
          · refine e_iconst (v := 1) hX iX12_isMinimal_39 (by decide) ?_
            refine e_goto hX iX12_isMinimal_40 ?_
            refine e_loc [0, 1, 2, 4] ?_
            refine back true ?_ hin
            rw [ea]
            cases h2 : subN i y
            · exact (or_t1 (by rw [h2]; rfl)).symm
            · exact absurd ((nota_t (show i < 2 ^ 12 by omega)).mpr h2) c26
          · have hs := (nota_t (show i < 2 ^ 12 by omega)).mp c26
            refine e_aload_n hX 0 iX12_isMinimal_29 rfl rfl ?_
            refine e_iload hX iX12_isMinimal_30 rfl ?_
            refine e_iload_n hX 2 iX12_isMinimal_32 rfl rfl ?_
            refine e_callV hX iX12_isMinimal_33 hm.1 (n_fixes htr hm hr (show i < 32 by omega) hc) rfl rfl ⟨by decide, by decide, by decide, by decide⟩ (Nat.le_of_ble_eq_true rfl) (fun _ _ h => h.elim) (fun v9 ph9 hv9 => ?_)
            obtain ⟨rfl, e9⟩ := hv9
            subst ph9
            refine e_if_ne hX iX12_isMinimal_36 (fun c36 => ?_) (fun c36 => ?_)
            · refine e_iconst (v := 0) hX iX12_isMinimal_43 (by decide) ?_
              refine e_loc [0, 1, 2, 4] ?_
              exact back false (by rw [ea]; show false = (!subN i y || !detB σ i c); rw [hs, b2i_n0.mp c36]; rfl) hin
            · refine e_iconst (v := 1) hX iX12_isMinimal_39 (by decide) ?_
              refine e_goto hX iX12_isMinimal_40 ?_
              refine e_loc [0, 1, 2, 4] ?_
              exact back true (by rw [ea]; show true = (!subN i y || !detB σ i c); rw [b2i_0.mp c36, Bool.not_false, Bool.or_true]) hin
  refine e_aload_n hX 0 iX12_isMinimal_0 rfl rfl ?_
  refine e_iload_n hX 1 iX12_isMinimal_1 rfl rfl ?_
  refine e_iload_n hX 2 iX12_isMinimal_2 rfl rfl ?_
  refine e_callV hX iX12_isMinimal_3 hm.1 (n_fixes htr hm hr hy hc) rfl rfl ⟨by decide, by decide, by decide, by decide⟩ (Nat.le_of_ble_eq_true rfl) (fun _ _ h => h.elim) (fun v9 ph9 hv9 => ?_)
  obtain ⟨rfl, e9⟩ := hv9
  subst ph9
  refine e_istore_n hX 3 iX12_isMinimal_6 rfl (by decide) ?_
  refine e_iconst (v := 0) hX iX12_isMinimal_7 (by decide) ?_
  refine e_istore hX iX12_isMinimal_8 (by decide) ?_
  refine e_loc [0, 1, 2, 3, 4] ?_
  have := loop (y + 1) 0 (by omega) (by omega)
  rw [show (detB σ y c && allB 0 R) = detB σ y c from Bool.and_true _] at this
  exact this
end MOI
