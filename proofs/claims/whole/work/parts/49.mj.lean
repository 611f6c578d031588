/-! the model: sizes, counts of minimal sets, determines; and what minK is -/
theorem bit_i {y c : Nat} (hc : c < 32) : (nI y >>> (nI c &&& 31)) &&& 1 = b2i (y.testBit c) := by
  rcases and1 (nI y >>> (nI c &&& 31)) with e | e
  · rw [e]
    have := sb_0.mp e
    rw [sb_n y hc] at this
    rw [this]; rfl
  · rw [e]
    have := sb_1.mp e
    rw [sb_n y hc] at this
    rw [this]; rfl
theorem b2i_n (b : Bool) : b2i b = nI (if b = true then 1 else 0) := by cases b <;> rfl
theorem cntB_n {f : Nat → Bool} {n : Nat} : cntB (n + 1) f = cntB n f + (if f n = true then 1 else 0) := rfl
theorem pop5 : ∀ y, y < 32 → cntB 5 (fun i => y.testBit i) = popN y := by decide +kernel
section MOJ
variable {l : Launch} {θ : e_T} {ph : e_PH} {mo : Nat} {μ : Nat → Nat} {σ : SG} {t : Int32} {s : Nat → Int32} {F : Nat → Nat → Int32}
theorem n_sizeOf (htr : l.stackTraces = false) {y : Nat} (hy : y < 32) : MC yX12_sizeOf cX12_sizeOf 3 (some .int) 0 0 0 l θ [.int (nI y)] ph (fun z p => z = some (.int (nI (popN y))) ∧ p = ph) (fun _ _ => False) := by
  refine MC.of htr (by decide) (Nat.le_of_ble_eq_true rfl) ?_
  intro x hX hQ hT
  let P : Nat → Bool := fun i => y.testBit i
  have loop : ∀ (z i : Nat), 5 - i < z → i ≤ 5 → EJ θ x 4 [(0, .int (nI y)), (1, .int (nI (cntB i P))), (2, .int (nI i))] [] ph 0 0 := by
    intro z
    induction z with
    | zero => intro i hz; omega
    | succ z ih =>
      intro i hz hi
      refine e_iload_n hX 2 iX12_sizeOf_4 rfl rfl ?_
      refine e_iconst (v := 5) hX iX12_sizeOf_5 (by decide) ?_
      refine e_icmp_ge hX iX12_sizeOf_6 (fun c6 => ?_) (fun c6 => ?_)
      · have hin := nI_same hi (by decide) c6
        subst hin
        refine e_iload_n hX 1 iX12_sizeOf_23 rfl rfl ?_
        exact e_iret hX hQ iX12_sizeOf_24 rfl (by decide) (by decide) ⟨by rw [← pop5 y hy], rfl⟩
      · have hin := nI_less hi (by decide) c6
        refine e_iload_n hX 1 iX12_sizeOf_9 rfl rfl ?_
        refine e_iload_n hX 0 iX12_sizeOf_10 rfl rfl ?_
        refine e_iload_n hX 2 iX12_sizeOf_11 rfl rfl ?_
        refine e_ishr hX iX12_sizeOf_12 ?_
        refine e_iconst (v := 1) hX iX12_sizeOf_13 (by decide) ?_
        refine e_iand hX iX12_sizeOf_14 ?_
        rw [bit_i (show i < 32 by omega), b2i_n]
        refine e_iadd hX iX12_sizeOf_15 ?_
        rw [nI_add]
        refine e_istore_n hX 1 iX12_sizeOf_16 rfl (by decide) ?_
        refine e_iinc hX iX12_sizeOf_17 rfl (by first | exact nI_inc _ | rfl) (by decide) ?_
        refine e_goto hX iX12_sizeOf_20 ?_
        refine e_loc [0, 1, 2] ?_
        exact ih (i + 1) (by omega) (by omega)
  refine e_iconst (v := 0) hX iX12_sizeOf_0 (by decide) ?_
  refine e_istore_n hX 1 iX12_sizeOf_1 rfl (by decide) ?_
  refine e_iconst (v := 0) hX iX12_sizeOf_2 (by decide) ?_
  refine e_istore_n hX 2 iX12_sizeOf_3 rfl (by decide) ?_
  refine e_loc [0, 1, 2] ?_
  exact loop 6 0 (by omega) (by omega)
theorem n_minimals (htr : l.stackTraces = false) (hm : MI θ ph mo μ s F) (hr : MR σ s F) {c : Nat} (hc : c < 5) : MC yX12_minimals cX12_minimals 4 (some .int) 4 0 0 l θ [.ref mo, .int (nI c)] ph (fun z p => z = some (.int (nI (minCnt σ c))) ∧ p = ph) (fun _ _ => False) := by
  refine MC.of htr (by decide) (Nat.le_of_ble_eq_true rfl) ?_
  intro x hX hQ hT
  let P : Nat → Bool := isMinB σ c
  have loop : ∀ (z i : Nat), 32 - i < z → i ≤ 32 → EJ θ x 4 [(0, .ref mo), (1, .int (nI c)), (2, .int (nI (cntB i P))), (3, .int (nI i))] [] ph 0 0 := by
    intro z
    induction z with
    | zero => intro i hz; omega
    | succ z ih =>
      intro i hz hi
      have next : ∀ d, cntB (i + 1) P = cntB i P + d → i < 32 → EJ θ x 25 [(0, .ref mo), (1, .int (nI c)), (3, .int (nI i))] [.int (nI d), .int (nI (cntB i P))] ph 0 0 := by
        intro d hd hin
        refine e_iadd hX iX12_minimals_25 ?_
        rw [nI_add, ← hd]
        refine e_istore_n hX 2 iX12_minimals_26 rfl (by decide) ?_
        refine e_iinc hX iX12_minimals_27 rfl (by first | exact nI_inc _ | rfl) (by decide) ?_
        refine e_goto hX iX12_minimals_30 ?_
        refine e_loc [0, 1, 2, 3] ?_
        exact ih (i + 1) (by omega) (by omega)
      refine e_iload_n hX 3 iX12_minimals_4 rfl rfl ?_
      refine e_bipush (v := 32) hX iX12_minimals_5 (by decide) ?_
      refine e_icmp_ge hX iX12_minimals_7 (fun c7 => ?_) (fun c7 => ?_)
      · have hin := nI_same hi (by decide) c7
        subst hin
        refine e_iload_n hX 2 iX12_minimals_33 rfl rfl ?_
        exact e_iret hX hQ iX12_minimals_34 rfl (by decide) (by decide) ⟨rfl, rfl⟩
      · have hin := nI_less hi (by decide) c7
        refine e_iload_n hX 2 iX12_minimals_10 rfl rfl ?_
        refine e_aload_n hX 0 iX12_minimals_11 rfl rfl ?_
        refine e_iload_n hX 3 iX12_minimals_12 rfl rfl ?_
        refine e_iload_n hX 1 iX12_minimals_13 rfl rfl ?_
        refine e_callV hX iX12_minimals_14 hm.1 (n_isMinimal htr hm hr hin hc) rfl rfl ⟨by decide, by decide, by decide, by decide⟩ (Nat.le_of_ble_eq_true rfl) (fun _ _ h => h.elim) (fun v9 ph9 hv9 => ?_)
        obtain ⟨rfl, e9⟩ := hv9
        subst ph9
        refine e_if_eq hX iX12_minimals_17 (fun c17 => ?_) (fun c17 => ?_)
        · refine e_iconst (v := 0) hX iX12_minimals_24 (by decide) ?_
          refine e_loc [0, 1, 3] ?_
          exact next 0 (cntB_s0 (b2i_0.mp c17)) hin
        · refine e_iconst (v := 1) hX iX12_minimals_20 (by decide) ?_
          refine e_goto hX iX12_minimals_21 ?_
          refine e_loc [0, 1, 3] ?_
          exact next 1 (cntB_s1 (b2i_n0.mp c17)) hin
  refine e_iconst (v := 0) hX iX12_minimals_0 (by decide) ?_
  refine e_istore_n hX 2 iX12_minimals_1 rfl (by decide) ?_
  refine e_iconst (v := 0) hX iX12_minimals_2 (by decide) ?_
  refine e_istore_n hX 3 iX12_minimals_3 rfl (by decide) ?_
  refine e_loc [0, 1, 2, 3] ?_
  exact loop 33 0 (by omega) (by omega)
theorem w_minimalCount (htr : l.stackTraces = false) (hm : MP θ ph mo μ σ t) (c : Int32) : MC yX12_minimalCount cX12_minimalCount 2 (some .int) 5 0 0 l θ [.ref mo, .int c] ph (nP θ ph mo μ σ (k_col c) (zI (k_col c) (nI (minCnt σ (ix c))))) (fun _ _ => False) := by
  obtain ⟨s, F, hm, hr, rfl⟩ := hm
  refine MC.of htr (by decide) (Nat.le_of_ble_eq_true rfl) ?_
  intro x hX hQ hT
  refine e_iload_n hX 1 iX12_minimalCount_0 rfl rfl ?_
  refine e_callS hX iX12_minimalCount_1 (n_isColumn htr c) rfl rfl ⟨by decide, by decide, by decide, by decide⟩ (Nat.le_of_ble_eq_true rfl) (fun _ _ h => h.elim) (fun v9 ph9 hv9 => ?_)
  obtain ⟨rfl, e9⟩ := hv9
  subst ph9
  refine e_if_eq hX iX12_minimalCount_4 (fun c4 => ?_) (fun c4 => ?_)
  · have hk : k_col c = 1 := if_neg (by rw [b2i_0.mp c4]; decide)
    refine e_aload_n hX 0 iX12_minimalCount_19 rfl rfl ?_
    refine e_iconst (v := 1) hX iX12_minimalCount_20 (by decide) ?_
    refine e_callV hX iX12_minimalCount_21 hm.1 (n_fails htr hm 1) rfl rfl ⟨by decide, by decide, by decide, by decide⟩ (Nat.le_of_ble_eq_true rfl) (fun _ _ h => h.elim) (fun v9 ph9 hv9 => ?_)
    obtain ⟨rfl, e9⟩ := hv9
    subst ph9
    exact e_iret hX hQ iX12_minimalCount_24 rfl (by decide) (by decide) (nP.mk (hm.told hr kept.refl 1) (by rw [hk]; rfl) (by rw [zI_n (by omega)]))
  · have h2 := b2i_n0.mp c4
    have hk : k_col c = 0 := if_pos h2
    obtain ⟨c', hc', rfl⟩ := colB_t.mp h2
    refine e_aload_n hX 0 iX12_minimalCount_7 rfl rfl ?_
    refine e_aload_n hX 0 iX12_minimalCount_8 rfl rfl ?_
    refine e_iload_n hX 1 iX12_minimalCount_9 rfl rfl ?_
    refine e_callV hX iX12_minimalCount_10 hm.1 (n_minimals htr hm hr hc') rfl rfl ⟨by decide, by decide, by decide, by decide⟩ (Nat.le_of_ble_eq_true rfl) (fun _ _ h => h.elim) (fun v9 ph9 hv9 => ?_)
    obtain ⟨rfl, e9⟩ := hv9
    subst ph9
    refine e_callV hX iX12_minimalCount_13 hm.1 (n_tells htr hm (nI (minCnt σ c'))) rfl rfl ⟨by decide, by decide, by decide, by decide⟩ (Nat.le_of_ble_eq_true rfl) (fun _ _ h => h.elim) (fun v9 ph9 hv9 => ?_)
    obtain ⟨rfl, e9⟩ := hv9
    subst ph9
    refine e_goto hX iX12_minimalCount_16 ?_
    exact e_iret hX hQ iX12_minimalCount_24 rfl (by decide) (by decide) (nP.mk (hm.told hr kept.refl 0) (by rw [hk]; rfl) (by rw [zI_0 hk, ix_n (by omega)]))
theorem w_minimalCountT (htr : l.stackTraces = false) (hm : MP θ ph mo μ σ t) (c : Int32) : MC yX12_minimalCountByTrying cX12_minimalCountByTrying 2 (some .int) 5 0 0 l θ [.ref mo, .int c] ph (nP θ ph mo μ σ (k_col c) (zI (k_col c) (nI (minCnt σ (ix c))))) (fun _ _ => False) := by
  obtain ⟨s, F, hm, hr, rfl⟩ := hm
  refine MC.of htr (by decide) (Nat.le_of_ble_eq_true rfl) ?_
  intro x hX hQ hT
  refine e_iload_n hX 1 iX12_minimalCountByTrying_0 rfl rfl ?_
  refine e_callS hX iX12_minimalCountByTrying_1 (n_isColumn htr c) rfl rfl ⟨by decide, by decide, by decide, by decide⟩ (Nat.le_of_ble_eq_true rfl) (fun _ _ h => h.elim) (fun v9 ph9 hv9 => ?_)
  obtain ⟨rfl, e9⟩ := hv9
  subst ph9
  refine e_if_eq hX iX12_minimalCountByTrying_4 (fun c4 => ?_) (fun c4 => ?_)
  · have hk : k_col c = 1 := if_neg (by rw [b2i_0.mp c4]; decide)
    refine e_aload_n hX 0 iX12_minimalCountByTrying_19 rfl rfl ?_
    refine e_iconst (v := 1) hX iX12_minimalCountByTrying_20 (by decide) ?_
    refine e_callV hX iX12_minimalCountByTrying_21 hm.1 (n_fails htr hm 1) rfl rfl ⟨by decide, by decide, by decide, by decide⟩ (Nat.le_of_ble_eq_true rfl) (fun _ _ h => h.elim) (fun v9 ph9 hv9 => ?_)
    obtain ⟨rfl, e9⟩ := hv9
    subst ph9
    exact e_iret hX hQ iX12_minimalCountByTrying_24 rfl (by decide) (by decide) (nP.mk (hm.told hr kept.refl 1) (by rw [hk]; rfl) (by rw [zI_n (by omega)]))
  · have h2 := b2i_n0.mp c4
    have hk : k_col c = 0 := if_pos h2
    obtain ⟨c', hc', rfl⟩ := colB_t.mp h2
    refine e_aload_n hX 0 iX12_minimalCountByTrying_7 rfl rfl ?_
    refine e_aload_n hX 0 iX12_minimalCountByTrying_8 rfl rfl ?_
    refine e_iload_n hX 1 iX12_minimalCountByTrying_9 rfl rfl ?_
    refine e_callV hX iX12_minimalCountByTrying_10 hm.1 (n_minimals htr hm hr hc') rfl rfl ⟨by decide, by decide, by decide, by decide⟩ (Nat.le_of_ble_eq_true rfl) (fun _ _ h => h.elim) (fun v9 ph9 hv9 => ?_)
    obtain ⟨rfl, e9⟩ := hv9
    subst ph9
    refine e_callV hX iX12_minimalCountByTrying_13 hm.1 (n_tells htr hm (nI (minCnt σ c'))) rfl rfl ⟨by decide, by decide, by decide, by decide⟩ (Nat.le_of_ble_eq_true rfl) (fun _ _ h => h.elim) (fun v9 ph9 hv9 => ?_)
    obtain ⟨rfl, e9⟩ := hv9
    subst ph9
    refine e_goto hX iX12_minimalCountByTrying_16 ?_
    exact e_iret hX hQ iX12_minimalCountByTrying_24 rfl (by decide) (by decide) (nP.mk (hm.told hr kept.refl 0) (by rw [hk]; rfl) (by rw [zI_0 hk, ix_n (by omega)]))
theorem w_asksFixes (htr : l.stackTraces = false) (hm : MP θ ph mo μ σ t) (y c : Int32) : MC yX12_asksFixes cX12_asksFixes 4 (some .boolean) 3 0 0 l θ [.ref mo, .int y, .int c] ph (nP θ ph mo μ σ (k_det y c) (zB (k_det y c) (a_det σ y c))) (fun _ _ => False) := by
  obtain ⟨s, F, hm, hr, rfl⟩ := hm
  refine MC.of htr (by decide) (Nat.le_of_ble_eq_true rfl) ?_
  intro x hX hQ hT
  have wrong : ∀ k : Nat, k < 3 → ¬ k = 0 → k_det y c = k → EJ θ x 23 [(0, .ref mo), (1, .int y), (2, .int c)] [.int (nI k)] ph 0 0 := by
    intro k hk3 hk0 hk
    refine e_istore_n hX 3 iX12_asksFixes_23 rfl (by decide) ?_
    refine e_aload_n hX 0 iX12_asksFixes_24 rfl rfl ?_
    refine e_iload_n hX 3 iX12_asksFixes_25 rfl rfl ?_
    refine e_iload_n hX 3 iX12_asksFixes_26 rfl rfl ?_
    refine e_if_ne hX iX12_asksFixes_27 (fun c27 => ?_) (fun c27 => ?_)
    · refine e_iconst (v := 0) hX iX12_asksFixes_43 (by decide) ?_
      refine e_callV hX iX12_asksFixes_44 hm.1 (n_asks htr hm (nI k) false) rfl rfl ⟨by decide, by decide, by decide, by decide⟩ (Nat.le_of_ble_eq_true rfl) (fun _ _ h => h.elim) (fun v9 ph9 hv9 => ?_)
      obtain ⟨rfl, e9⟩ := hv9
      subst ph9
      exact e_zret hX hQ iX12_asksFixes_47 rfl (nar_b _) (by decide) (by decide) (nP.mk (hm.told hr kept.refl (nI k)) (by rw [hk]) (by unfold zB; rw [hk, decide_eq_false hk0, Bool.and_false, Bool.false_and]))
    · exact absurd c27 (nI_ne0 (by omega) (by omega))
  refine e_iload_n hX 1 iX12_asksFixes_0 rfl rfl ?_
  refine e_callS hX iX12_asksFixes_1 (n_isSet htr y) rfl rfl ⟨by decide, by decide, by decide, by decide⟩ (Nat.le_of_ble_eq_true rfl) (fun _ _ h => h.elim) (fun v9 ph9 hv9 => ?_)
  obtain ⟨rfl, e9⟩ := hv9
  subst ph9
  refine e_if_ne hX iX12_asksFixes_4 (fun c4 => ?_) (fun c4 => ?_)
  · have h1 := b2i_n0.mp c4
    refine e_iload_n hX 2 iX12_asksFixes_11 rfl rfl ?_
    refine e_callS hX iX12_asksFixes_12 (n_isColumn htr c) rfl rfl ⟨by decide, by decide, by decide, by decide⟩ (Nat.le_of_ble_eq_true rfl) (fun _ _ h => h.elim) (fun v9 ph9 hv9 => ?_)
    obtain ⟨rfl, e9⟩ := hv9
    subst ph9
    refine e_if_eq hX iX12_asksFixes_15 (fun c15 => ?_) (fun c15 => ?_)
    · refine e_iconst (v := 2) hX iX12_asksFixes_22 (by decide) ?_
      exact wrong 2 (by decide) (by decide) ((if_pos h1).trans (if_neg (by rw [b2i_0.mp c15]; decide)))
    · have h2 := b2i_n0.mp c15
      have hk : k_det y c = 0 := (if_pos h1).trans (if_pos h2)
      obtain ⟨y', hy', rfl⟩ := setB_t.mp h1
      obtain ⟨c', hc', rfl⟩ := colB_t.mp h2
      have hd : a_det σ (nI y') (nI c') = detB σ y' c' := by unfold a_det; rw [ix_n (by omega), ix_n (by omega)]
      have fin : ∀ b, b = detB σ y' c' → EJ θ x 44 [(0, .ref mo)] [.int (b2i b), .int 0, .ref mo] ph 0 0 := by
        intro b hb
        refine e_callV hX iX12_asksFixes_44 hm.1 (n_asks htr hm 0 b) rfl rfl ⟨by decide, by decide, by decide, by decide⟩ (Nat.le_of_ble_eq_true rfl) (fun _ _ h => h.elim) (fun v9 ph9 hv9 => ?_)
        obtain ⟨rfl, e9⟩ := hv9
        subst ph9
        exact e_zret hX hQ iX12_asksFixes_47 rfl (nar_b _) (by decide) (by decide) (nP.mk (hm.told hr kept.refl 0) (by rw [hk]; rfl) (by unfold zB; rw [hk, hd, hb]; rfl))
      refine e_iconst (v := 0) hX iX12_asksFixes_18 (by decide) ?_
      refine e_goto hX iX12_asksFixes_19 ?_
      refine e_istore_n hX 3 iX12_asksFixes_23 rfl (by decide) ?_
      refine e_aload_n hX 0 iX12_asksFixes_24 rfl rfl ?_
      refine e_iload_n hX 3 iX12_asksFixes_25 rfl rfl ?_
      refine e_iload_n hX 3 iX12_asksFixes_26 rfl rfl ?_
      refine e_if_ne hX iX12_asksFixes_27 (fun c27 => ?_) (fun c27 => ?_)
      · exact absurd rfl c27
      · refine e_aload_n hX 0 iX12_asksFixes_30 rfl rfl ?_
        refine e_iload_n hX 1 iX12_asksFixes_31 rfl rfl ?_
        refine e_iload_n hX 2 iX12_asksFixes_32 rfl rfl ?_
        refine e_callV hX iX12_asksFixes_33 hm.1 (n_fixes htr hm hr hy' hc') rfl rfl ⟨by decide, by decide, by decide, by decide⟩ (Nat.le_of_ble_eq_true rfl) (fun _ _ h => h.elim) (fun v9 ph9 hv9 => ?_)
        obtain ⟨rfl, e9⟩ := hv9
        subst ph9
        refine e_if_eq hX iX12_asksFixes_36 (fun c36 => ?_) (fun c36 => ?_)
        · refine e_iconst (v := 0) hX iX12_asksFixes_43 (by decide) ?_
          refine e_loc [0] ?_
          exact fin false (b2i_0.mp c36).symm
        · refine e_iconst (v := 1) hX iX12_asksFixes_39 (by decide) ?_
          refine e_goto hX iX12_asksFixes_40 ?_
          refine e_loc [0] ?_
          exact fin true (b2i_n0.mp c36).symm
  · refine e_iconst (v := 1) hX iX12_asksFixes_7 (by decide) ?_
    refine e_goto hX iX12_asksFixes_8 ?_
    exact wrong 1 (by decide) (by decide) (if_neg (by rw [b2i_0.mp c4]; decide))
theorem w_determines (htr : l.stackTraces = false) (hm : MP θ ph mo μ σ t) (y c : Int32) : MC yX12_determines cX12_determines 3 (some .boolean) 4 0 0 l θ [.ref mo, .int y, .int c] ph (nP θ ph mo μ σ (k_det y c) (zB (k_det y c) (a_det σ y c))) (fun _ _ => False) := by
  refine MC.of htr (by decide) (Nat.le_of_ble_eq_true rfl) ?_
  intro x hX hQ hT
  obtain ⟨s, F, hmi, hr, ht⟩ := hm
  refine e_aload_n hX 0 iX12_determines_0 rfl rfl ?_
  refine e_iload_n hX 1 iX12_determines_1 rfl rfl ?_
  refine e_iload_n hX 2 iX12_determines_2 rfl rfl ?_
  refine e_callV hX iX12_determines_3 hmi.1 (w_asksFixes htr ⟨s, F, hmi, hr, ht⟩ y c) rfl rfl ⟨by decide, by decide, by decide, by decide⟩ (Nat.le_of_ble_eq_true rfl) (fun _ _ h => h.elim) (fun v9 ph9 hv9 => ?_)
  obtain ⟨rfl, h1, h2⟩ := hv9
  exact e_zret hX hQ iX12_determines_6 rfl (nar_b _) (by decide) (by decide) ⟨rfl, h1, h2⟩
theorem w_determinesP (htr : l.stackTraces = false) (hm : MP θ ph mo μ σ t) (y c : Int32) : MC yX12_determinesByPairs cX12_determinesByPairs 3 (some .boolean) 4 0 0 l θ [.ref mo, .int y, .int c] ph (nP θ ph mo μ σ (k_det y c) (zB (k_det y c) (a_det σ y c))) (fun _ _ => False) := by
  refine MC.of htr (by decide) (Nat.le_of_ble_eq_true rfl) ?_
  intro x hX hQ hT
  obtain ⟨s, F, hmi, hr, ht⟩ := hm
  refine e_aload_n hX 0 iX12_determinesByPairs_0 rfl rfl ?_
  refine e_iload_n hX 1 iX12_determinesByPairs_1 rfl rfl ?_
  refine e_iload_n hX 2 iX12_determinesByPairs_2 rfl rfl ?_
  refine e_callV hX iX12_determinesByPairs_3 hmi.1 (w_asksFixes htr ⟨s, F, hmi, hr, ht⟩ y c) rfl rfl ⟨by decide, by decide, by decide, by decide⟩ (Nat.le_of_ble_eq_true rfl) (fun _ _ h => h.elim) (fun v9 ph9 hv9 => ?_)
  obtain ⟨rfl, h1, h2⟩ := hv9
  exact e_zret hX hQ iX12_determinesByPairs_6 rfl (nar_b _) (by decide) (by decide) ⟨rfl, h1, h2⟩
end MOJ
/-! what minK is -/
theorem sub32 : ∀ t, t < 32 → ∀ s, s < 32 → (decide (t &&& s = t) = subN t s) := by decide +kernel
theorem popS : ∀ t, t < 32 → ∀ s, s < 32 → subN t s = true → t < s → popN t < popN s := by decide +kernel
theorem subTr : ∀ a, a < 32 → ∀ b, b < 32 → subN a b = true → ∀ c, c < 32 → subN b c = true → subN a c = true := by
  intro a ha b hb h1 c hc h2
  have e1 := (subN_t (show a < 2 ^ 12 by omega)).mp h1
  have e2 := (subN_t (show b < 2 ^ 12 by omega)).mp h2
  exact (subN_t (show a < 2 ^ 12 by omega)).mpr (fun j hj => e2 j (e1 j hj))
theorem pop_le5 : ∀ s, s < 32 → popN s ≤ 5 := by decide +kernel
def isMinF (f : Nat → Bool) (s : Nat) : Bool := f s && allB s (fun l => !subN l s || !f l)
theorem sub_refl {s : Nat} (h : s < 32) : subN s s = true := (subN_t (show s < 2 ^ 12 by omega)).mpr (fun _ h => h)
theorem min_ex {f : Nat → Bool} : ∀ (n s : Nat), s < n → s < 32 → f s = true → ∃ m, m ≤ s ∧ subN m s = true ∧ isMinF f m = true
  | 0, s, h, _, _ => absurd h (Nat.not_lt_zero s)
  | n + 1, s, h, h32, hf => by
    cases hm : allB s (fun l => !subN l s || !f l)
    · have : ∃ l, l < s ∧ subN l s = true ∧ f l = true := by
        cases h2 : anyB s (fun l => subN l s && f l)
        · exfalso
          have h3 := anyB_f.mp h2
          rw [allB_t.mpr (fun l hl => by
            have := h3 l hl
            cases h4 : subN l s
            · rfl
            · rw [h4] at this
              have h5 : f l = false := this
              rw [h5]; rfl)] at hm
          cases hm
        · obtain ⟨l, hl, h3⟩ := anyB_t.mp h2
          rw [Bool.and_eq_true] at h3
          exact ⟨l, hl, h3.1, h3.2⟩
      obtain ⟨l, hl, h3, h4⟩ := this
      obtain ⟨m, m1, m2, m3⟩ := min_ex n l (by omega) (by omega) h4
      exact ⟨m, by omega, subTr m (by omega) l (by omega) m2 s h32 h3, m3⟩
    · exact ⟨s, Nat.le_refl _, sub_refl h32, and_tt hf hm⟩
theorem minK_t {f : Nat → Bool} : ∀ k, k ≤ 192 → ∀ s, s < 32 → (minK f k).testBit s = (decide (32 * popN s + s < k) && isMinF f s)
  | 0, _, s, _ => by show (0 : Nat).testBit s = _; rw [Nat.zero_testBit, decide_eq_false (Nat.not_lt_zero _)]; rfl
  | k + 1, hk, s, hs => by
    have ih := minK_t (f := f) k (by omega)
    have h0 : k % 32 < 32 := Nat.mod_lt _ (by decide)
    have hold : popN (k % 32) = k / 32 → holdB (k % 32) (minK f k) = anyB (k % 32) (fun t => subN t (k % 32) && isMinF f t) := fun hp => by
      unfold holdB
      refine anyB_c (fun t ht => ?_)
      rw [sub32 t (by omega) (k % 32) h0]
      cases h1 : subN t (k % 32)
      · rfl
      · have h2 := popS t (by omega) (k % 32) h0 h1 ht
        rw [ih t (by omega), decide_eq_true (show 32 * popN t + t < k by omega)]
        rfl
    have eM : popN (k % 32) = k / 32 → (!holdB (k % 32) (minK f k) && f (k % 32)) = isMinF f (k % 32) := fun hp => by
      rw [hold hp]
      show _ = (f (k % 32) && allB (k % 32) (fun l => !subN l (k % 32) || !f l))
      cases hf : f (k % 32)
      · rw [Bool.and_false]; rfl
      · rw [Bool.and_true]
        show _ = (true && _)
        rw [Bool.true_and]
        cases h1 : allB (k % 32) (fun l => !subN l (k % 32) || !f l)
        · cases h2 : anyB (k % 32) (fun t => subN t (k % 32) && isMinF f t)
          · exfalso
            have h3 := anyB_f.mp h2
            rw [allB_t.mpr (fun l hl => by
              cases h4 : subN l (k % 32)
              · rfl
              · cases h5 : f l
                · rfl
                · obtain ⟨m, m1, m2, m3⟩ := min_ex (f := f) (l + 1) l (by omega) (by omega) h5
                  have := h3 m (by omega)
                  rw [subTr m (by omega) l (by omega) m2 _ h0 h4, m3] at this
                  cases this)] at h1
            cases h1
          · rfl
        · have : anyB (k % 32) (fun t => subN t (k % 32) && isMinF f t) = false := anyB_f.mpr (fun t ht => by
            have h3 := allB_t.mp h1 t ht
            cases h4 : subN t (k % 32)
            · rfl
            · rw [h4] at h3
              have h5 : f t = false := by simpa using h3
              show (true && isMinF f t) = false
              unfold isMinF
              rw [h5]; rfl)
          rw [this]; rfl
    show (if (decide (popN (k % 32) = k / 32) && !holdB (k % 32) (minK f k) && f (k % 32)) = true then minK f k ||| 2 ^ (k % 32) else minK f k).testBit s = _
    by_cases hp : popN (k % 32) = k / 32
    · rw [decide_eq_true hp, Bool.true_and, eM hp]
      by_cases e : s = k % 32
      · subst e
        rw [decide_eq_true (show 32 * popN (k % 32) + k % 32 < k + 1 by omega)]
        cases h1 : isMinF f (k % 32)
        · rw [if_neg (by decide), ih _ h0, h1, Bool.and_false, Bool.and_false]
        · rw [if_pos rfl, Nat.testBit_or, tb_pow, decide_eq_true rfl, Bool.or_true]; rfl
      · have e2 : decide (32 * popN s + s < k + 1) = decide (32 * popN s + s < k) := decide_eq_decide.mpr ⟨fun h => by omega, fun h => by omega⟩
        rw [e2, ← ih s hs]
        split
        · rw [Nat.testBit_or, tb_pow, decide_eq_false (fun h => e h.symm), Bool.or_false]
        · rfl
    · rw [decide_eq_false hp, Bool.false_and, Bool.false_and, if_neg (by decide), ih s hs]
      have e2 : decide (32 * popN s + s < k + 1) = decide (32 * popN s + s < k) := decide_eq_decide.mpr ⟨fun h => by
        by_cases e : 32 * popN s + s = k
        · exact absurd (by rw [← e, show (32 * popN s + s) % 32 = s by omega, show (32 * popN s + s) / 32 = popN s by omega]) hp
        · omega, fun h => by omega⟩
      rw [e2]
theorem minM_t {σ : SG} {c s : Nat} (hs : s < 32) : (minM σ c).testBit s = isMinB σ c s := by
  have := pop_le5 s hs
  unfold minM
  rw [minK_t 192 (Nat.le_refl _) s hs, decide_eq_true (show 32 * popN s + s < 192 by omega)]
  rfl
theorem minCnt_p {σ : SG} {c : Nat} : minCnt σ c = pop32 (minM σ c) := cntB_c (fun s hs => (minM_t hs).symm)
theorem detM_t {σ : SG} {c s : Nat} (hs : s < 32) : (detM σ c).testBit s = detB σ s c := by
  unfold detM
  rw [maskN_t, decide_eq_true hs, Bool.true_and]
theorem minCnt_T {σ : SG} {c : Nat} : minCnt σ c = a_minT σ c := cntB_c (fun s hs => by
  rw [detM_t hs]
  unfold isMinB
  cases hd : detB σ s c
  · rfl
  · show allB s _ = !holdB s (detM σ c)
    cases h1 : holdB s (detM σ c)
    · refine allB_t.mpr (fun l hl => ?_)
      have h2 := anyB_f.mp h1 l hl
      rw [sub32 l (by omega) s hs, detM_t (by omega)] at h2
      cases h3 : subN l s
      · rfl
      · rw [h3] at h2
        have h4 : detB σ l c = false := h2
        rw [h4]; rfl
    · obtain ⟨l, hl, h2⟩ := anyB_t.mp h1
      rw [sub32 l (by omega) s hs, detM_t (by omega), Bool.and_eq_true] at h2
      exact allB_f hl (by rw [h2.1, h2.2]; rfl))
