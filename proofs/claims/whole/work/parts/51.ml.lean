/-! the model: outliers; errorOf -/
theorem prs_pos {σ : SG} {i c : Nat} (hi : i < gN σ) (h : pres (gV σ i c) = true) : ¬ prsN σ c = 0 := fun e => by
  have h1 := cntB_mono2 (f := fun i => pres (gV σ i c)) (a := i + 1) (b := gN σ) (by omega)
  rw [cntB_s1 h] at h1
  have h2 : cntB (gN σ) (fun i => pres (gV σ i c)) = 0 := e
  omega
section MOL
variable {l : Launch} {θ : e_T} {ph : e_PH} {mo : Nat} {μ : Nat → Nat} {σ : SG} {t : Int32} {s : Nat → Int32} {F : Nat → Nat → Int32}
theorem n_isOut (htr : l.stackTraces = false) (hm : MI θ ph mo μ s F) (hr : MR σ s F) {i c : Nat} (hi : i < gN σ) (hc : c < 5) : MC yX12_isOut cX12_isOut 3 (some .boolean) 3 0 0 l θ [.ref mo, .int (nI i), .int (nI c)] ph (fun z p => z = some (.int (b2i (a_out σ i c))) ∧ (∃ f, MI θ p mo μ s (updF F 11 f)) ∧ kept ph p (mS mo μ)) (fun _ _ => False) := by
  have hn := hr.ok.1
  refine MC.of htr (by decide) (Nat.le_of_ble_eq_true rfl) ?_
  intro x hX hQ hT
  refine e_aload_n hX 0 iX12_isOut_0 rfl rfl ?_
  refine e_iload_n hX 1 iX12_isOut_1 rfl rfl ?_
  refine e_iload_n hX 2 iX12_isOut_2 rfl rfl ?_
  refine e_callV hX iX12_isOut_3 hm.1 (n_at htr hm (show i < 18 by omega) hc) rfl rfl ⟨by decide, by decide, by decide, by decide⟩ (Nat.le_of_ble_eq_true rfl) (fun _ _ h => h.elim) (fun v9 ph9 hv9 => ?_)
  obtain ⟨rfl, e9⟩ := hv9
  subst ph9
  rw [hr.v hi c hc]
  refine e_bipush (v := 100) hX iX12_isOut_6 (by decide) ?_
  refine e_icmp_eq hX iX12_isOut_8 (fun c8 => ?_) (fun c8 => ?_)
  · refine e_iconst (v := 0) hX iX12_isOut_45 (by decide) ?_
    have e0 : a_out σ i c = false := and_f1 (by unfold pres; rw [c8]; rfl)
    exact e_zret hX hQ iX12_isOut_46 rfl nar_0 (by decide) (by decide) ⟨by rw [e0]; rfl, ⟨F 11, by rw [updF_id]; exact hm⟩, kept.refl⟩
  · have hpr : pres (gV σ i c) = true := decide_eq_true c8
    have hp := prs_pos hi hpr
    refine e_aload_n hX 0 iX12_isOut_11 rfl rfl ?_
    refine e_iload_n hX 1 iX12_isOut_12 rfl rfl ?_
    refine e_iload_n hX 2 iX12_isOut_13 rfl rfl ?_
    refine e_callV hX iX12_isOut_14 hm.1 (n_at htr hm (show i < 18 by omega) hc) rfl rfl ⟨by decide, by decide, by decide, by decide⟩ (Nat.le_of_ble_eq_true rfl) (fun _ _ h => h.elim) (fun v9 ph9 hv9 => ?_)
    obtain ⟨rfl, e9⟩ := hv9
    subst ph9
    rw [hr.v hi c hc]
    refine e_aload_n hX 0 iX12_isOut_17 rfl rfl ?_
    refine e_iload_n hX 2 iX12_isOut_18 rfl rfl ?_
    refine e_iconst (v := 0) hX iX12_isOut_19 (by decide) ?_
    refine e_iconst (v := 0) hX iX12_isOut_20 (by decide) ?_
    refine e_callV hX iX12_isOut_21 hm.1 (n_middle htr hm hr hc hp false 0) rfl rfl ⟨by decide, by decide, by decide, by decide⟩ (Nat.le_of_ble_eq_true rfl) (fun _ _ h => h.elim) (fun v9 ph9 hv9 => ?_)
    obtain ⟨rfl, ⟨f, hm2⟩, hk2⟩ := hv9
    refine e_isub hX iX12_isOut_24 ?_
    refine e_callS hX iX12_isOut_25 (n_size htr (gV σ i c - medN σ c)) rfl rfl ⟨by decide, by decide, by decide, by decide⟩ (Nat.le_of_ble_eq_true rfl) (fun _ _ h => h.elim) (fun v9 ph9 hv9 => ?_)
    obtain ⟨rfl, e9⟩ := hv9
    subst ph9
    refine e_aload_n hX 0 iX12_isOut_28 rfl rfl ?_
    refine e_get hX iX12_isOut_29 hm2.1 rfl ?_
    rw [hr.1.2.2.2.2.1]
    refine e_aload_n hX 0 iX12_isOut_32 rfl rfl ?_
    refine e_iload_n hX 2 iX12_isOut_33 rfl rfl ?_
    refine e_callV hX iX12_isOut_34 hm2.1 (n_spread htr hm2 (hr.sorted f) hc hp) rfl rfl ⟨by decide, by decide, by decide, by decide⟩ (Nat.le_of_ble_eq_true rfl) (fun _ _ h => h.elim) (fun v8 ph8 hv8 => ?_)
    obtain ⟨rfl, ⟨f2, hm3⟩, hk3⟩ := hv8
    rw [updF_2] at hm3
    rw [show absI (gV σ i c - medN σ c) = dist (gV σ i c) (medN σ c) from rfl]
    refine e_imul hX iX12_isOut_37 ?_
    have ea : a_out σ i c = decide (sprN σ c (medN σ c) * gF σ < dist (gV σ i c) (medN σ c)) := by unfold a_out; rw [hpr]; rfl
    refine e_icmp_le hX iX12_isOut_38 (fun c38 => ?_) (fun c38 => ?_)
    · refine e_iconst (v := 0) hX iX12_isOut_45 (by decide) ?_
      exact e_zret hX hQ iX12_isOut_46 rfl nar_0 (by decide) (by decide) ⟨by rw [ea, Int32.mul_comm, decide_eq_false (Int32.not_lt.mpr c38)]; rfl, ⟨f2, hm3⟩, hk2.trans hk3⟩
    · refine e_iconst (v := 1) hX iX12_isOut_41 (by decide) ?_
      refine e_goto hX iX12_isOut_42 ?_
      exact e_zret hX hQ iX12_isOut_46 rfl nar_1 (by decide) (by decide) ⟨by rw [ea, Int32.mul_comm, decide_eq_true (Int32.not_le.mp c38)]; rfl, ⟨f2, hm3⟩, hk2.trans hk3⟩
theorem w_isOutlier (htr : l.stackTraces = false) (hm : MP θ ph mo μ σ t) (id c : Int32) : MC yX12_isOutlier cX12_isOutlier 5 (some .boolean) 4 0 0 l θ [.ref mo, .int id, .int c] ph (nP θ ph mo μ σ (k_idc σ id c) (zB (k_idc σ id c) (a_out σ (fnd σ id) (ix c)))) (fun _ _ => False) := by
  obtain ⟨s, F, hm, hr, rfl⟩ := hm
  have hn := hr.ok.1
  refine MC.of htr (by decide) (Nat.le_of_ble_eq_true rfl) ?_
  intro x hX hQ hT
  have wrong : ∀ (k : Nat) (a : Int32), k < 3 → ¬ k = 0 → k_idc σ id c = k → EJ θ x 27 [(0, .ref mo), (1, .int id), (2, .int c), (3, .int a)] [.int (nI k)] ph 0 0 := by
    intro k a hk3 hk0 hk
    refine e_istore hX iX12_isOutlier_27 (by decide) ?_
    refine e_aload_n hX 0 iX12_isOutlier_29 rfl rfl ?_
    refine e_iload hX iX12_isOutlier_30 rfl ?_
    refine e_iload hX iX12_isOutlier_32 rfl ?_
    refine e_if_ne hX iX12_isOutlier_34 (fun c34 => ?_) (fun c34 => ?_)
    · refine e_iconst (v := 0) hX iX12_isOutlier_50 (by decide) ?_
      refine e_callV hX iX12_isOutlier_51 hm.1 (n_asks htr hm (nI k) false) rfl rfl ⟨by decide, by decide, by decide, by decide⟩ (Nat.le_of_ble_eq_true rfl) (fun _ _ h => h.elim) (fun v9 ph9 hv9 => ?_)
      obtain ⟨rfl, e9⟩ := hv9
      subst ph9
      exact e_zret hX hQ iX12_isOutlier_54 rfl (nar_b _) (by decide) (by decide) (nP.mk (hm.told hr kept.refl (nI k)) (by rw [hk]) (by unfold zB; rw [hk, decide_eq_false hk0, Bool.and_false, Bool.false_and]))
    · exact absurd c34 (nI_ne0 (by omega) (by omega))
  refine e_aload_n hX 0 iX12_isOutlier_0 rfl rfl ?_
  refine e_iload_n hX 1 iX12_isOutlier_1 rfl rfl ?_
  refine e_callV hX iX12_isOutlier_2 hm.1 (n_find htr hm hr.1.1 hn id) rfl rfl ⟨by decide, by decide, by decide, by decide⟩ (Nat.le_of_ble_eq_true rfl) (fun _ _ h => h.elim) (fun v9 ph9 hv9 => ?_)
  obtain ⟨rfl, e9⟩ := hv9
  subst ph9
  rw [hr.fnd id]
  by_cases h1 : fnd σ id < gN σ
  · rw [if_pos h1]
    refine e_istore_n hX 3 iX12_isOutlier_5 rfl (by decide) ?_
    refine e_iload_n hX 3 iX12_isOutlier_6 rfl rfl ?_
    refine e_iconst (v := (-1)) hX iX12_isOutlier_7 (by decide) ?_
    refine e_icmp_ne hX iX12_isOutlier_8 (fun c8 => ?_) (fun c8 => ?_)
    · refine e_iload_n hX 2 iX12_isOutlier_15 rfl rfl ?_
      refine e_callS hX iX12_isOutlier_16 (n_isColumn htr c) rfl rfl ⟨by decide, by decide, by decide, by decide⟩ (Nat.le_of_ble_eq_true rfl) (fun _ _ h => h.elim) (fun v9 ph9 hv9 => ?_)
      obtain ⟨rfl, e9⟩ := hv9
      subst ph9
      refine e_if_eq hX iX12_isOutlier_19 (fun c19 => ?_) (fun c19 => ?_)
      · refine e_iconst (v := 2) hX iX12_isOutlier_26 (by decide) ?_
        refine e_loc [0, 1, 2, 3] ?_
        exact wrong 2 _ (by decide) (by decide) ((if_pos h1).trans (if_neg (by rw [b2i_0.mp c19]; decide)))
      · have h2 := b2i_n0.mp c19
        have hk : k_idc σ id c = 0 := (if_pos h1).trans (if_pos h2)
        obtain ⟨c', hc', rfl⟩ := colB_t.mp h2
        have hix : ix (nI c') = c' := ix_n (by omega)
        refine e_iconst (v := 0) hX iX12_isOutlier_22 (by decide) ?_
        refine e_goto hX iX12_isOutlier_23 ?_
        refine e_istore hX iX12_isOutlier_27 (by decide) ?_
        refine e_aload_n hX 0 iX12_isOutlier_29 rfl rfl ?_
        refine e_iload hX iX12_isOutlier_30 rfl ?_
        refine e_iload hX iX12_isOutlier_32 rfl ?_
        refine e_if_ne hX iX12_isOutlier_34 (fun c34 => ?_) (fun c34 => ?_)
        · exact absurd rfl c34
        · refine e_aload_n hX 0 iX12_isOutlier_37 rfl rfl ?_
          refine e_iload_n hX 3 iX12_isOutlier_38 rfl rfl ?_
          refine e_iload_n hX 2 iX12_isOutlier_39 rfl rfl ?_
          refine e_callV hX iX12_isOutlier_40 hm.1 (n_isOut htr hm hr h1 hc') rfl rfl ⟨by decide, by decide, by decide, by decide⟩ (Nat.le_of_ble_eq_true rfl) (fun _ _ h => h.elim) (fun v9 ph9 hv9 => ?_)
          obtain ⟨rfl, ⟨f, hm2⟩, hk2⟩ := hv9
          have fin : ∀ b, b = a_out σ (fnd σ id) c' → EJ θ x 51 [(0, .ref mo)] [.int (b2i b), .int 0, .ref mo] ph9 0 0 := by
            intro b hb
            refine e_callV hX iX12_isOutlier_51 hm2.1 (n_asks htr hm2 0 b) rfl rfl ⟨by decide, by decide, by decide, by decide⟩ (Nat.le_of_ble_eq_true rfl) (fun _ _ h => h.elim) (fun v8 ph8 hv8 => ?_)
            obtain ⟨rfl, e8⟩ := hv8
            subst ph8
            exact e_zret hX hQ iX12_isOutlier_54 rfl (nar_b _) (by decide) (by decide) (nP.mk (hm2.told (hr.sorted f) hk2 0) (by rw [hk]; rfl) (by unfold zB; rw [hk, hix, hb]; rfl))
          refine e_if_eq hX iX12_isOutlier_43 (fun c43 => ?_) (fun c43 => ?_)
          · refine e_iconst (v := 0) hX iX12_isOutlier_50 (by decide) ?_
            refine e_loc [0] ?_
            exact fin false (b2i_0.mp c43).symm
          · refine e_iconst (v := 1) hX iX12_isOutlier_46 (by decide) ?_
            refine e_goto hX iX12_isOutlier_47 ?_
            refine e_loc [0] ?_
            exact fin true (b2i_n0.mp c43).symm
    · exact absurd c8 (m1_ne _ (by omega))
  · rw [if_neg h1]
    refine e_istore_n hX 3 iX12_isOutlier_5 rfl (by decide) ?_
    refine e_iload_n hX 3 iX12_isOutlier_6 rfl rfl ?_
    refine e_iconst (v := (-1)) hX iX12_isOutlier_7 (by decide) ?_
    refine e_icmp_ne hX iX12_isOutlier_8 (fun c8 => ?_) (fun c8 => ?_)
    · exact absurd rfl c8
    · refine e_iconst (v := 1) hX iX12_isOutlier_11 (by decide) ?_
      refine e_goto hX iX12_isOutlier_12 ?_
      refine e_loc [0, 1, 2, 3] ?_
      exact wrong 1 _ (by decide) (by decide) (if_neg h1)
theorem w_outliers (htr : l.stackTraces = false) (hm : MP θ ph mo μ σ t) (c : Int32) : MC yX12_outliers cX12_outliers 4 (some .int) 4 0 0 l θ [.ref mo, .int c] ph (nP θ ph mo μ σ (k_col c) (zI (k_col c) (nI (cntB (gN σ) (fun i => a_out σ i (ix c)))))) (fun _ _ => False) := by
  obtain ⟨s, F, hm, hr, rfl⟩ := hm
  have hn := hr.ok.1
  refine MC.of htr (by decide) (Nat.le_of_ble_eq_true rfl) ?_
  intro x hX hQ hT
  refine e_iload_n hX 1 iX12_outliers_0 rfl rfl ?_
  refine e_callS hX iX12_outliers_1 (n_isColumn htr c) rfl rfl ⟨by decide, by decide, by decide, by decide⟩ (Nat.le_of_ble_eq_true rfl) (fun _ _ h => h.elim) (fun v9 ph9 hv9 => ?_)
  obtain ⟨rfl, e9⟩ := hv9
  subst ph9
  refine e_if_ne hX iX12_outliers_4 (fun c4 => ?_) (fun c4 => ?_)
  · have h2 := b2i_n0.mp c4
    have hk : k_col c = 0 := if_pos h2
    obtain ⟨c', hc', rfl⟩ := colB_t.mp h2
    have hix : ix (nI c') = c' := ix_n (by omega)
    let P : Nat → Bool := fun i => a_out σ i c'
    have loop : ∀ (z i : Nat) (p : e_PH), gN σ - i < z → i ≤ gN σ → (∃ f, MI θ p mo μ s (updF F 11 f)) → kept ph p (mS mo μ) → EJ θ x 17 [(0, .ref mo), (1, .int (nI c')), (2, .int (nI (cntB i P))), (3, .int (nI i))] [] p 0 0 := by
      intro z
      induction z with
      | zero => intro i p hz; omega
      | succ z ih =>
        intro i p hz hi hmp hkp
        obtain ⟨f, hmp⟩ := hmp
        refine e_iload_n hX 3 iX12_outliers_17 rfl rfl ?_
        refine e_aload_n hX 0 iX12_outliers_18 rfl rfl ?_
        refine e_get hX iX12_outliers_19 hmp.1 rfl ?_
        rw [hr.1.1]
        refine e_icmp_ge hX iX12_outliers_22 (fun c22 => ?_) (fun c22 => ?_)
        · have hin := nI_same hi (by omega) c22
          subst hin
          refine e_aload_n hX 0 iX12_outliers_48 rfl rfl ?_
          refine e_iload_n hX 2 iX12_outliers_49 rfl rfl ?_
          refine e_callV hX iX12_outliers_50 hmp.1 (n_tells htr hmp (nI (cntB (gN σ) P))) rfl rfl ⟨by decide, by decide, by decide, by decide⟩ (Nat.le_of_ble_eq_true rfl) (fun _ _ h => h.elim) (fun v9 ph9 hv9 => ?_)
          obtain ⟨rfl, e9⟩ := hv9
          subst ph9
          exact e_iret hX hQ iX12_outliers_53 rfl (by decide) (by decide) (nP.mk (hmp.told (hr.sorted f) hkp 0) (by rw [hk]; rfl) (by rw [zI_0 hk, hix]))
        · have hin := nI_less hi (by omega) c22
          refine e_iload_n hX 2 iX12_outliers_25 rfl rfl ?_
          refine e_aload_n hX 0 iX12_outliers_26 rfl rfl ?_
          refine e_iload_n hX 3 iX12_outliers_27 rfl rfl ?_
          refine e_iload_n hX 1 iX12_outliers_28 rfl rfl ?_
          refine e_callV hX iX12_outliers_29 hmp.1 (n_isOut htr hmp (hr.sorted f) hin hc') rfl rfl ⟨by decide, by decide, by decide, by decide⟩ (Nat.le_of_ble_eq_true rfl) (fun _ _ h => h.elim) (fun v9 ph9 hv9 => ?_)
          obtain ⟨rfl, ⟨f2, hm2⟩, hk2⟩ := hv9
          rw [updF_2] at hm2
          have next : ∀ d, cntB (i + 1) P = cntB i P + d → EJ θ x 40 [(0, .ref mo), (1, .int (nI c')), (3, .int (nI i))] [.int (nI d), .int (nI (cntB i P))] ph9 0 0 := by
            intro d hd
            refine e_iadd hX iX12_outliers_40 ?_
            rw [nI_add, ← hd]
            refine e_istore_n hX 2 iX12_outliers_41 rfl (by decide) ?_
            refine e_iinc hX iX12_outliers_42 rfl (by first | exact nI_inc _ | rfl) (by decide) ?_
            refine e_goto hX iX12_outliers_45 ?_
            refine e_loc [0, 1, 2, 3] ?_
            exact ih (i + 1) ph9 (by omega) (by omega) ⟨f2, hm2⟩ (hkp.trans hk2)
          refine e_if_eq hX iX12_outliers_32 (fun c32 => ?_) (fun c32 => ?_)
          · refine e_iconst (v := 0) hX iX12_outliers_39 (by decide) ?_
            refine e_loc [0, 1, 3] ?_
            exact next 0 (cntB_s0 (b2i_0.mp c32))
          · refine e_iconst (v := 1) hX iX12_outliers_35 (by decide) ?_
            refine e_goto hX iX12_outliers_36 ?_
            refine e_loc [0, 1, 3] ?_
            exact next 1 (cntB_s1 (b2i_n0.mp c32))
    refine e_iconst (v := 0) hX iX12_outliers_13 (by decide) ?_
    refine e_istore_n hX 2 iX12_outliers_14 rfl (by decide) ?_
    refine e_iconst (v := 0) hX iX12_outliers_15 (by decide) ?_
    refine e_istore_n hX 3 iX12_outliers_16 rfl (by decide) ?_
    refine e_loc [0, 1, 2, 3] ?_
    exact loop (gN σ + 1) 0 ph (by omega) (by omega) ⟨F 11, by rw [updF_id]; exact hm⟩ kept.refl
  · have hk : k_col c = 1 := if_neg (by rw [b2i_0.mp c4]; decide)
    refine e_aload_n hX 0 iX12_outliers_7 rfl rfl ?_
    refine e_iconst (v := 1) hX iX12_outliers_8 (by decide) ?_
    refine e_callV hX iX12_outliers_9 hm.1 (n_fails htr hm 1) rfl rfl ⟨by decide, by decide, by decide, by decide⟩ (Nat.le_of_ble_eq_true rfl) (fun _ _ h => h.elim) (fun v9 ph9 hv9 => ?_)
    obtain ⟨rfl, e9⟩ := hv9
    subst ph9
    exact e_iret hX hQ iX12_outliers_12 rfl (by decide) (by decide) (nP.mk (hm.told hr kept.refl 1) (by rw [hk]; rfl) (by rw [zI_n (by omega)]))
end MOL
