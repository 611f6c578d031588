/-! the model: meanOf, missingShare, isConsistent, smallestKey, minimalAt -/
section MOM
variable {l : Launch} {θ : e_T} {ph : e_PH} {mo : Nat} {μ : Nat → Nat} {σ : SG} {t : Int32} {s : Nat → Int32} {F : Nat → Nat → Int32}
theorem w_isConsistent (htr : l.stackTraces = false) (hm : MP θ ph mo μ σ t) : MC yX12_isConsistent cX12_isConsistent 1 (some .boolean) 1 0 0 l θ [.ref mo] ph (nP θ ph mo μ σ 0 (.int 1)) (fun _ _ => False) := by
  obtain ⟨s, F, hm, hr, rfl⟩ := hm
  refine MC.of htr (by decide) (Nat.le_of_ble_eq_true rfl) ?_
  intro x hX hQ hT
  refine e_aload_n hX 0 iX12_isConsistent_0 rfl rfl ?_
  refine e_iconst (v := 0) hX iX12_isConsistent_1 (by decide) ?_
  refine e_iconst (v := 1) hX iX12_isConsistent_2 (by decide) ?_
  refine e_callV hX iX12_isConsistent_3 hm.1 (n_asks htr hm 0 true) rfl rfl ⟨by decide, by decide, by decide, by decide⟩ (Nat.le_of_ble_eq_true rfl) (fun _ _ h => h.elim) (fun v9 ph9 hv9 => ?_)
  obtain ⟨rfl, e9⟩ := hv9
  subst ph9
  exact e_zret hX hQ iX12_isConsistent_6 rfl (nar_b _) (by decide) (by decide) (nP.mk (hm.told hr kept.refl 0) rfl rfl)
theorem w_missingShare (htr : l.stackTraces = false) (hm : MP θ ph mo μ σ t) (c : Int32) : MC yX12_missingShare cX12_missingShare 2 (some .float) 2 0 0 l θ [.ref mo, .int c] ph (fun z p => (∃ y, z = some (.float y) ∧ (k_share σ c = 0 → y = a_share σ (ix c))) ∧ MP θ p mo μ σ (nI (k_share σ c)) ∧ kept ph p (mS mo μ)) (fun _ _ => False) := by
  obtain ⟨s, F, hm, hr, rfl⟩ := hm
  have hn := hr.ok.1
  refine MC.of htr (by decide) (Nat.le_of_ble_eq_true rfl) ?_
  intro x hX hQ hT
  have wrong : ∀ k : Nat, k < 3 → ¬ k = 0 → k_share σ c = k → EJ θ x 24 [(0, .ref mo), (1, .int c)] [.int (nI k), .ref mo] ph 0 0 := by
    intro k hk3 hk0 hk
    refine e_put (fs' := _) hX iX12_missingShare_24 hm.1 rfl (Nat.le_of_ble_eq_true rfl) rfl rfl ?_
    have g1 := hm.told hr kept.refl (nI k)
    have g0 := hm.fld (upd s 0 (nI k))
    refine e_aload_n hX 0 iX12_missingShare_27 rfl rfl ?_
    refine e_get hX iX12_missingShare_28 g0.1 rfl ?_
    rw [show upd s 0 (nI k) 0 = nI k from upd_s]
    refine e_if_ne hX iX12_missingShare_31 (fun c31 => ?_) (fun c31 => ?_)
    · refine e_fconst0 hX iX12_missingShare_54 ?_
      exact e_fret hX hQ iX12_missingShare_55 rfl (by decide) (by decide) ⟨⟨_, rfl, fun h => by omega⟩, by rw [hk]; exact g1.1, g1.2⟩
    · exact absurd c31 (nI_ne0 (by omega) (by omega))
  refine e_aload_n hX 0 iX12_missingShare_0 rfl rfl ?_
  refine e_iload_n hX 1 iX12_missingShare_1 rfl rfl ?_
  refine e_callS hX iX12_missingShare_2 (n_isColumn htr c) rfl rfl ⟨by decide, by decide, by decide, by decide⟩ (Nat.le_of_ble_eq_true rfl) (fun _ _ h => h.elim) (fun v9 ph9 hv9 => ?_)
  obtain ⟨rfl, e9⟩ := hv9
  subst ph9
  refine e_if_ne hX iX12_missingShare_5 (fun c5 => ?_) (fun c5 => ?_)
  · have h2 := b2i_n0.mp c5
    obtain ⟨c', hc', rfl⟩ := colB_t.mp h2
    have hix : ix (nI c') = c' := ix_n (by omega)
    have hpl : prsN σ c' ≤ gN σ := cntB_le _ _
    refine e_aload_n hX 0 iX12_missingShare_12 rfl rfl ?_
    refine e_get hX iX12_missingShare_13 hm.1 rfl ?_
    rw [hr.1.1]
    refine e_if_ne hX iX12_missingShare_16 (fun c16 => ?_) (fun c16 => ?_)
    · have h0 : ¬ gN σ = 0 := fun e => c16 (by rw [e]; rfl)
      have hk : k_share σ (nI c') = 0 := (if_pos h2).trans (if_neg h0)
      refine e_iconst (v := 0) hX iX12_missingShare_23 (by decide) ?_
      refine e_put (fs' := _) hX iX12_missingShare_24 hm.1 rfl (Nat.le_of_ble_eq_true rfl) rfl rfl ?_
      have g1 := hm.told hr kept.refl 0
      have g0 := hm.fld (upd s 0 0)
      refine e_aload_n hX 0 iX12_missingShare_27 rfl rfl ?_
      refine e_get hX iX12_missingShare_28 g0.1 rfl ?_
      rw [show upd s 0 0 0 = 0 from upd_s]
      refine e_if_ne hX iX12_missingShare_31 (fun c31 => ?_) (fun c31 => ?_)
      · exact absurd rfl c31
      · refine e_aload_n hX 0 iX12_missingShare_34 rfl rfl ?_
        refine e_get hX iX12_missingShare_35 g0.1 rfl ?_
        rw [show upd s 0 0 1 = nI (gN σ) from hr.1.1]
        refine e_aload_n hX 0 iX12_missingShare_38 rfl rfl ?_
        refine e_iload_n hX 1 iX12_missingShare_39 rfl rfl ?_
        refine e_callV hX iX12_missingShare_40 g0.1 (n_present htr g0 (show MR σ (upd s 0 0) F from hr) hc') rfl rfl ⟨by decide, by decide, by decide, by decide⟩ (Nat.le_of_ble_eq_true rfl) (fun _ _ h => h.elim) (fun v9 ph9 hv9 => ?_)
        obtain ⟨rfl, e9⟩ := hv9
        subst ph9
        refine e_isub hX iX12_missingShare_43 ?_
        rw [pk_sub hpl]
        refine e_i2f hX iX12_missingShare_44 ?_
        refine e_aload_n hX 0 iX12_missingShare_45 rfl rfl ?_
        refine e_get hX iX12_missingShare_46 g0.1 rfl ?_
        rw [show upd s 0 0 1 = nI (gN σ) from hr.1.1]
        refine e_i2f hX iX12_missingShare_49 ?_
        refine e_fdiv hX iX12_missingShare_50 (ff_ok (by omega) (by omega) h0) ?_
        refine e_goto hX iX12_missingShare_51 ?_
        exact e_fret hX hQ iX12_missingShare_55 rfl (by decide) (by decide) ⟨⟨_, rfl, fun _ => by rw [hix]; rfl⟩, by rw [hk]; exact g1.1, g1.2⟩
    · have h0 : gN σ = 0 := by
        rcases Nat.eq_zero_or_pos (gN σ) with e | e
        · exact e
        · exact absurd c16 (nI_ne0 e (by omega))
      refine e_iconst (v := 2) hX iX12_missingShare_19 (by decide) ?_
      refine e_goto hX iX12_missingShare_20 ?_
      exact wrong 2 (by decide) (by decide) ((if_pos h2).trans (if_pos h0))
  · refine e_iconst (v := 1) hX iX12_missingShare_8 (by decide) ?_
    refine e_goto hX iX12_missingShare_9 ?_
    exact wrong 1 (by decide) (by decide) (if_neg (by rw [b2i_0.mp c5]; decide))
theorem w_meanOf (htr : l.stackTraces = false) (hm : MP θ ph mo μ σ t) (c : Int32) : MC yX12_meanOf cX12_meanOf 5 (some .double) 2 0 0 l θ [.ref mo, .int c] ph (fun z p => (∃ y, z = some (.double y) ∧ (k_med σ c = 0 → y = a_mean σ (ix c))) ∧ MP θ p mo μ σ (nI (k_med σ c)) ∧ kept ph p (mS mo μ)) (fun _ _ => False) := by
  obtain ⟨s, F, hm, hr, rfl⟩ := hm
  have hn := hr.ok.1
  refine MC.of htr (by decide) (Nat.le_of_ble_eq_true rfl) ?_
  intro x hX hQ hT
  have wrong : ∀ (k : Nat) (a : Int32), k < 3 → ¬ k = 0 → k_med σ c = k → EJ θ x 38 [(0, .ref mo), (1, .int c), (2, .int a)] [.int (nI k), .ref mo] ph 0 0 := by
    intro k a hk3 hk0 hk
    refine e_put (fs' := _) hX iX12_meanOf_38 hm.1 rfl (Nat.le_of_ble_eq_true rfl) rfl rfl ?_
    have g1 := hm.told hr kept.refl (nI k)
    have g0 := hm.fld (upd s 0 (nI k))
    have e0 : upd s 0 (nI k) 0 = nI k := upd_s
    have out : ∀ lv, lkp lv 0 = some (.ref mo) → lkp lv 3 = some (.int 0) → lkp lv 2 = some (.int a) → EJ θ x 94 lv [] (e_up ph mo (mobj μ (upd s 0 (nI k)))) 0 0 := by
      intro lv h0 h3 h2
      refine e_aload_n hX 0 iX12_meanOf_94 rfl h0 ?_
      refine e_get hX iX12_meanOf_95 g0.1 rfl ?_
      rw [e0]
      refine e_if_ne hX iX12_meanOf_98 (fun c98 => ?_) (fun c98 => ?_)
      · refine e_dconst0 hX iX12_meanOf_109 ?_
        exact e_dret hX hQ iX12_meanOf_110 rfl (by decide) (by decide) ⟨⟨_, rfl, fun h => by omega⟩, by rw [hk]; exact g1.1, g1.2⟩
      · exact absurd c98 (nI_ne0 (by omega) (by omega))
    refine e_iconst (v := 0) hX iX12_meanOf_41 (by decide) ?_
    refine e_istore_n hX 3 iX12_meanOf_42 rfl (by decide) ?_
    refine e_iconst (v := 0) hX iX12_meanOf_43 (by decide) ?_
    refine e_istore hX iX12_meanOf_44 (by decide) ?_
    refine e_iload hX iX12_meanOf_46 rfl ?_
    refine e_aload_n hX 0 iX12_meanOf_48 rfl rfl ?_
    refine e_get hX iX12_meanOf_49 g0.1 rfl ?_
    rw [show upd s 0 (nI k) 1 = nI (gN σ) from hr.1.1]
    refine e_icmp_ge hX iX12_meanOf_52 (fun c52 => ?_) (fun c52 => ?_)
    · exact out _ rfl rfl rfl
    · refine e_aload_n hX 0 iX12_meanOf_55 rfl rfl ?_
      refine e_get hX iX12_meanOf_56 g0.1 rfl ?_
      rw [e0]
      refine e_if_ne hX iX12_meanOf_59 (fun c59 => ?_) (fun c59 => ?_)
      · exact out _ rfl rfl rfl
      · exact absurd c59 (nI_ne0 (by omega) (by omega))
  refine e_iload_n hX 1 iX12_meanOf_0 rfl rfl ?_
  refine e_callS hX iX12_meanOf_1 (n_isColumn htr c) rfl rfl ⟨by decide, by decide, by decide, by decide⟩ (Nat.le_of_ble_eq_true rfl) (fun _ _ h => h.elim) (fun v9 ph9 hv9 => ?_)
  obtain ⟨rfl, e9⟩ := hv9
  subst ph9
  refine e_if_eq hX iX12_meanOf_4 (fun c4 => ?_) (fun c4 => ?_)
  · have h2f : ¬ colB c = true := by rw [b2i_0.mp c4]; decide
    refine e_iconst (v := 0) hX iX12_meanOf_15 (by decide) ?_
    refine e_istore_n hX 2 iX12_meanOf_16 rfl (by decide) ?_
    refine e_aload_n hX 0 iX12_meanOf_17 rfl rfl ?_
    refine e_iload_n hX 1 iX12_meanOf_18 rfl rfl ?_
    refine e_callS hX iX12_meanOf_19 (n_isColumn htr c) rfl rfl ⟨by decide, by decide, by decide, by decide⟩ (Nat.le_of_ble_eq_true rfl) (fun _ _ h => h.elim) (fun v9 ph9 hv9 => ?_)
    obtain ⟨rfl, e9⟩ := hv9
    subst ph9
    refine e_if_ne hX iX12_meanOf_22 (fun c22 => ?_) (fun c22 => ?_)
    · exact absurd c4 c22
    · refine e_iconst (v := 1) hX iX12_meanOf_25 (by decide) ?_
      refine e_goto hX iX12_meanOf_26 ?_
      refine e_loc [0, 1, 2] ?_
      exact wrong 1 _ (by decide) (by decide) (if_neg h2f)
  · have h2 := b2i_n0.mp c4
    obtain ⟨c', hc', rfl⟩ := colB_t.mp h2
    have hix : ix (nI c') = c' := ix_n (by omega)
    have hpl : prsN σ c' ≤ gN σ := cntB_le _ _
    refine e_aload_n hX 0 iX12_meanOf_7 rfl rfl ?_
    refine e_iload_n hX 1 iX12_meanOf_8 rfl rfl ?_
    refine e_callV hX iX12_meanOf_9 hm.1 (n_present htr hm hr hc') rfl rfl ⟨by decide, by decide, by decide, by decide⟩ (Nat.le_of_ble_eq_true rfl) (fun _ _ h => h.elim) (fun v9 ph9 hv9 => ?_)
    obtain ⟨rfl, e9⟩ := hv9
    subst ph9
    refine e_goto hX iX12_meanOf_12 ?_
    refine e_istore_n hX 2 iX12_meanOf_16 rfl (by decide) ?_
    refine e_aload_n hX 0 iX12_meanOf_17 rfl rfl ?_
    refine e_iload_n hX 1 iX12_meanOf_18 rfl rfl ?_
    refine e_callS hX iX12_meanOf_19 (n_isColumn htr (nI c')) rfl rfl ⟨by decide, by decide, by decide, by decide⟩ (Nat.le_of_ble_eq_true rfl) (fun _ _ h => h.elim) (fun v9 ph9 hv9 => ?_)
    obtain ⟨rfl, e9⟩ := hv9
    subst ph9
    refine e_if_ne hX iX12_meanOf_22 (fun c22 => ?_) (fun c22 => ?_)
    · refine e_iload_n hX 2 iX12_meanOf_29 rfl rfl ?_
      refine e_if_ne hX iX12_meanOf_30 (fun c30 => ?_) (fun c30 => ?_)
      · have h0 : ¬ prsN σ c' = 0 := fun e => c30 (by rw [e]; rfl)
        have hk : k_med σ (nI c') = 0 := (if_pos h2).trans (if_neg (by rw [hix]; exact h0))
        refine e_iconst (v := 0) hX iX12_meanOf_37 (by decide) ?_
        refine e_put (fs' := _) hX iX12_meanOf_38 hm.1 rfl (Nat.le_of_ble_eq_true rfl) rfl rfl ?_
        have g1 := hm.told hr kept.refl 0
        have g0 : MI θ (e_up ph mo (mobj μ (upd s 0 0))) mo μ (upd s 0 0) F := hm.fld (upd s 0 0)
        have e0 : upd s 0 0 0 = 0 := upd_s
        have e1 : upd s 0 0 1 = nI (gN σ) := hr.1.1
        have loop : ∀ (z i : Nat), gN σ - i < z → i ≤ gN σ → EJ θ x 46 [(0, .ref mo), (1, .int (nI c')), (2, .int (nI (prsN σ c'))), (3, .int (sumP σ c' i)), (4, .int (nI i))] [] (e_up ph mo (mobj μ (upd s 0 0))) 0 0 := by
          intro z
          induction z with
          | zero => intro i hz; omega
          | succ z ih =>
            intro i hz hi
            have next : ∀ d, sumP σ c' (i + 1) = sumP σ c' i + d → i < gN σ → EJ θ x 86 [(0, .ref mo), (1, .int (nI c')), (2, .int (nI (prsN σ c'))), (4, .int (nI i))] [.int d, .int (sumP σ c' i)] (e_up ph mo (mobj μ (upd s 0 0))) 0 0 := by
              intro d hd hin
              refine e_iadd hX iX12_meanOf_86 ?_
              rw [← hd]
              refine e_istore_n hX 3 iX12_meanOf_87 rfl (by decide) ?_
              refine e_iinc hX iX12_meanOf_88 rfl (by first | exact nI_inc _ | rfl) (by decide) ?_
              refine e_goto hX iX12_meanOf_91 ?_
              refine e_loc [0, 1, 2, 3, 4] ?_
              exact ih (i + 1) (by omega) (by omega)
            refine e_iload hX iX12_meanOf_46 rfl ?_
            refine e_aload_n hX 0 iX12_meanOf_48 rfl rfl ?_
            refine e_get hX iX12_meanOf_49 g0.1 rfl ?_
            rw [e1]
            refine e_icmp_ge hX iX12_meanOf_52 (fun c52 => ?_) (fun c52 => ?_)
            · have hin := nI_same hi (by omega) c52
              subst hin
              refine e_aload_n hX 0 iX12_meanOf_94 rfl rfl ?_
              refine e_get hX iX12_meanOf_95 g0.1 rfl ?_
              rw [e0]
              refine e_if_ne hX iX12_meanOf_98 (fun c98 => ?_) (fun c98 => ?_)
              · exact absurd rfl c98
              · refine e_iload_n hX 3 iX12_meanOf_101 rfl rfl ?_
                refine e_i2d hX iX12_meanOf_102 ?_
                refine e_iload_n hX 2 iX12_meanOf_103 rfl rfl ?_
                refine e_i2d hX iX12_meanOf_104 ?_
                refine e_ddiv hX iX12_meanOf_105 (mean_ok hn (fun i hi => hr.ok.2.2.2.2.1 i hi c' hc') h0) ?_
                refine e_goto hX iX12_meanOf_106 ?_
                exact e_dret hX hQ iX12_meanOf_110 rfl (by decide) (by decide) ⟨⟨_, rfl, fun _ => by rw [hix]; rfl⟩, by rw [hk]; exact g1.1, g1.2⟩
            · have hin := nI_less hi (by omega) c52
              refine e_aload_n hX 0 iX12_meanOf_55 rfl rfl ?_
              refine e_get hX iX12_meanOf_56 g0.1 rfl ?_
              rw [e0]
              refine e_if_ne hX iX12_meanOf_59 (fun c59 => ?_) (fun c59 => ?_)
              · exact absurd rfl c59
              · refine e_iload_n hX 3 iX12_meanOf_62 rfl rfl ?_
                refine e_aload_n hX 0 iX12_meanOf_63 rfl rfl ?_
                refine e_iload hX iX12_meanOf_64 rfl ?_
                refine e_iload_n hX 1 iX12_meanOf_66 rfl rfl ?_
                refine e_callV hX iX12_meanOf_67 g0.1 (n_at htr g0 (show i < 18 by omega) hc') rfl rfl ⟨by decide, by decide, by decide, by decide⟩ (Nat.le_of_ble_eq_true rfl) (fun _ _ h => h.elim) (fun v9 ph9 hv9 => ?_)
                obtain ⟨rfl, e9⟩ := hv9
                subst ph9
                rw [hr.v hin c' hc']
                refine e_bipush (v := 100) hX iX12_meanOf_70 (by decide) ?_
                refine e_icmp_ne hX iX12_meanOf_72 (fun c72 => ?_) (fun c72 => ?_)
                · refine e_aload_n hX 0 iX12_meanOf_79 rfl rfl ?_
                  refine e_iload hX iX12_meanOf_80 rfl ?_
                  refine e_iload_n hX 1 iX12_meanOf_82 rfl rfl ?_
                  refine e_callV hX iX12_meanOf_83 g0.1 (n_at htr g0 (show i < 18 by omega) hc') rfl rfl ⟨by decide, by decide, by decide, by decide⟩ (Nat.le_of_ble_eq_true rfl) (fun _ _ h => h.elim) (fun v9 ph9 hv9 => ?_)
                  obtain ⟨rfl, e9⟩ := hv9
                  subst ph9
                  rw [hr.v hin c' hc']
                  refine e_loc [0, 1, 2, 4] ?_
                  exact next _ (if_pos (show pres (gV σ i c') = true from decide_eq_true c72)) hin
                · refine e_iconst (v := 0) hX iX12_meanOf_75 (by decide) ?_
                  refine e_goto hX iX12_meanOf_76 ?_
                  refine e_loc [0, 1, 2, 4] ?_
                  exact next 0 ((if_neg (by unfold pres; rw [c72]; decide)).trans (Int32.add_zero _).symm) hin
        refine e_iconst (v := 0) hX iX12_meanOf_41 (by decide) ?_
        refine e_istore_n hX 3 iX12_meanOf_42 rfl (by decide) ?_
        refine e_iconst (v := 0) hX iX12_meanOf_43 (by decide) ?_
        refine e_istore hX iX12_meanOf_44 (by decide) ?_
        refine e_loc [0, 1, 2, 3, 4] ?_
        exact loop (gN σ + 1) 0 (by omega) (by omega)
      · have h0 : prsN σ c' = 0 := by
          rcases Nat.eq_zero_or_pos (prsN σ c') with e | e
          · exact e
          · exact absurd c30 (nI_ne0 e (by omega))
        refine e_iconst (v := 2) hX iX12_meanOf_33 (by decide) ?_
        refine e_goto hX iX12_meanOf_34 ?_
        refine e_loc [0, 1, 2] ?_
        exact wrong 2 _ (by decide) (by decide) ((if_pos h2).trans (if_pos (by rw [hix]; exact h0)))
    · exact absurd c22 c4
end MOM
