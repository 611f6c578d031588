/-! the model: dropRule, violations, stage -/
theorem in_lt {q : Int32} {n : Nat} (hn : n < 13) : (decide (0 ≤ q) && decide (q ≤ nI n - 1)) = (decide (0 ≤ q) && decide (q < nI n)) := by
  have e1 : (nI n - 1).toInt = (n : Int) - 1 := (by decide : ∀ n, n < 13 → (nI n - 1).toInt = (n : Int) - 1) _ hn
  have e2 : (nI n).toInt = (n : Int) := nI_toInt (by omega)
  congr 1
  refine decide_eq_decide.mpr ?_
  rw [Int32.le_iff_toInt_le, Int32.lt_iff_toInt_lt, e1, e2]
  omega
theorem MR.drop {σ : SG} {s : Nat → Int32} {F : Nat → Nat → Int32} (hr : MR σ s F) {q : Nat} (hq : q < gK σ) : MR (s_drop σ q) s (updF F 8 (upd (F 8) q 1)) := by
  obtain ⟨a, b, c1, c2, c3, c4, c5, ok⟩ := hr
  refine ⟨a, b, c1, c2, fun r hr => ?_, fun r hr => ?_, c5, ok⟩
  · have h := c3 r hr
    show mrule F r (if r = q then drpR (gR σ q) else gR σ r) ∧ F 7 r = b2i (stR (if r = q then drpR (gR σ q) else gR σ r)) ∧ upd (F 8) q 1 r = b2i (drR (if r = q then drpR (gR σ q) else gR σ r))
    by_cases e : r = q
    · subst e
      rw [if_pos rfl, upd_s]
      exact ⟨h.1, h.2.1, rfl⟩
    · rw [if_neg e, upd_n e]; exact h
  · have hr' : gK σ ≤ r := hr
    show upd (F 8) q 1 r = 0
    rw [upd_n (by omega)]
    exact c4 r hr'
theorem MR.stage {σ : SG} {s : Nat → Int32} {F : Nat → Nat → Int32} (hr : MR σ s F) (hm : gM σ < 6) {y : Nat → Int32} (hy : ∀ c, c < 5 → okV (y c)) {s' : Nat → Int32} {f : Nat → Int32} (h3 : s' 3 = nI (gM σ + 1)) (hs : ∀ j, j ≠ 3 → s' j = s j) (hf : ∀ j, j < 5 * gM σ → f j = F 2 j) (hf2 : ∀ c, c < 5 → f (5 * gM σ + c) = y c) : MR (s_stg σ y) s' (updF F 2 f) := by
  obtain ⟨⟨a1, a2, a3, a4, a5, a6, b, a7⟩, ⟨b1, b2⟩, c1, c2, c3, c4, c5, ok⟩ := hr
  refine ⟨⟨by rw [hs 1 (by decide)]; exact a1, by rw [hs 2 (by decide)]; exact a2, h3, by rw [hs 7 (by decide)]; exact a4, by rw [hs 22 (by decide)]; exact a5, by rw [hs 23 (by decide)]; exact a6, b, by rw [hs 17 (by decide)]; exact a7⟩, ⟨by rw [hs 14 (by decide)]; exact b1, fun h => by rw [hs 15 (by decide), hs 16 (by decide), hs 17 (by decide)]; exact b2 h⟩, c1, fun i hi c hc => ?_, c3, c4, c5, ⟨ok.1, by show gM σ + 1 ≤ 6; omega, ok.2.2.1, ok.2.2.2.1, ok.2.2.2.2.1, fun i hi c hc => ?_, ok.2.2.2.2.2.2⟩⟩
  · have hi' : i < gM σ + 1 := hi
    show f (5 * i + c) = (if i = gM σ then y else gW σ i) c
    by_cases e : i = gM σ
    · subst e; rw [if_pos rfl]; exact hf2 c hc
    · rw [if_neg e, hf _ (by omega)]; exact c2 i (by omega) c hc
  · have hi' : i < gM σ + 1 := hi
    show okV ((if i = gM σ then y else gW σ i) c)
    by_cases e : i = gM σ
    · rw [if_pos e]; exact hy c hc
    · rw [if_neg e]; exact ok.2.2.2.2.2.1 i (by omega) c hc
section MOF
variable {l : Launch} {θ : e_T} {ph : e_PH} {mo : Nat} {μ : Nat → Nat} {σ : SG} {t : Int32}
theorem w_dropRule (htr : l.stackTraces = false) (hm : MP θ ph mo μ σ t) (q : Int32) : MC yX12_dropRule cX12_dropRule 4 (some .int) 1 0 0 l θ [.ref mo, .int q] ph (nP θ ph mo μ (if k_rule σ q = 0 then s_drop σ (ix q) else σ) (k_rule σ q) (zI (k_rule σ q) (nI (a_drop (s_drop σ (ix q)))))) (fun _ _ => False) := by
  obtain ⟨s, F, hm, hr, rfl⟩ := hm
  have hk10 := hr.ok.2.2.1
  refine MC.of htr (by decide) (Nat.le_of_ble_eq_true rfl) ?_
  intro x hX hQ hT
  have bad : ∀ k, ¬ k = 0 → k_rule σ q = k → nP θ ph mo μ (if k_rule σ q = 0 then s_drop σ (ix q) else σ) (k_rule σ q) (zI (k_rule σ q) (nI (a_drop (s_drop σ (ix q))))) (some (.int 0)) (e_up ph mo (mobj μ (upd s 0 (nI k)))) := fun k hk0 hk => by
    rw [if_neg (by omega)]
    exact nP.mk (hm.told hr kept.refl (nI k)) (by rw [hk]) (by rw [zI_n (by omega)])
  refine e_iload_n hX 1 iX12_dropRule_0 rfl rfl ?_
  refine e_iconst (v := 0) hX iX12_dropRule_1 (by decide) ?_
  refine e_aload_n hX 0 iX12_dropRule_2 rfl rfl ?_
  refine e_get hX iX12_dropRule_3 hm.1 rfl ?_
  rw [hr.1.2.2.2.1]
  refine e_iconst (v := 1) hX iX12_dropRule_6 (by decide) ?_
  refine e_isub hX iX12_dropRule_7 ?_
  refine e_callS hX iX12_dropRule_8 (n_in htr q 0 (nI (gK σ) - 1)) rfl rfl ⟨by decide, by decide, by decide, by decide⟩ (Nat.le_of_ble_eq_true rfl) (fun _ _ h => h.elim) (fun v9 ph9 hv9 => ?_)
  obtain ⟨rfl, e9⟩ := hv9
  subst ph9
  rw [in_lt (by omega)]
  refine e_if_ne hX iX12_dropRule_11 (fun c11 => ?_) (fun c11 => ?_)
  · have h1 := b2i_n0.mp c11
    obtain ⟨q', hq', rfl⟩ := (ltB_t (by omega)).mp h1
    have hix : ix (nI q') = q' := ix_n (by omega)
    refine e_aload_n hX 0 iX12_dropRule_20 rfl rfl ?_
    refine e_get hX iX12_dropRule_21 hm.1 rfl ?_
    refine e_iload_n hX 1 iX12_dropRule_24 rfl rfl ?_
    refine e_zald hX q' iX12_dropRule_25 (hm.z 8 (by decide) (by decide)) rfl (by omega) (by decide) ?_
    rw [(hr.rules q' hq').2.2]
    refine e_if_eq hX iX12_dropRule_26 (fun c26 => ?_) (fun c26 => ?_)
    · have h2 := b2i_0.mp c26
      have hk : k_rule σ (nI q') = 0 := by unfold k_rule; rw [if_pos h1, hix, h2]; rfl
      refine e_aload_n hX 0 iX12_dropRule_35 rfl rfl ?_
      refine e_get hX iX12_dropRule_36 hm.1 rfl ?_
      refine e_iload_n hX 1 iX12_dropRule_39 rfl rfl ?_
      refine e_iconst (v := 1) hX iX12_dropRule_40 (by decide) ?_
      refine e_zast hX q' iX12_dropRule_41 (hm.z 8 (by decide) (by decide)) rfl (by omega) (by decide) ?_
      have hm2 : MI θ (e_up ph (μ 8) (e_Z θ 10 (upd (F 8) q' (vp_nar .boolean 1)))) mo μ s (updF F 8 (upd (F 8) q' 1)) := hm.arrZ 8 (by decide) (by decide) _
      have hr2 := hr.drop hq'
      have hk2 : kept ph (e_up ph (μ 8) (e_Z θ 10 (upd (F 8) q' (vp_nar .boolean 1)))) (mS mo μ) := mS.arr kept.refl (j := 8) (by decide)
      generalize e_up ph (μ 8) (e_Z θ 10 (upd (F 8) q' (vp_nar .boolean 1))) = p at hm2 hk2 ⊢
      generalize hF2 : updF F 8 (upd (F 8) q' 1) = F2 at hm2 hr2
      let P : Nat → Bool := fun i => !drR (gR (s_drop σ q') i)
      have loop : ∀ (z i : Nat), gK σ - i < z → i ≤ gK σ → EJ θ x 46 [(0, .ref mo), (1, .int (nI q')), (2, .int (nI (cntB i P))), (3, .int (nI i))] [] p 0 0 := by
        intro z
        induction z with
        | zero => intro i hz; omega
        | succ z ih =>
          intro i hz hi
          have next : ∀ (y d : Nat), cntB (i + 1) P = y → y = cntB i P + d → i < gK σ → EJ θ x 69 [(0, .ref mo), (1, .int (nI q')), (2, .int (nI (cntB i P))), (3, .int (nI i))] [.int (nI d), .int (nI (cntB i P))] p 0 0 := by
            intro y d hy hd hin
            refine e_iadd hX iX12_dropRule_69 ?_
            rw [nI_add, ← hd]
            refine e_istore_n hX 2 iX12_dropRule_70 rfl (by decide) ?_
            refine e_iinc hX iX12_dropRule_71 rfl (by first | exact nI_inc _ | rfl) (by decide) ?_
            refine e_goto hX iX12_dropRule_74 ?_
            refine e_loc [0, 1, 2, 3] ?_
            have := ih (i + 1) (by omega) (by omega)
            rw [hy] at this
            exact this
          refine e_iload_n hX 3 iX12_dropRule_46 rfl rfl ?_
          refine e_aload_n hX 0 iX12_dropRule_47 rfl rfl ?_
          refine e_get hX iX12_dropRule_48 hm2.1 rfl ?_
          rw [hr.1.2.2.2.1]
          refine e_icmp_ge hX iX12_dropRule_51 (fun c51 => ?_) (fun c51 => ?_)
          · have hin := nI_same hi (by omega) c51
            refine e_aload_n hX 0 iX12_dropRule_77 rfl rfl ?_
            refine e_iload_n hX 2 iX12_dropRule_78 rfl rfl ?_
            refine e_callV hX iX12_dropRule_79 hm2.1 (n_tells htr hm2 (nI (cntB i P))) rfl rfl ⟨by decide, by decide, by decide, by decide⟩ (Nat.le_of_ble_eq_true rfl) (fun _ _ h => h.elim) (fun v9 ph9 hv9 => ?_)
            obtain ⟨rfl, e9⟩ := hv9
            subst ph9
            exact e_iret hX hQ iX12_dropRule_82 rfl (by decide) (by decide) (by rw [if_pos hk, hix]; exact nP.mk (hm2.told hr2 hk2 0) (by rw [hk]; rfl) (by rw [zI_0 hk, hin]; rfl))
          · have hin := nI_less hi (by omega) c51
            refine e_iload_n hX 2 iX12_dropRule_54 rfl rfl ?_
            refine e_aload_n hX 0 iX12_dropRule_55 rfl rfl ?_
            refine e_get hX iX12_dropRule_56 hm2.1 rfl ?_
            refine e_iload_n hX 3 iX12_dropRule_59 rfl rfl ?_
            refine e_zald hX i iX12_dropRule_60 (hm2.z 8 (by decide) (by decide)) rfl (by omega) (by decide) ?_
            rw [(hr2.rules i hin).2.2]
            refine e_if_eq hX iX12_dropRule_61 (fun c61 => ?_) (fun c61 => ?_)
            · refine e_iconst (v := 1) hX iX12_dropRule_68 (by decide) ?_
              exact next _ 1 (cntB_s1 (show (!drR (gR (s_drop σ q') i)) = true by rw [b2i_0.mp c61]; rfl)) rfl hin
            · refine e_iconst (v := 0) hX iX12_dropRule_64 (by decide) ?_
              refine e_goto hX iX12_dropRule_65 ?_
              exact next _ 0 (cntB_s0 (show (!drR (gR (s_drop σ q') i)) = false by rw [b2i_n0.mp c61]; rfl)) rfl hin
      refine e_iconst (v := 0) hX iX12_dropRule_42 (by decide) ?_
      refine e_istore_n hX 2 iX12_dropRule_43 rfl (by decide) ?_
      refine e_iconst (v := 0) hX iX12_dropRule_44 (by decide) ?_
      refine e_istore_n hX 3 iX12_dropRule_45 rfl (by decide) ?_
      refine e_loc [0, 1, 2, 3] ?_
      exact loop (gK σ + 1) 0 (by omega) (by omega)
    · have h2 := b2i_n0.mp c26
      refine e_aload_n hX 0 iX12_dropRule_29 rfl rfl ?_
      refine e_iconst (v := 2) hX iX12_dropRule_30 (by decide) ?_
      refine e_callV hX iX12_dropRule_31 hm.1 (n_fails htr hm 2) rfl rfl ⟨by decide, by decide, by decide, by decide⟩ (Nat.le_of_ble_eq_true rfl) (fun _ _ h => h.elim) (fun v9 ph9 hv9 => ?_)
      obtain ⟨rfl, e9⟩ := hv9
      subst ph9
      exact e_iret hX hQ iX12_dropRule_34 rfl (by decide) (by decide) (bad 2 (by decide) (by unfold k_rule; rw [if_pos h1, hix, if_pos h2]))
  · refine e_aload_n hX 0 iX12_dropRule_14 rfl rfl ?_
    refine e_iconst (v := 1) hX iX12_dropRule_15 (by decide) ?_
    refine e_callV hX iX12_dropRule_16 hm.1 (n_fails htr hm 1) rfl rfl ⟨by decide, by decide, by decide, by decide⟩ (Nat.le_of_ble_eq_true rfl) (fun _ _ h => h.elim) (fun v9 ph9 hv9 => ?_)
    obtain ⟨rfl, e9⟩ := hv9
    subst ph9
    exact e_iret hX hQ iX12_dropRule_19 rfl (by decide) (by decide) (bad 1 (by decide) (if_neg (by rw [b2i_0.mp c11]; decide)))
theorem w_violations (htr : l.stackTraces = false) (hm : MP θ ph mo μ σ t) (q : Int32) : MC yX12_violations cX12_violations 5 (some .int) 3 0 0 l θ [.ref mo, .int q] ph (nP θ ph mo μ σ (k_rule σ q) (zI (k_rule σ q) (nI (a_violations σ q)))) (fun _ _ => False) := by
  obtain ⟨s, F, hm, hr, rfl⟩ := hm
  have hk10 := hr.ok.2.2.1
  have hn := hr.ok.1
  refine MC.of htr (by decide) (Nat.le_of_ble_eq_true rfl) ?_
  intro x hX hQ hT
  have bad : ∀ k, ¬ k = 0 → k_rule σ q = k → nP θ ph mo μ σ (k_rule σ q) (zI (k_rule σ q) (nI (a_violations σ q))) (some (.int 0)) (e_up ph mo (mobj μ (upd s 0 (nI k)))) := fun k hk0 hk => nP.mk (hm.told hr kept.refl (nI k)) (by rw [hk]) (by rw [zI_n (by omega)])
  refine e_iload_n hX 1 iX12_violations_0 rfl rfl ?_
  refine e_iconst (v := 0) hX iX12_violations_1 (by decide) ?_
  refine e_aload_n hX 0 iX12_violations_2 rfl rfl ?_
  refine e_get hX iX12_violations_3 hm.1 rfl ?_
  rw [hr.1.2.2.2.1]
  refine e_iconst (v := 1) hX iX12_violations_6 (by decide) ?_
  refine e_isub hX iX12_violations_7 ?_
  refine e_callS hX iX12_violations_8 (n_in htr q 0 (nI (gK σ) - 1)) rfl rfl ⟨by decide, by decide, by decide, by decide⟩ (Nat.le_of_ble_eq_true rfl) (fun _ _ h => h.elim) (fun v9 ph9 hv9 => ?_)
  obtain ⟨rfl, e9⟩ := hv9
  subst ph9
  rw [in_lt (by omega)]
  refine e_if_ne hX iX12_violations_11 (fun c11 => ?_) (fun c11 => ?_)
  · have h1 := b2i_n0.mp c11
    obtain ⟨q', hq', rfl⟩ := (ltB_t (by omega)).mp h1
    have hix : ix (nI q') = q' := ix_n (by omega)
    refine e_aload_n hX 0 iX12_violations_20 rfl rfl ?_
    refine e_get hX iX12_violations_21 hm.1 rfl ?_
    refine e_iload_n hX 1 iX12_violations_24 rfl rfl ?_
    refine e_zald hX q' iX12_violations_25 (hm.z 8 (by decide) (by decide)) rfl (by omega) (by decide) ?_
    rw [(hr.rules q' hq').2.2]
    refine e_if_eq hX iX12_violations_26 (fun c26 => ?_) (fun c26 => ?_)
    · have h2 := b2i_0.mp c26
      have hk : k_rule σ (nI q') = 0 := by unfold k_rule; rw [if_pos h1, hix, h2]; rfl
      have hρ := (hr.rules q' hq').1
      let G : Nat → Nat := vioR (gR σ q') (gV σ)
      have outer : ∀ (z i : Nat), gN σ - i < z → i ≤ gN σ → EJ θ x 39 [(0, .ref mo), (1, .int (nI q')), (2, .int (nI (sumN i G))), (3, .int (nI i))] [] ph 0 0 := by
        intro z
        induction z with
        | zero => intro i hz; omega
        | succ z ih =>
          intro i hz hi
          refine e_iload_n hX 3 iX12_violations_39 rfl rfl ?_
          refine e_aload_n hX 0 iX12_violations_40 rfl rfl ?_
          refine e_get hX iX12_violations_41 hm.1 rfl ?_
          rw [hr.1.1]
          refine e_icmp_ge hX iX12_violations_44 (fun c44 => ?_) (fun c44 => ?_)
          · have hin := nI_same hi (by omega) c44
            refine e_aload_n hX 0 iX12_violations_104 rfl rfl ?_
            refine e_iload_n hX 2 iX12_violations_105 rfl rfl ?_
            refine e_callV hX iX12_violations_106 hm.1 (n_tells htr hm (nI (sumN i G))) rfl rfl ⟨by decide, by decide, by decide, by decide⟩ (Nat.le_of_ble_eq_true rfl) (fun _ _ h => h.elim) (fun v9 ph9 hv9 => ?_)
            obtain ⟨rfl, e9⟩ := hv9
            subst ph9
            exact e_iret hX hQ iX12_violations_109 rfl (by decide) (by decide) (nP.mk (hm.told hr kept.refl 0) (by rw [hk]; rfl) (by rw [zI_0 hk]; unfold a_violations; rw [hix, ← hin]))
          · have hin := nI_less hi (by omega) c44
            have inner : ∀ (z3 j b0 : Nat), i - j < z3 → j ≤ i → b0 = (if brkR (gR σ q') (gV σ i) = true then 1 else 0) → EJ θ x 67 [(0, .ref mo), (1, .int (nI q')), (2, .int (nI (sumN i G + (b0 + cntB j (fun z => clsR (gR σ q') (gV σ i) (gV σ z)))))), (3, .int (nI i)), (4, .int (nI j))] [] ph 0 0 := by
              intro z3
              induction z3 with
              | zero => intro j b0 hz3; omega
              | succ z3 ih3 =>
                intro j b0 hz3 hj hb0
                have next : ∀ (y d : Nat), cntB (j + 1) (fun z => clsR (gR σ q') (gV σ i) (gV σ z)) = y → y = cntB j (fun z => clsR (gR σ q') (gV σ i) (gV σ z)) + d → j < i → EJ θ x 90 [(0, .ref mo), (1, .int (nI q')), (3, .int (nI i)), (4, .int (nI j))] [.int (nI d), .int (nI (sumN i G + (b0 + cntB j (fun z => clsR (gR σ q') (gV σ i) (gV σ z)))))] ph 0 0 := by
                  intro y d hy hd hji
                  refine e_iadd hX iX12_violations_90 ?_
                  rw [nI_add, show sumN i G + (b0 + cntB j (fun z => clsR (gR σ q') (gV σ i) (gV σ z))) + d = sumN i G + (b0 + y) by omega]
                  refine e_istore_n hX 2 iX12_violations_91 rfl (by decide) ?_
                  refine e_iinc hX iX12_violations_92 rfl (by first | exact nI_inc _ | rfl) (by decide) ?_
                  refine e_goto hX iX12_violations_95 ?_
                  refine e_loc [0, 1, 2, 3, 4] ?_
                  have := ih3 (j + 1) b0 (by omega) (by omega) hb0
                  rw [hy] at this
                  exact this
                refine e_iload hX iX12_violations_67 rfl ?_
                refine e_iload_n hX 3 iX12_violations_69 rfl rfl ?_
                refine e_icmp_ge hX iX12_violations_70 (fun c70 => ?_) (fun c70 => ?_)
                · have hji := nI_same hj (by omega) c70
                  subst hji
                  refine e_iinc hX iX12_violations_98 rfl (by first | exact nI_inc _ | rfl) (by decide) ?_
                  refine e_goto hX iX12_violations_101 ?_
                  refine e_loc [0, 1, 2, 3] ?_
                  subst hb0
                  exact ih (j + 1) (by omega) (by omega)
                · have hji := nI_less hj (by omega) c70
                  refine e_iload_n hX 2 iX12_violations_73 rfl rfl ?_
                  refine e_aload_n hX 0 iX12_violations_74 rfl rfl ?_
                  refine e_iload_n hX 1 iX12_violations_75 rfl rfl ?_
                  refine e_iload_n hX 3 iX12_violations_76 rfl rfl ?_
                  refine e_iload hX iX12_violations_77 rfl ?_
                  refine e_callV hX iX12_violations_79 hm.1 (n_clash htr hm (show q' < 10 by omega) (show i < 18 by omega) (show j < 18 by omega) hρ) rfl rfl ⟨by decide, by decide, by decide, by decide⟩ (Nat.le_of_ble_eq_true rfl) (fun _ _ h => h.elim) (fun v9 ph9 hv9 => ?_)
                  obtain ⟨rfl, e9⟩ := hv9
                  subst ph9
                  rw [show clsR (gR σ q') (vF F i) (vF F j) = clsR (gR σ q') (gV σ i) (gV σ j) from cls_c hρ.2.2.2.2.2.1 (hr.v hin) (hr.v (by omega))]
                  refine e_if_eq hX iX12_violations_82 (fun c82 => ?_) (fun c82 => ?_)
                  · refine e_iconst (v := 0) hX iX12_violations_89 (by decide) ?_
                    refine e_loc [0, 1, 3, 4] ?_
                    exact next _ 0 (cntB_s0 (b2i_0.mp c82)) rfl hji
                  · refine e_iconst (v := 1) hX iX12_violations_85 (by decide) ?_
                    refine e_goto hX iX12_violations_86 ?_
                    refine e_loc [0, 1, 3, 4] ?_
                    exact next _ 1 (cntB_s1 (b2i_n0.mp c82)) rfl hji
            have cont : ∀ b0, b0 = (if brkR (gR σ q') (gV σ i) = true then 1 else 0) → EJ θ x 62 [(0, .ref mo), (1, .int (nI q')), (3, .int (nI i))] [.int (nI b0), .int (nI (sumN i G))] ph 0 0 := by
              intro b0 hb0
              refine e_iadd hX iX12_violations_62 ?_
              rw [nI_add]
              refine e_istore_n hX 2 iX12_violations_63 rfl (by decide) ?_
              refine e_iconst (v := 0) hX iX12_violations_64 (by decide) ?_
              refine e_istore hX iX12_violations_65 (by decide) ?_
              refine e_loc [0, 1, 2, 3, 4] ?_
              exact inner (i + 1) 0 b0 (by omega) (by omega) hb0
            refine e_iload_n hX 2 iX12_violations_47 rfl rfl ?_
            refine e_aload_n hX 0 iX12_violations_48 rfl rfl ?_
            refine e_iload_n hX 1 iX12_violations_49 rfl rfl ?_
            refine e_iload_n hX 3 iX12_violations_50 rfl rfl ?_
            refine e_callV hX iX12_violations_51 hm.1 (n_breaks htr hm (show q' < 10 by omega) (show i < 18 by omega) hρ) rfl rfl ⟨by decide, by decide, by decide, by decide⟩ (Nat.le_of_ble_eq_true rfl) (fun _ _ h => h.elim) (fun v9 ph9 hv9 => ?_)
            obtain ⟨rfl, e9⟩ := hv9
            subst ph9
            rw [show brkR (gR σ q') (vF F i) = brkR (gR σ q') (gV σ i) from brk_c hρ.2.2.2.2 (hr.v hin)]
            refine e_if_eq hX iX12_violations_54 (fun c54 => ?_) (fun c54 => ?_)
            · refine e_iconst (v := 0) hX iX12_violations_61 (by decide) ?_
              refine e_loc [0, 1, 3] ?_
              exact cont 0 (by rw [if_neg (by rw [b2i_0.mp c54]; decide)])
            · refine e_iconst (v := 1) hX iX12_violations_57 (by decide) ?_
              refine e_goto hX iX12_violations_58 ?_
              refine e_loc [0, 1, 3] ?_
              exact cont 1 (by rw [if_pos (b2i_n0.mp c54)])
      refine e_iconst (v := 0) hX iX12_violations_35 (by decide) ?_
      refine e_istore_n hX 2 iX12_violations_36 rfl (by decide) ?_
      refine e_iconst (v := 0) hX iX12_violations_37 (by decide) ?_
      refine e_istore_n hX 3 iX12_violations_38 rfl (by decide) ?_
      refine e_loc [0, 1, 2, 3] ?_
      exact outer (gN σ + 1) 0 (by omega) (by omega)
    · have h2 := b2i_n0.mp c26
      refine e_aload_n hX 0 iX12_violations_29 rfl rfl ?_
      refine e_iconst (v := 2) hX iX12_violations_30 (by decide) ?_
      refine e_callV hX iX12_violations_31 hm.1 (n_fails htr hm 2) rfl rfl ⟨by decide, by decide, by decide, by decide⟩ (Nat.le_of_ble_eq_true rfl) (fun _ _ h => h.elim) (fun v9 ph9 hv9 => ?_)
      obtain ⟨rfl, e9⟩ := hv9
      subst ph9
      exact e_iret hX hQ iX12_violations_34 rfl (by decide) (by decide) (bad 2 (by decide) (by unfold k_rule; rw [if_pos h1, hix, if_pos h2]))
  · refine e_aload_n hX 0 iX12_violations_14 rfl rfl ?_
    refine e_iconst (v := 1) hX iX12_violations_15 (by decide) ?_
    refine e_callV hX iX12_violations_16 hm.1 (n_fails htr hm 1) rfl rfl ⟨by decide, by decide, by decide, by decide⟩ (Nat.le_of_ble_eq_true rfl) (fun _ _ h => h.elim) (fun v9 ph9 hv9 => ?_)
    obtain ⟨rfl, e9⟩ := hv9
    subst ph9
    exact e_iret hX hQ iX12_violations_19 rfl (by decide) (by decide) (bad 1 (by decide) (if_neg (by rw [b2i_0.mp c11]; decide)))
theorem w_stage (htr : l.stackTraces = false) (hm : MP θ ph mo μ σ t) (a1 a2 a3 a4 a5 : Int32) : MC yX12_stage cX12_stage 7 (some .int) 2 0 0 l θ [.ref mo, .int a1, .int a2, .int a3, .int a4, .int a5] ph (nP θ ph mo μ (if k_stg σ a1 a2 a3 a4 a5 = 0 then s_stg σ (five a1 a2 a3 a4 a5) else σ) (k_stg σ a1 a2 a3 a4 a5) (zI (k_stg σ a1 a2 a3 a4 a5) (nI (gM σ + 1)))) (fun _ _ => False) := by
  obtain ⟨s, F, hm, hr, rfl⟩ := hm
  have hm6 := hr.ok.2.1
  refine MC.of htr (by decide) (Nat.le_of_ble_eq_true rfl) ?_
  intro x hX hQ hT
  have bad : ∀ k, ¬ k = 0 → k_stg σ a1 a2 a3 a4 a5 = k → nP θ ph mo μ (if k_stg σ a1 a2 a3 a4 a5 = 0 then s_stg σ (five a1 a2 a3 a4 a5) else σ) (k_stg σ a1 a2 a3 a4 a5) (zI (k_stg σ a1 a2 a3 a4 a5) (nI (gM σ + 1))) (some (.int 0)) (e_up ph mo (mobj μ (upd s 0 (nI k)))) := fun k hk0 hk => by
    rw [if_neg (by omega)]
    exact nP.mk (hm.told hr kept.refl (nI k)) (by rw [hk]) (by rw [zI_n (by omega)])
  have th : (¬ (okVB a1 && (okVB a2 && (okVB a3 && (okVB a4 && okVB a5)))) = true) → EJ θ x 37 [(0, .ref mo), (1, .int a1), (2, .int a2), (3, .int a3), (4, .int a4), (5, .int a5)] [] ph 0 0 := by
    intro h
    refine e_aload_n hX 0 iX12_stage_37 rfl rfl ?_
    refine e_iconst (v := 1) hX iX12_stage_38 (by decide) ?_
    refine e_callV hX iX12_stage_39 hm.1 (n_fails htr hm 1) rfl rfl ⟨by decide, by decide, by decide, by decide⟩ (Nat.le_of_ble_eq_true rfl) (fun _ _ h => h.elim) (fun v9 ph9 hv9 => ?_)
    obtain ⟨rfl, e9⟩ := hv9
    subst ph9
    exact e_iret hX hQ iX12_stage_42 rfl (by decide) (by decide) (bad 1 (by decide) (if_neg h))
  refine e_iload_n hX 1 iX12_stage_0 rfl rfl ?_
  refine e_callS hX iX12_stage_1 (n_isValue htr a1) rfl rfl ⟨by decide, by decide, by decide, by decide⟩ (Nat.le_of_ble_eq_true rfl) (fun _ _ h => h.elim) (fun v9 ph9 hv9 => ?_)
  obtain ⟨rfl, e9⟩ := hv9
  subst ph9
  refine e_if_eq hX iX12_stage_4 (fun c4 => ?_) (fun c4 => ?_)
  · exact th (by rw [b2i_0.mp c4]; exact fun h => Bool.noConfusion h)
  · refine e_iload_n hX 2 iX12_stage_7 rfl rfl ?_
    refine e_callS hX iX12_stage_8 (n_isValue htr a2) rfl rfl ⟨by decide, by decide, by decide, by decide⟩ (Nat.le_of_ble_eq_true rfl) (fun _ _ h => h.elim) (fun v9 ph9 hv9 => ?_)
    obtain ⟨rfl, e9⟩ := hv9
    subst ph9
    refine e_if_eq hX iX12_stage_11 (fun c11 => ?_) (fun c11 => ?_)
    · exact th (by rw [b2i_0.mp c11, Bool.false_and, Bool.and_false]; decide)
    · refine e_iload_n hX 3 iX12_stage_14 rfl rfl ?_
      refine e_callS hX iX12_stage_15 (n_isValue htr a3) rfl rfl ⟨by decide, by decide, by decide, by decide⟩ (Nat.le_of_ble_eq_true rfl) (fun _ _ h => h.elim) (fun v9 ph9 hv9 => ?_)
      obtain ⟨rfl, e9⟩ := hv9
      subst ph9
      refine e_if_eq hX iX12_stage_18 (fun c18 => ?_) (fun c18 => ?_)
      · exact th (by rw [b2i_0.mp c18, Bool.false_and, Bool.and_false, Bool.and_false]; decide)
      · refine e_iload hX iX12_stage_21 rfl ?_
        refine e_callS hX iX12_stage_23 (n_isValue htr a4) rfl rfl ⟨by decide, by decide, by decide, by decide⟩ (Nat.le_of_ble_eq_true rfl) (fun _ _ h => h.elim) (fun v9 ph9 hv9 => ?_)
        obtain ⟨rfl, e9⟩ := hv9
        subst ph9
        refine e_if_eq hX iX12_stage_26 (fun c26 => ?_) (fun c26 => ?_)
        · exact th (by rw [b2i_0.mp c26, Bool.false_and, Bool.and_false, Bool.and_false, Bool.and_false]; decide)
        · refine e_iload hX iX12_stage_29 rfl ?_
          refine e_callS hX iX12_stage_31 (n_isValue htr a5) rfl rfl ⟨by decide, by decide, by decide, by decide⟩ (Nat.le_of_ble_eq_true rfl) (fun _ _ h => h.elim) (fun v9 ph9 hv9 => ?_)
          obtain ⟨rfl, e9⟩ := hv9
          subst ph9
          refine e_if_ne hX iX12_stage_34 (fun c34 => ?_) (fun c34 => ?_)
          · have h0 : (okVB a1 && (okVB a2 && (okVB a3 && (okVB a4 && okVB a5)))) = true := and_tt (b2i_n0.mp c4) (and_tt (b2i_n0.mp c11) (and_tt (b2i_n0.mp c18) (and_tt (b2i_n0.mp c26) (b2i_n0.mp c34))))
            refine e_aload_n hX 0 iX12_stage_43 rfl rfl ?_
            refine e_get hX iX12_stage_44 hm.1 rfl ?_
            rw [hr.1.2.2.1]
            refine e_bipush (v := 6) hX iX12_stage_47 (by decide) ?_
            refine e_icmp_ne hX iX12_stage_49 (fun c49 => ?_) (fun c49 => ?_)
            · have hlt : gM σ < 6 := by
                rcases Nat.lt_or_ge (gM σ) 6 with h | h
                · exact h
                · exact absurd (by rw [show gM σ = 6 by omega]; rfl) c49
              have hk : k_stg σ a1 a2 a3 a4 a5 = 0 := (if_pos h0).trans (if_pos hlt)
              obtain ⟨m5, hm5⟩ : ∃ m5, m5 = 5 * gM σ := ⟨_, rfl⟩
              refine e_iconst (v := 5) hX iX12_stage_58 (by decide) ?_
              refine e_aload_n hX 0 iX12_stage_59 rfl rfl ?_
              refine e_get hX iX12_stage_60 hm.1 rfl ?_
              rw [hr.1.2.2.1]
              refine e_imul hX iX12_stage_63 ?_
              rw [show (5 : Int32) = nI 5 from rfl, pk_mul, ← hm5]
              refine e_istore hX iX12_stage_64 (by decide) ?_
              refine e_aload_n hX 0 iX12_stage_66 rfl rfl ?_
              refine e_get hX iX12_stage_67 hm.1 rfl ?_
              refine e_iload hX iX12_stage_70 rfl ?_
              refine e_iload_n hX 1 iX12_stage_72 rfl rfl ?_
              refine e_iast hX m5 iX12_stage_73 (hm.i 2 (by decide) (by decide)) rfl (by show _ < 30; omega) (by show 30 < _; decide) ?_
              have g1 := hm.arrI 2 (by decide) (by decide) (upd (F 2) m5 a1)
              refine e_aload_n hX 0 iX12_stage_74 rfl rfl ?_
              refine e_get hX iX12_stage_75 g1.1 rfl ?_
              refine e_iload hX iX12_stage_78 rfl ?_
              refine e_iconst (v := 1) hX iX12_stage_80 (by decide) ?_
              refine e_iadd hX iX12_stage_81 ?_
              rw [show nI m5 + 1 = nI (m5 + 1) from nI_1 _]
              refine e_iload_n hX 2 iX12_stage_82 rfl rfl ?_
              refine e_iast hX (m5 + 1) iX12_stage_83 (g1.i 2 (by decide) (by decide)) rfl (by show _ < 30; omega) (by show 30 < _; decide) ?_
              have g2 := g1.arrI 2 (by decide) (by decide) (upd (upd (F 2) m5 a1) (m5 + 1) a2)
              refine e_aload_n hX 0 iX12_stage_84 rfl rfl ?_
              refine e_get hX iX12_stage_85 g2.1 rfl ?_
              refine e_iload hX iX12_stage_88 rfl ?_
              refine e_iconst (v := 2) hX iX12_stage_90 (by decide) ?_
              refine e_iadd hX iX12_stage_91 ?_
              rw [show (2 : Int32) = nI 2 from rfl, nI_add]
              refine e_iload_n hX 3 iX12_stage_92 rfl rfl ?_
              refine e_iast hX (m5 + 2) iX12_stage_93 (g2.i 2 (by decide) (by decide)) rfl (by show _ < 30; omega) (by show 30 < _; decide) ?_
              have g3 := g2.arrI 2 (by decide) (by decide) (upd (upd (upd (F 2) m5 a1) (m5 + 1) a2) (m5 + 2) a3)
              refine e_aload_n hX 0 iX12_stage_94 rfl rfl ?_
              refine e_get hX iX12_stage_95 g3.1 rfl ?_
              refine e_iload hX iX12_stage_98 rfl ?_
              refine e_iconst (v := 3) hX iX12_stage_100 (by decide) ?_
              refine e_iadd hX iX12_stage_101 ?_
              rw [show (3 : Int32) = nI 3 from rfl, nI_add]
              refine e_iload hX iX12_stage_102 rfl ?_
              refine e_iast hX (m5 + 3) iX12_stage_104 (g3.i 2 (by decide) (by decide)) rfl (by show _ < 30; omega) (by show 30 < _; decide) ?_
              have g4 := g3.arrI 2 (by decide) (by decide) (upd (upd (upd (upd (F 2) m5 a1) (m5 + 1) a2) (m5 + 2) a3) (m5 + 3) a4)
              refine e_aload_n hX 0 iX12_stage_105 rfl rfl ?_
              refine e_get hX iX12_stage_106 g4.1 rfl ?_
              refine e_iload hX iX12_stage_109 rfl ?_
              refine e_iconst (v := 4) hX iX12_stage_111 (by decide) ?_
              refine e_iadd hX iX12_stage_112 ?_
              rw [show (4 : Int32) = nI 4 from rfl, nI_add]
              refine e_iload hX iX12_stage_113 rfl ?_
              refine e_iast hX (m5 + 4) iX12_stage_115 (g4.i 2 (by decide) (by decide)) rfl (by show _ < 30; omega) (by show 30 < _; decide) ?_
              have g5 := g4.arrI 2 (by decide) (by decide) (upd (upd (upd (upd (upd (F 2) m5 a1) (m5 + 1) a2) (m5 + 2) a3) (m5 + 3) a4) (m5 + 4) a5)
              have eF : updF (updF (updF (updF (updF F 2 (upd (F 2) m5 a1)) 2 (upd (upd (F 2) m5 a1) (m5 + 1) a2)) 2 (upd (upd (upd (F 2) m5 a1) (m5 + 1) a2) (m5 + 2) a3)) 2 (upd (upd (upd (upd (F 2) m5 a1) (m5 + 1) a2) (m5 + 2) a3) (m5 + 3) a4)) 2 (upd (upd (upd (upd (upd (F 2) m5 a1) (m5 + 1) a2) (m5 + 2) a3) (m5 + 3) a4) (m5 + 4) a5) = updF F 2 (upd (upd (upd (upd (upd (F 2) m5 a1) (m5 + 1) a2) (m5 + 2) a3) (m5 + 3) a4) (m5 + 4) a5) := by
                funext a
                unfold updF
                by_cases e : a = 2
                · rw [if_pos e, if_pos e]
                · rw [if_neg e, if_neg e, if_neg e, if_neg e, if_neg e, if_neg e]
              rw [eF] at g5
              refine e_aload_n hX 0 iX12_stage_116 rfl rfl ?_
              refine e_dup hX iX12_stage_117 rfl ?_
              refine e_get hX iX12_stage_118 g5.1 rfl ?_
              rw [hr.1.2.2.1]
              refine e_iconst (v := 1) hX iX12_stage_121 (by decide) ?_
              refine e_iadd hX iX12_stage_122 ?_
              rw [show nI (gM σ) + 1 = nI (gM σ + 1) from nI_1 _]
              refine e_put (fs' := _) hX iX12_stage_123 g5.1 rfl (Nat.le_of_ble_eq_true rfl) rfl rfl ?_
              have g6 := g5.fld (upd s 3 (nI (gM σ + 1)))
              have hr2 : MR (s_stg σ (five a1 a2 a3 a4 a5)) (upd s 3 (nI (gM σ + 1))) _ := hr.stage hlt (five_ok (okVB_t.mp (b2i_n0.mp c4)) (okVB_t.mp (b2i_n0.mp c11)) (okVB_t.mp (b2i_n0.mp c18)) (okVB_t.mp (b2i_n0.mp c26)) (okVB_t.mp (b2i_n0.mp c34))) (s' := upd s 3 (nI (gM σ + 1))) (f := upd (upd (upd (upd (upd (F 2) m5 a1) (m5 + 1) a2) (m5 + 2) a3) (m5 + 3) a4) (m5 + 4) a5) upd_s (fun j hj => upd_n hj) (fun j hj => by rw [upd_n (by omega), upd_n (by omega), upd_n (by omega), upd_n (by omega), upd_n (by omega)]) (fun c hc => by
                rw [← hm5]
                match c, hc with
                | 0, _ => rw [upd_n (by omega), upd_n (by omega), upd_n (by omega), upd_n (by omega)]; exact upd_s
                | 1, _ => rw [upd_n (by omega), upd_n (by omega), upd_n (by omega)]; exact upd_s
                | 2, _ => rw [upd_n (by omega), upd_n (by omega)]; exact upd_s
                | 3, _ => rw [upd_n (by omega)]; exact upd_s
                | 4, _ => exact upd_s)
              refine e_aload_n hX 0 iX12_stage_126 rfl rfl ?_
              refine e_aload_n hX 0 iX12_stage_127 rfl rfl ?_
              refine e_get hX iX12_stage_128 g6.1 rfl ?_
              rw [show upd s 3 (nI (gM σ + 1)) 3 = nI (gM σ + 1) from upd_s]
              refine e_callV hX iX12_stage_131 g6.1 (n_tells htr g6 (nI (gM σ + 1))) rfl rfl ⟨by decide, by decide, by decide, by decide⟩ (Nat.le_of_ble_eq_true rfl) (fun _ _ h => h.elim) (fun v9 ph9 hv9 => ?_)
              obtain ⟨rfl, e9⟩ := hv9
              subst ph9
              exact e_iret hX hQ iX12_stage_134 rfl (by decide) (by decide) (by rw [if_pos hk]; exact nP.mk (g6.told hr2 (mS.fld (mS.arr (mS.arr (mS.arr (mS.arr (mS.arr kept.refl (j := 2) (by decide)) (j := 2) (by decide)) (j := 2) (by decide)) (j := 2) (by decide)) (j := 2) (by decide))) 0) (by rw [hk]; rfl) (by rw [zI_0 hk]))
            · have hlt : ¬ gM σ < 6 := fun h => absurd c49 (by
                rw [show (6 : Int32) = nI 6 from rfl, nI_eq (by omega) (by decide)]; omega)
              refine e_aload_n hX 0 iX12_stage_52 rfl rfl ?_
              refine e_iconst (v := 2) hX iX12_stage_53 (by decide) ?_
              refine e_callV hX iX12_stage_54 hm.1 (n_fails htr hm 2) rfl rfl ⟨by decide, by decide, by decide, by decide⟩ (Nat.le_of_ble_eq_true rfl) (fun _ _ h => h.elim) (fun v9 ph9 hv9 => ?_)
              obtain ⟨rfl, e9⟩ := hv9
              subst ph9
              exact e_iret hX hQ iX12_stage_57 rfl (by decide) (by decide) (bad 2 (by decide) ((if_pos h0).trans (if_neg hlt)))
          · exact th (by rw [b2i_0.mp c34, Bool.and_false, Bool.and_false, Bool.and_false, Bool.and_false]; decide)
end MOF
