/-! the model: isInRepair, repair -/
section MONE
variable {l : Launch} {θ : e_T} {ph : e_PH} {mo : Nat} {μ : Nat → Nat} {σ : SG} {t : Int32} {s : Nat → Int32} {F : Nat → Nat → Int32}
theorem rpD_s {m i : Nat} {σ : SG} : rpD m (i + 1) σ = rpD m i (if m.testBit i = true then s_rem σ i else σ) := rfl
theorem w_isInRepair (htr : l.stackTraces = false) (hm : MP θ ph mo μ σ t) (id : Int32) : MC yX12_isInRepair cX12_isInRepair 4 (some .boolean) 5 0 0 l θ [.ref mo, .int id] ph (nP θ ph mo μ σ (k_id σ id) (zB (k_id σ id) ((bstN σ).testBit (fnd σ id)))) (fun _ _ => False) := by
  obtain ⟨s, F, hm, hr, rfl⟩ := hm
  have hn := hr.ok.1
  refine MC.of htr (by decide) (Nat.le_of_ble_eq_true rfl) ?_
  intro x hX hQ hT
  refine e_aload_n hX 0 iX12_isInRepair_0 rfl rfl ?_
  refine e_iload_n hX 1 iX12_isInRepair_1 rfl rfl ?_
  refine e_callV hX iX12_isInRepair_2 hm.1 (n_find htr hm hr.1.1 hn id) rfl rfl ⟨by decide, by decide, by decide, by decide⟩ (Nat.le_of_ble_eq_true rfl) (fun _ _ h => h.elim) (fun v9 ph9 hv9 => ?_)
  obtain ⟨rfl, e9⟩ := hv9
  subst ph9
  rw [hr.fnd id]
  by_cases h1 : fnd σ id < gN σ
  · have hk : k_id σ id = 0 := if_pos h1
    rw [if_pos h1]
    refine e_istore_n hX 2 iX12_isInRepair_5 rfl (by decide) ?_
    refine e_iload_n hX 2 iX12_isInRepair_6 rfl rfl ?_
    refine e_iconst (v := (-1)) hX iX12_isInRepair_7 (by decide) ?_
    refine e_icmp_ne hX iX12_isInRepair_8 (fun c8 => ?_) (fun c8 => ?_)
    · refine e_aload_n hX 0 iX12_isInRepair_18 rfl rfl ?_
      refine e_callV hX iX12_isInRepair_19 hm.1 (n_findsRepair htr hm hr) rfl rfl ⟨by decide, by decide, by decide, by decide⟩ (Nat.le_of_ble_eq_true rfl) (fun _ _ h => h.elim) (fun v9 ph9 hv9 => ?_)
      obtain ⟨rfl, ⟨f, hm2⟩, hk2⟩ := hv9
      rw [fr_end hn] at hm2
      have hm2' : MI θ ph9 mo μ (upd s 20 (nI (rvF (gN σ) (bstN σ)))) (updF F 9 f) := hm2
      have hr2 := hr.fr (nI (rvF (gN σ) (bstN σ))) f
      refine e_istore_n hX 3 iX12_isInRepair_22 rfl (by decide) ?_
      refine e_aload_n hX 0 iX12_isInRepair_23 rfl rfl ?_
      refine e_iconst (v := 0) hX iX12_isInRepair_24 (by decide) ?_
      refine e_aload_n hX 0 iX12_isInRepair_25 rfl rfl ?_
      refine e_get hX iX12_isInRepair_26 hm2'.1 rfl ?_
      rw [show upd s 20 (nI (rvF (gN σ) (bstN σ))) 20 = nI (rvF (gN σ) (bstN σ)) from upd_s]
      refine e_aload_n hX 0 iX12_isInRepair_29 rfl rfl ?_
      refine e_iload_n hX 2 iX12_isInRepair_30 rfl rfl ?_
      refine e_callV hX iX12_isInRepair_31 hm2'.1 (n_bit htr hm2' hr2.1.1 hn h1) rfl rfl ⟨by decide, by decide, by decide, by decide⟩ (Nat.le_of_ble_eq_true rfl) (fun _ _ h => h.elim) (fun v9 ph9 hv9 => ?_)
      obtain ⟨rfl, e9⟩ := hv9
      subst ph9
      refine e_iand hX iX12_isInRepair_34 ?_
      have hlt : rvF (gN σ) (bstN σ) < 2 ^ 12 := Nat.lt_of_lt_of_le rvF_lt (Nat.pow_le_pow_right (by decide) hn)
      have hbt := and_pow (k := rvF (gN σ) (bstN σ)) (j := gN σ - 1 - fnd σ id) hlt (by omega)
      rw [rvF_t h1] at hbt
      have fin : ∀ b, b = (bstN σ).testBit (fnd σ id) → EJ θ x 43 [] [.int (b2i b), .int 0, .ref mo] ph9 0 0 := by
        intro b hb
        refine e_callV hX iX12_isInRepair_43 hm2'.1 (n_asks htr hm2' 0 b) rfl rfl ⟨by decide, by decide, by decide, by decide⟩ (Nat.le_of_ble_eq_true rfl) (fun _ _ h => h.elim) (fun v8 ph8 hv8 => ?_)
        obtain ⟨rfl, e8⟩ := hv8
        subst ph8
        exact e_zret hX hQ iX12_isInRepair_46 rfl (nar_b _) (by decide) (by decide) (nP.mk (hm2'.told hr2 hk2 0) (by rw [hk]; rfl) (by unfold zB; rw [hk, hb]; rfl))
      refine e_if_eq hX iX12_isInRepair_35 (fun c35 => ?_) (fun c35 => ?_)
      · refine e_iconst (v := 0) hX iX12_isInRepair_42 (by decide) ?_
        refine e_loc [] ?_
        exact fin false (hbt.mp c35).symm
      · refine e_iconst (v := 1) hX iX12_isInRepair_38 (by decide) ?_
        refine e_goto hX iX12_isInRepair_39 ?_
        refine e_loc [] ?_
        refine fin true ?_
        cases e : (bstN σ).testBit (fnd σ id)
        · exact absurd (hbt.mpr e) c35
        · rfl
    · exact absurd c8 (m1_ne _ (by omega))
  · have hk : k_id σ id = 1 := if_neg h1
    rw [if_neg h1]
    refine e_istore_n hX 2 iX12_isInRepair_5 rfl (by decide) ?_
    refine e_iload_n hX 2 iX12_isInRepair_6 rfl rfl ?_
    refine e_iconst (v := (-1)) hX iX12_isInRepair_7 (by decide) ?_
    refine e_icmp_ne hX iX12_isInRepair_8 (fun c8 => ?_) (fun c8 => ?_)
    · exact absurd rfl c8
    · refine e_aload_n hX 0 iX12_isInRepair_11 rfl rfl ?_
      refine e_iconst (v := 1) hX iX12_isInRepair_12 (by decide) ?_
      refine e_iconst (v := 0) hX iX12_isInRepair_13 (by decide) ?_
      refine e_callV hX iX12_isInRepair_14 hm.1 (n_asks htr hm 1 false) rfl rfl ⟨by decide, by decide, by decide, by decide⟩ (Nat.le_of_ble_eq_true rfl) (fun _ _ h => h.elim) (fun v9 ph9 hv9 => ?_)
      obtain ⟨rfl, e9⟩ := hv9
      subst ph9
      exact e_zret hX hQ iX12_isInRepair_17 rfl (nar_b _) (by decide) (by decide) (nP.mk (hm.told hr kept.refl 1) (by rw [hk]; rfl) (by unfold zB; rw [hk]; rfl))
theorem w_repair (htr : l.stackTraces = false) (hm : MP θ ph mo μ σ t) : MC yX12_repair cX12_repair 5 (some .int) 5 0 0 l θ [.ref mo] ph (nP θ ph mo μ (rpD (bstN σ) (gN σ) σ) 0 (.int (nI (a_few σ)))) (fun _ _ => False) := by
  obtain ⟨s, F, hm, hr, rfl⟩ := hm
  have hn := hr.ok.1
  refine MC.of htr (by decide) (Nat.le_of_ble_eq_true rfl) ?_
  intro x hX hQ hT
  refine e_aload_n hX 0 iX12_repair_0 rfl rfl ?_
  refine e_callV hX iX12_repair_1 hm.1 (n_findsRepair htr hm hr) rfl rfl ⟨by decide, by decide, by decide, by decide⟩ (Nat.le_of_ble_eq_true rfl) (fun _ _ h => h.elim) (fun v9 ph9 hv9 => ?_)
  obtain ⟨rfl, ⟨f, hm2⟩, hk2⟩ := hv9
  rw [fr_end hn] at hm2 ⊢
  have hm2' : MI θ ph9 mo μ (upd s 20 (nI (rvF (gN σ) (bstN σ)))) (updF F 9 f) := hm2
  have hr2 := hr.fr (nI (rvF (gN σ) (bstN σ))) f
  have loop : ∀ (i : Nat) (σ' : SG) (p : e_PH) (s' : Nat → Int32) (F' : Nat → Nat → Int32), i ≤ (gN σ) → i ≤ gN σ' → rpD (bstN σ) i σ' = rpD (bstN σ) (gN σ) σ → MI θ p mo μ s' F' → MR σ' s' F' → kept ph p (mS mo μ) → EJ θ x 20 [(0, .ref mo), (1, .int (nI (a_few σ))), (2, .int (nI (rvF (gN σ) (bstN σ)))), (3, .int (nI (gN σ))), (4, .int (nI i - 1))] [] p 0 0 := by
    intro i
    induction i with
    | zero =>
      intro σ' p s' F' _ _ hD hmp hrp hkp
      refine e_iload hX iX12_repair_20 rfl ?_
      refine e_if_lt hX iX12_repair_22 (fun c22 => ?_) (fun c22 => ?_)
      · refine e_aload_n hX 0 iX12_repair_51 rfl rfl ?_
        refine e_iload_n hX 1 iX12_repair_52 rfl rfl ?_
        refine e_callV hX iX12_repair_53 hmp.1 (n_tells htr hmp (nI (a_few σ))) rfl rfl ⟨by decide, by decide, by decide, by decide⟩ (Nat.le_of_ble_eq_true rfl) (fun _ _ h => h.elim) (fun v9 ph9 hv9 => ?_)
        obtain ⟨rfl, e9⟩ := hv9
        subst ph9
        exact e_iret hX hQ iX12_repair_56 rfl (by decide) (by decide) (by
          rw [← hD]
          exact nP.mk (hmp.told hrp hkp 0) rfl rfl)
      · exact absurd (by decide) c22
    | succ i ih =>
      intro σ' p s' F' hi hi2 hD hmp hrp hkp
      have e1 : nI (i + 1) - 1 = nI i := nI_pred i
      rw [e1]
      refine e_iload hX iX12_repair_20 rfl ?_
      refine e_if_lt hX iX12_repair_22 (fun c22 => ?_) (fun c22 => ?_)
      · exact absurd c22 (nI_pos (by omega))
      · refine e_iload_n hX 2 iX12_repair_25 rfl rfl ?_
        refine e_iload_n hX 3 iX12_repair_26 rfl rfl ?_
        refine e_iconst (v := 1) hX iX12_repair_27 (by decide) ?_
        refine e_isub hX iX12_repair_28 ?_
        rw [show nI (gN σ) - 1 = nI ((gN σ) - 1) by rw [show (1 : Int32) = nI 1 from rfl, pk_sub (by omega)]]
        refine e_iload hX iX12_repair_29 rfl ?_
        refine e_isub hX iX12_repair_31 ?_
        rw [pk_sub (show i ≤ (gN σ) - 1 by omega)]
        refine e_ishr hX iX12_repair_32 ?_
        refine e_iconst (v := 1) hX iX12_repair_33 (by decide) ?_
        refine e_iand hX iX12_repair_34 ?_
        rw [bit_i (show (gN σ) - 1 - i < 32 by omega), rvF_t (show i < (gN σ) by omega)]
        refine e_iconst (v := 1) hX iX12_repair_35 (by decide) ?_
        have back : ∀ (σ2 : SG) (p2 : e_PH) (s2 : Nat → Int32) (F2 : Nat → Nat → Int32), i ≤ gN σ2 → rpD (bstN σ) i σ2 = rpD (bstN σ) (gN σ) σ → MI θ p2 mo μ s2 F2 → MR σ2 s2 F2 → kept ph p2 (mS mo μ) → EJ θ x 45 [(0, .ref mo), (1, .int (nI (a_few σ))), (2, .int (nI (rvF (gN σ) (bstN σ)))), (3, .int (nI (gN σ))), (4, .int (nI i))] [] p2 0 0 := by
          intro σ2 p2 s2 F2 g1 g2 g3 g4 g5
          refine e_iinc (v := nI i - 1) hX iX12_repair_45 rfl (by rw [Int32.sub_eq_add_neg]; rfl) (by decide) ?_
          refine e_goto hX iX12_repair_48 ?_
          refine e_loc [0, 1, 2, 3, 4] ?_
          exact ih σ2 p2 s2 F2 (by omega) g1 g2 g3 g4 g5
        rw [rpD_s] at hD
        refine e_icmp_ne hX iX12_repair_36 (fun c36 => ?_) (fun c36 => ?_)
        · have hb : (bstN σ).testBit i = false := by
            cases e : (bstN σ).testBit i
            · rfl
            · exact absurd (by rw [e]; rfl) c36
          rw [if_neg (by rw [hb]; decide)] at hD
          exact back σ' p s' F' (by omega) hD hmp hrp hkp
        · have hb : (bstN σ).testBit i = true := b2i_1.mp c36
          rw [if_pos hb] at hD
          refine e_aload_n hX 0 iX12_repair_39 rfl rfl ?_
          refine e_iload hX iX12_repair_40 rfl ?_
          refine e_callV hX iX12_repair_42 hmp.1 (n_drops htr hmp hrp (show i < gN σ' by omega)) rfl rfl ⟨by decide, by decide, by decide, by decide⟩ (Nat.le_of_ble_eq_true rfl) (fun _ _ h => h.elim) (fun v9 ph9 hv9 => ?_)
          obtain ⟨rfl, ⟨s9, F9, hm9, hr9⟩, hk9⟩ := hv9
          refine e_loc [0, 1, 2, 3, 4] ?_
          exact back (s_rem σ' i) ph9 s9 F9 (by show i ≤ gN σ' - 1; omega) hD hm9 hr9 (hkp.trans hk9)
  refine e_istore_n hX 1 iX12_repair_4 rfl (by decide) ?_
  refine e_aload_n hX 0 iX12_repair_5 rfl rfl ?_
  refine e_get hX iX12_repair_6 hm2'.1 rfl ?_
  rw [show upd s 20 (nI (rvF (gN σ) (bstN σ))) 20 = nI (rvF (gN σ) (bstN σ)) from upd_s]
  refine e_istore_n hX 2 iX12_repair_9 rfl (by decide) ?_
  refine e_aload_n hX 0 iX12_repair_10 rfl rfl ?_
  refine e_get hX iX12_repair_11 hm2'.1 rfl ?_
  rw [hr2.1.1]
  refine e_istore_n hX 3 iX12_repair_14 rfl (by decide) ?_
  refine e_iload_n hX 3 iX12_repair_15 rfl rfl ?_
  refine e_iconst (v := 1) hX iX12_repair_16 (by decide) ?_
  refine e_isub hX iX12_repair_17 ?_
  refine e_istore hX iX12_repair_18 (by decide) ?_
  refine e_loc [0, 1, 2, 3, 4] ?_
  exact loop (gN σ) σ ph9 _ _ (Nat.le_refl _) (by omega) rfl hm2' hr2 hk2
end MONE
