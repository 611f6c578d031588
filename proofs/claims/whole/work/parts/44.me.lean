/-! the model: additions of rules, dropRule, violations, stage -/
theorem MR.add {σ : SG} {s : Nat → Int32} {F : Nat → Nat → Int32} (hr : MR σ s F) {ρ : RU} (hk : gK σ < 10) (ho : ruleOk ρ.1 ρ.2.1 ρ.2.2.1) (hd : drR ρ = false) {s' : Nat → Int32} {F' : Nat → Nat → Int32} (h7 : s' 7 = nI (gK σ + 1)) (hs : ∀ j, j ≠ 7 → s' j = s j)
    (f3 : F' 3 = upd (F 3) (gK σ) (nI ρ.1)) (f4 : F' 4 = upd (F 4) (gK σ) (nI ρ.2.1)) (f5 : F' 5 = upd (F 5) (gK σ) ρ.2.2.1) (f6 : F' 6 = upd (F 6) (gK σ) ρ.2.2.2.1) (f7 : F' 7 = upd (F 7) (gK σ) (b2i (stR ρ))) (fo : ∀ j, (j < 3 ∨ 7 < j) → F' j = F j) : MR (s_add σ ρ) s' F' := by
  obtain ⟨⟨a1, a2, a3, a4, a5, a6, b, a7⟩, ⟨b1, b2⟩, c1, c2, c3, c4, c5, ok⟩ := hr
  refine ⟨⟨by rw [hs 1 (by decide)]; exact a1, by rw [hs 2 (by decide)]; exact a2, by rw [hs 3 (by decide)]; exact a3, h7, by rw [hs 22 (by decide)]; exact a5, by rw [hs 23 (by decide)]; exact a6, b, by rw [hs 17 (by decide)]; exact a7⟩, ⟨by rw [hs 14 (by decide)]; exact b1, fun h => by rw [hs 15 (by decide), hs 16 (by decide), hs 17 (by decide)]; exact b2 h⟩, fun j hj => ?_, fun j hj c hc => by rw [fo 2 (by decide)]; exact c2 j hj c hc, fun r hr => ?_, fun r hr => ?_, fun j hj b hb => by rw [fo 12 (by decide)]; exact c5 j hj b hb, ⟨ok.1, ok.2.1, by show gK σ + 1 ≤ 10; omega, ok.2.2.2⟩⟩
  · refine ⟨by rw [fo 0 (by decide)]; exact (c1 j hj).1, fun c hc => ?_⟩
    show F' 1 (5 * j + c) = _
    rw [fo 1 (by decide)]
    exact (c1 j hj).2 c hc
  · have hr' : r < gK σ + 1 := hr
    show mrule F' r (if r = gK σ then ρ else gR σ r) ∧ F' 7 r = b2i (stR (if r = gK σ then ρ else gR σ r)) ∧ F' 8 r = b2i (drR (if r = gK σ then ρ else gR σ r))
    unfold mrule
    rw [f3, f4, f5, f6, f7, fo 8 (by decide)]
    by_cases e : r = gK σ
    · subst e
      rw [if_pos rfl, upd_s, upd_s, upd_s, upd_s, upd_s, hd, c4 (gK σ) (Nat.le_refl _)]
      exact ⟨⟨rfl, rfl, rfl, rfl, ho⟩, rfl, rfl⟩
    · rw [if_neg e, upd_n e, upd_n e, upd_n e, upd_n e, upd_n e]
      exact c3 r (by omega)
  · have hr' : gK σ + 1 ≤ r := hr
    rw [fo 8 (by decide)]
    exact c4 r (by omega)
section MOE
variable {l : Launch} {θ : e_T} {ph : e_PH} {mo : Nat} {μ : Nat → Nat} {σ : SG} {t : Int32}
theorem n_adds (htr : l.stackTraces = false) {s : Nat → Int32} {F : Nat → Nat → Int32} (hm : MI θ ph mo μ s F) (hr : MR σ s F) (hk : gK σ < 10) {ρ : RU} (ho : ruleOk ρ.1 ρ.2.1 ρ.2.2.1) (hd : drR ρ = false) : MC yX12_adds cX12_adds 6 (some .int) 1 0 0 l θ [.ref mo, .int (nI ρ.1), .int (nI ρ.2.1), .int ρ.2.2.1, .int ρ.2.2.2.1, .int (b2i (stR ρ))] ph (fun z p => z = some (.int (nI (gK σ))) ∧ MP θ p mo μ (s_add σ ρ) 0 ∧ kept ph p (mS mo μ)) (fun _ _ => False) := by
  refine MC.of htr (by decide) (Nat.le_of_ble_eq_true rfl) ?_
  intro x hX hQ hT
  have h7 := hr.1.2.2.2.1
  refine e_aload_n hX 0 iX12_adds_0 rfl rfl ?_
  refine e_get hX iX12_adds_1 hm.1 rfl ?_
  refine e_aload_n hX 0 iX12_adds_4 rfl rfl ?_
  refine e_get hX iX12_adds_5 hm.1 rfl ?_
  rw [h7]
  refine e_iload_n hX 1 iX12_adds_8 rfl rfl ?_
  refine e_iast hX (gK σ) iX12_adds_9 (hm.i 3 (by decide) (by decide)) rfl (by show _ < 10; omega) (by show 10 < _; decide) ?_
  have m3 := hm.arrI 3 (by decide) (by decide) (upd (F 3) (gK σ) (nI ρ.1))
  refine e_aload_n hX 0 iX12_adds_10 rfl rfl ?_
  refine e_get hX iX12_adds_11 m3.1 rfl ?_
  refine e_aload_n hX 0 iX12_adds_14 rfl rfl ?_
  refine e_get hX iX12_adds_15 m3.1 rfl ?_
  rw [h7]
  refine e_iload_n hX 2 iX12_adds_18 rfl rfl ?_
  refine e_iast hX (gK σ) iX12_adds_19 (m3.i 4 (by decide) (by decide)) rfl (by show _ < 10; omega) (by show 10 < _; decide) ?_
  have m4 := m3.arrI 4 (by decide) (by decide) (upd (F 4) (gK σ) (nI ρ.2.1))
  refine e_aload_n hX 0 iX12_adds_20 rfl rfl ?_
  refine e_get hX iX12_adds_21 m4.1 rfl ?_
  refine e_aload_n hX 0 iX12_adds_24 rfl rfl ?_
  refine e_get hX iX12_adds_25 m4.1 rfl ?_
  rw [h7]
  refine e_iload_n hX 3 iX12_adds_28 rfl rfl ?_
  refine e_iast hX (gK σ) iX12_adds_29 (m4.i 5 (by decide) (by decide)) rfl (by show _ < 10; omega) (by show 10 < _; decide) ?_
  have m5 := m4.arrI 5 (by decide) (by decide) (upd (F 5) (gK σ) ρ.2.2.1)
  refine e_aload_n hX 0 iX12_adds_30 rfl rfl ?_
  refine e_get hX iX12_adds_31 m5.1 rfl ?_
  refine e_aload_n hX 0 iX12_adds_34 rfl rfl ?_
  refine e_get hX iX12_adds_35 m5.1 rfl ?_
  rw [h7]
  refine e_iload hX iX12_adds_38 rfl ?_
  refine e_iast hX (gK σ) iX12_adds_40 (m5.i 6 (by decide) (by decide)) rfl (by show _ < 10; omega) (by show 10 < _; decide) ?_
  have m6 := m5.arrI 6 (by decide) (by decide) (upd (F 6) (gK σ) ρ.2.2.2.1)
  refine e_aload_n hX 0 iX12_adds_41 rfl rfl ?_
  refine e_get hX iX12_adds_42 m6.1 rfl ?_
  refine e_aload_n hX 0 iX12_adds_45 rfl rfl ?_
  refine e_get hX iX12_adds_46 m6.1 rfl ?_
  rw [h7]
  refine e_iload hX iX12_adds_49 rfl ?_
  refine e_zast hX (gK σ) iX12_adds_51 (m6.z 7 (by decide) (by decide)) rfl (by omega) (by decide) ?_
  rw [vpn_b]
  have m7 := m6.arrZ 7 (by decide) (by decide) (upd (F 7) (gK σ) (b2i (stR ρ)))
  refine e_aload_n hX 0 iX12_adds_52 rfl rfl ?_
  refine e_dup hX iX12_adds_53 rfl ?_
  refine e_get hX iX12_adds_54 m7.1 rfl ?_
  rw [h7]
  refine e_iconst (v := 1) hX iX12_adds_57 (by decide) ?_
  refine e_iadd hX iX12_adds_58 ?_
  rw [show nI (gK σ) + 1 = nI (gK σ + 1) from nI_1 _]
  refine e_put (fs' := _) hX iX12_adds_59 m7.1 rfl (Nat.le_of_ble_eq_true rfl) rfl rfl ?_
  have m8 := m7.fld (upd s 7 (nI (gK σ + 1)))
  have hr2 : MR (s_add σ ρ) (upd s 7 (nI (gK σ + 1))) _ := hr.add hk ho hd (s' := upd s 7 (nI (gK σ + 1))) (F' := updF (updF (updF (updF (updF F 3 (upd (F 3) (gK σ) (nI ρ.1))) 4 (upd (F 4) (gK σ) (nI ρ.2.1))) 5 (upd (F 5) (gK σ) ρ.2.2.1)) 6 (upd (F 6) (gK σ) ρ.2.2.2.1)) 7 (upd (F 7) (gK σ) (b2i (stR ρ)))) upd_s (fun j hj => upd_n hj) rfl rfl rfl rfl rfl (fun j hj => by
    unfold updF
    rw [if_neg (by omega), if_neg (by omega), if_neg (by omega), if_neg (by omega), if_neg (by omega)])
  refine e_aload_n hX 0 iX12_adds_62 rfl rfl ?_
  refine e_aload_n hX 0 iX12_adds_63 rfl rfl ?_
  refine e_get hX iX12_adds_64 m8.1 rfl ?_
  rw [show upd s 7 (nI (gK σ + 1)) 7 = nI (gK σ + 1) from upd_s]
  refine e_iconst (v := 1) hX iX12_adds_67 (by decide) ?_
  refine e_isub hX iX12_adds_68 ?_
  rw [nI_pred]
  refine e_callV hX iX12_adds_69 m8.1 (n_tells htr m8 (nI (gK σ))) rfl rfl ⟨by decide, by decide, by decide, by decide⟩ (Nat.le_of_ble_eq_true rfl) (fun _ _ h => h.elim) (fun v9 ph9 hv9 => ?_)
  obtain ⟨rfl, e9⟩ := hv9
  subst ph9
  have h9 := m8.told hr2 (mS.fld (mS.arr (mS.arr (mS.arr (mS.arr (mS.arr kept.refl (j := 3) (by decide)) (j := 4) (by decide)) (j := 5) (by decide)) (j := 6) (by decide)) (j := 7) (by decide))) 0
  exact e_iret hX hQ iX12_adds_72 rfl (by decide) (by decide) ⟨rfl, h9.1, h9.2⟩
theorem k10 {σ : SG} (h : gK σ ≤ 10) : nI (gK σ) = 10 ↔ ¬ gK σ < 10 := by
  rw [show (10 : Int32) = nI 10 from rfl, nI_eq (by omega) (by decide)]
  omega
theorem kadd_1 {σ : SG} {k : Nat} (h : gK σ < 10) : k_add σ k = 0 := if_pos h
theorem kadd_2 {σ : SG} {k : Nat} (h : ¬ gK σ < 10) : k_add σ k = k := if_neg h
theorem w_addRange (htr : l.stackTraces = false) (hm : MP θ ph mo μ σ t) (c lo hi : Int32) (st : Bool) : MC yX12_addRange cX12_addRange 5 (some .int) 2 0 0 l θ [.ref mo, .int c, .int lo, .int hi, .int (b2i st)] ph (nP θ ph mo μ (if k_rng σ c lo hi = 0 then s_add σ (0, ix c, lo, hi, st, false) else σ) (k_rng σ c lo hi) (zI (k_rng σ c lo hi) (nI (gK σ)))) (fun _ _ => False) := by
  obtain ⟨s, F, hm, hr, rfl⟩ := hm
  have hk10 := hr.ok.2.2.1
  refine MC.of htr (by decide) (Nat.le_of_ble_eq_true rfl) ?_
  intro x hX hQ hT
  have bad : ∀ k, ¬ k = 0 → k_rng σ c lo hi = k → nP θ ph mo μ (if k_rng σ c lo hi = 0 then s_add σ (0, ix c, lo, hi, st, false) else σ) (k_rng σ c lo hi) (zI (k_rng σ c lo hi) (nI (gK σ))) (some (.int 0)) (e_up ph mo (mobj μ (upd s 0 (nI k)))) := fun k hk0 hk => by
    rw [if_neg (by omega)]
    exact nP.mk (hm.told hr kept.refl (nI k)) (by rw [hk]) (by rw [zI_n (by omega)])
  refine e_iload_n hX 1 iX12_addRange_0 rfl rfl ?_
  refine e_callS hX iX12_addRange_1 (n_isColumn htr c) rfl rfl ⟨by decide, by decide, by decide, by decide⟩ (Nat.le_of_ble_eq_true rfl) (fun _ _ h => h.elim) (fun v9 ph9 hv9 => ?_)
  obtain ⟨rfl, e9⟩ := hv9
  subst ph9
  refine e_if_ne hX iX12_addRange_4 (fun c4 => ?_) (fun c4 => ?_)
  · have h2 := b2i_n0.mp c4
    obtain ⟨c', hc', rfl⟩ := colB_t.mp h2
    have hix : ix (nI c') = c' := ix_n (by omega)
    have th : (¬ (decide (-99 ≤ lo) && decide (lo ≤ 99) && (decide (lo ≤ hi) && decide (hi ≤ 99))) = true) → EJ θ x 34 [(0, .ref mo), (1, .int (nI c')), (2, .int lo), (3, .int hi), (4, .int (b2i st))] [] ph 0 0 := by
      intro h
      refine e_aload_n hX 0 iX12_addRange_34 rfl rfl ?_
      refine e_iconst (v := 2) hX iX12_addRange_35 (by decide) ?_
      refine e_callV hX iX12_addRange_36 hm.1 (n_fails htr hm 2) rfl rfl ⟨by decide, by decide, by decide, by decide⟩ (Nat.le_of_ble_eq_true rfl) (fun _ _ h => h.elim) (fun v9 ph9 hv9 => ?_)
      obtain ⟨rfl, e9⟩ := hv9
      subst ph9
      exact e_iret hX hQ iX12_addRange_39 rfl (by decide) (by decide) (bad 2 (by decide) ((if_pos h2).trans (if_neg h)))
    refine e_iload_n hX 2 iX12_addRange_13 rfl rfl ?_
    refine e_bipush (v := (-99)) hX iX12_addRange_14 (by decide) ?_
    refine e_bipush (v := 99) hX iX12_addRange_16 (by decide) ?_
    refine e_callS hX iX12_addRange_18 (n_in htr lo (-99) 99) rfl rfl ⟨by decide, by decide, by decide, by decide⟩ (Nat.le_of_ble_eq_true rfl) (fun _ _ h => h.elim) (fun v9 ph9 hv9 => ?_)
    obtain ⟨rfl, e9⟩ := hv9
    subst ph9
    refine e_if_eq hX iX12_addRange_21 (fun c21 => ?_) (fun c21 => ?_)
    · exact th (by rw [b2i_0.mp c21]; exact fun h => Bool.noConfusion h)
    · refine e_iload_n hX 3 iX12_addRange_24 rfl rfl ?_
      refine e_iload_n hX 2 iX12_addRange_25 rfl rfl ?_
      refine e_bipush (v := 99) hX iX12_addRange_26 (by decide) ?_
      refine e_callS hX iX12_addRange_28 (n_in htr hi lo 99) rfl rfl ⟨by decide, by decide, by decide, by decide⟩ (Nat.le_of_ble_eq_true rfl) (fun _ _ h => h.elim) (fun v9 ph9 hv9 => ?_)
      obtain ⟨rfl, e9⟩ := hv9
      subst ph9
      refine e_if_ne hX iX12_addRange_31 (fun c31 => ?_) (fun c31 => ?_)
      · have h3 : (decide (-99 ≤ lo) && decide (lo ≤ 99) && (decide (lo ≤ hi) && decide (hi ≤ 99))) = true := and_tt (b2i_n0.mp c21) (b2i_n0.mp c31)
        refine e_aload_n hX 0 iX12_addRange_40 rfl rfl ?_
        refine e_get hX iX12_addRange_41 hm.1 rfl ?_
        rw [hr.1.2.2.2.1]
        refine e_bipush (v := 10) hX iX12_addRange_44 (by decide) ?_
        refine e_icmp_ne hX iX12_addRange_46 (fun c46 => ?_) (fun c46 => ?_)
        · have h4 : gK σ < 10 := Classical.not_not.mp (fun h => c46 ((k10 hk10).mpr h))
          have hk : k_rng σ (nI c') lo hi = 0 := ((if_pos h2).trans (if_pos h3)).trans (kadd_1 h4)
          refine e_aload_n hX 0 iX12_addRange_57 rfl rfl ?_
          refine e_iconst (v := 0) hX iX12_addRange_58 (by decide) ?_
          refine e_iload_n hX 1 iX12_addRange_59 rfl rfl ?_
          refine e_iload_n hX 2 iX12_addRange_60 rfl rfl ?_
          refine e_iload_n hX 3 iX12_addRange_61 rfl rfl ?_
          refine e_iload hX iX12_addRange_62 rfl ?_
          refine e_callV hX iX12_addRange_64 hm.1 (n_adds htr hm hr h4 (ρ := (0, c', lo, hi, st, false)) ⟨by show (0 : Nat) < 5; decide, hc', fun e => absurd e (by show ¬ (0 : Nat) = 2; decide)⟩ rfl) rfl rfl ⟨by decide, by decide, by decide, by decide⟩ (Nat.le_of_ble_eq_true rfl) (fun _ _ h => h.elim) (fun v9 ph9 hv9 => ?_)
          obtain ⟨rfl, h5, h6⟩ := hv9
          exact e_iret hX hQ iX12_addRange_67 rfl (by decide) (by decide) (by rw [if_pos hk, hix]; exact nP.mk ⟨h5, h6⟩ (by rw [hk]; rfl) (by rw [zI_0 hk]))
        · have h4 := (k10 hk10).mp c46
          refine e_aload_n hX 0 iX12_addRange_49 rfl rfl ?_
          refine e_iconst (v := 3) hX iX12_addRange_50 (by decide) ?_
          refine e_callV hX iX12_addRange_51 hm.1 (n_fails htr hm 3) rfl rfl ⟨by decide, by decide, by decide, by decide⟩ (Nat.le_of_ble_eq_true rfl) (fun _ _ h => h.elim) (fun v9 ph9 hv9 => ?_)
          obtain ⟨rfl, e9⟩ := hv9
          subst ph9
          refine e_goto hX iX12_addRange_54 ?_
          exact e_iret hX hQ iX12_addRange_67 rfl (by decide) (by decide) (bad 3 (by decide) (((if_pos h2).trans (if_pos h3)).trans (kadd_2 h4)))
      · exact th (by rw [b2i_0.mp c31, Bool.and_false]; exact fun h => Bool.noConfusion h)
  · refine e_aload_n hX 0 iX12_addRange_7 rfl rfl ?_
    refine e_iconst (v := 1) hX iX12_addRange_8 (by decide) ?_
    refine e_callV hX iX12_addRange_9 hm.1 (n_fails htr hm 1) rfl rfl ⟨by decide, by decide, by decide, by decide⟩ (Nat.le_of_ble_eq_true rfl) (fun _ _ h => h.elim) (fun v9 ph9 hv9 => ?_)
    obtain ⟨rfl, e9⟩ := hv9
    subst ph9
    exact e_iret hX hQ iX12_addRange_12 rfl (by decide) (by decide) (bad 1 (by decide) (if_neg (by rw [b2i_0.mp c4]; decide)))
theorem w_addRequired (htr : l.stackTraces = false) (hm : MP θ ph mo μ σ t) (c : Int32) (st : Bool) : MC yX12_addRequired cX12_addRequired 3 (some .int) 2 0 0 l θ [.ref mo, .int c, .int (b2i st)] ph (nP θ ph mo μ (if k_req σ c = 0 then s_add σ (1, ix c, 0, 0, st, false) else σ) (k_req σ c) (zI (k_req σ c) (nI (gK σ)))) (fun _ _ => False) := by
  obtain ⟨s, F, hm, hr, rfl⟩ := hm
  have hk10 := hr.ok.2.2.1
  refine MC.of htr (by decide) (Nat.le_of_ble_eq_true rfl) ?_
  intro x hX hQ hT
  have bad : ∀ k, ¬ k = 0 → k_req σ c = k → nP θ ph mo μ (if k_req σ c = 0 then s_add σ (1, ix c, 0, 0, st, false) else σ) (k_req σ c) (zI (k_req σ c) (nI (gK σ))) (some (.int 0)) (e_up ph mo (mobj μ (upd s 0 (nI k)))) := fun k hk0 hk => by
    rw [if_neg (by omega)]
    exact nP.mk (hm.told hr kept.refl (nI k)) (by rw [hk]) (by rw [zI_n (by omega)])
  refine e_iload_n hX 1 iX12_addRequired_0 rfl rfl ?_
  refine e_callS hX iX12_addRequired_1 (n_isColumn htr c) rfl rfl ⟨by decide, by decide, by decide, by decide⟩ (Nat.le_of_ble_eq_true rfl) (fun _ _ h => h.elim) (fun v9 ph9 hv9 => ?_)
  obtain ⟨rfl, e9⟩ := hv9
  subst ph9
  refine e_if_ne hX iX12_addRequired_4 (fun c4 => ?_) (fun c4 => ?_)
  · have h2 := b2i_n0.mp c4
    obtain ⟨c', hc', rfl⟩ := colB_t.mp h2
    have hix : ix (nI c') = c' := ix_n (by omega)
    refine e_aload_n hX 0 iX12_addRequired_13 rfl rfl ?_
    refine e_get hX iX12_addRequired_14 hm.1 rfl ?_
    rw [hr.1.2.2.2.1]
    refine e_bipush (v := 10) hX iX12_addRequired_17 (by decide) ?_
    refine e_icmp_ne hX iX12_addRequired_19 (fun c19 => ?_) (fun c19 => ?_)
    · have h4 : gK σ < 10 := Classical.not_not.mp (fun h => c19 ((k10 hk10).mpr h))
      have hk : k_req σ (nI c') = 0 := (if_pos h2).trans (kadd_1 h4)
      refine e_aload_n hX 0 iX12_addRequired_30 rfl rfl ?_
      refine e_iconst (v := 1) hX iX12_addRequired_31 (by decide) ?_
      refine e_iload_n hX 1 iX12_addRequired_32 rfl rfl ?_
      refine e_iconst (v := 0) hX iX12_addRequired_33 (by decide) ?_
      refine e_iconst (v := 0) hX iX12_addRequired_34 (by decide) ?_
      refine e_iload_n hX 2 iX12_addRequired_35 rfl rfl ?_
      refine e_callV hX iX12_addRequired_36 hm.1 (n_adds htr hm hr h4 (ρ := (1, c', 0, 0, st, false)) ⟨by show (1 : Nat) < 5; decide, hc', fun e => absurd e (by show ¬ (1 : Nat) = 2; decide)⟩ rfl) rfl rfl ⟨by decide, by decide, by decide, by decide⟩ (Nat.le_of_ble_eq_true rfl) (fun _ _ h => h.elim) (fun v9 ph9 hv9 => ?_)
      obtain ⟨rfl, h5, h6⟩ := hv9
      exact e_iret hX hQ iX12_addRequired_39 rfl (by decide) (by decide) (by rw [if_pos hk, hix]; exact nP.mk ⟨h5, h6⟩ (by rw [hk]; rfl) (by rw [zI_0 hk]))
    · have h4 := (k10 hk10).mp c19
      refine e_aload_n hX 0 iX12_addRequired_22 rfl rfl ?_
      refine e_iconst (v := 2) hX iX12_addRequired_23 (by decide) ?_
      refine e_callV hX iX12_addRequired_24 hm.1 (n_fails htr hm 2) rfl rfl ⟨by decide, by decide, by decide, by decide⟩ (Nat.le_of_ble_eq_true rfl) (fun _ _ h => h.elim) (fun v9 ph9 hv9 => ?_)
      obtain ⟨rfl, e9⟩ := hv9
      subst ph9
      refine e_goto hX iX12_addRequired_27 ?_
      exact e_iret hX hQ iX12_addRequired_39 rfl (by decide) (by decide) (bad 2 (by decide) ((if_pos h2).trans (kadd_2 h4)))
  · refine e_aload_n hX 0 iX12_addRequired_7 rfl rfl ?_
    refine e_iconst (v := 1) hX iX12_addRequired_8 (by decide) ?_
    refine e_callV hX iX12_addRequired_9 hm.1 (n_fails htr hm 1) rfl rfl ⟨by decide, by decide, by decide, by decide⟩ (Nat.le_of_ble_eq_true rfl) (fun _ _ h => h.elim) (fun v9 ph9 hv9 => ?_)
    obtain ⟨rfl, e9⟩ := hv9
    subst ph9
    exact e_iret hX hQ iX12_addRequired_12 rfl (by decide) (by decide) (bad 1 (by decide) (if_neg (by rw [b2i_0.mp c4]; decide)))
theorem w_addUnique (htr : l.stackTraces = false) (hm : MP θ ph mo μ σ t) (c : Int32) (st : Bool) : MC yX12_addUnique cX12_addUnique 3 (some .int) 2 0 0 l θ [.ref mo, .int c, .int (b2i st)] ph (nP θ ph mo μ (if k_req σ c = 0 then s_add σ (3, ix c, 0, 0, st, false) else σ) (k_req σ c) (zI (k_req σ c) (nI (gK σ)))) (fun _ _ => False) := by
  obtain ⟨s, F, hm, hr, rfl⟩ := hm
  have hk10 := hr.ok.2.2.1
  refine MC.of htr (by decide) (Nat.le_of_ble_eq_true rfl) ?_
  intro x hX hQ hT
  have bad : ∀ k, ¬ k = 0 → k_req σ c = k → nP θ ph mo μ (if k_req σ c = 0 then s_add σ (3, ix c, 0, 0, st, false) else σ) (k_req σ c) (zI (k_req σ c) (nI (gK σ))) (some (.int 0)) (e_up ph mo (mobj μ (upd s 0 (nI k)))) := fun k hk0 hk => by
    rw [if_neg (by omega)]
    exact nP.mk (hm.told hr kept.refl (nI k)) (by rw [hk]) (by rw [zI_n (by omega)])
  refine e_iload_n hX 1 iX12_addUnique_0 rfl rfl ?_
  refine e_callS hX iX12_addUnique_1 (n_isColumn htr c) rfl rfl ⟨by decide, by decide, by decide, by decide⟩ (Nat.le_of_ble_eq_true rfl) (fun _ _ h => h.elim) (fun v9 ph9 hv9 => ?_)
  obtain ⟨rfl, e9⟩ := hv9
  subst ph9
  refine e_if_ne hX iX12_addUnique_4 (fun c4 => ?_) (fun c4 => ?_)
  · have h2 := b2i_n0.mp c4
    obtain ⟨c', hc', rfl⟩ := colB_t.mp h2
    have hix : ix (nI c') = c' := ix_n (by omega)
    refine e_aload_n hX 0 iX12_addUnique_13 rfl rfl ?_
    refine e_get hX iX12_addUnique_14 hm.1 rfl ?_
    rw [hr.1.2.2.2.1]
    refine e_bipush (v := 10) hX iX12_addUnique_17 (by decide) ?_
    refine e_icmp_ne hX iX12_addUnique_19 (fun c19 => ?_) (fun c19 => ?_)
    · have h4 : gK σ < 10 := Classical.not_not.mp (fun h => c19 ((k10 hk10).mpr h))
      have hk : k_req σ (nI c') = 0 := (if_pos h2).trans (kadd_1 h4)
      refine e_aload_n hX 0 iX12_addUnique_30 rfl rfl ?_
      refine e_iconst (v := 3) hX iX12_addUnique_31 (by decide) ?_
      refine e_iload_n hX 1 iX12_addUnique_32 rfl rfl ?_
      refine e_iconst (v := 0) hX iX12_addUnique_33 (by decide) ?_
      refine e_iconst (v := 0) hX iX12_addUnique_34 (by decide) ?_
      refine e_iload_n hX 2 iX12_addUnique_35 rfl rfl ?_
      refine e_callV hX iX12_addUnique_36 hm.1 (n_adds htr hm hr h4 (ρ := (3, c', 0, 0, st, false)) ⟨by show (3 : Nat) < 5; decide, hc', fun e => absurd e (by show ¬ (3 : Nat) = 2; decide)⟩ rfl) rfl rfl ⟨by decide, by decide, by decide, by decide⟩ (Nat.le_of_ble_eq_true rfl) (fun _ _ h => h.elim) (fun v9 ph9 hv9 => ?_)
      obtain ⟨rfl, h5, h6⟩ := hv9
      exact e_iret hX hQ iX12_addUnique_39 rfl (by decide) (by decide) (by rw [if_pos hk, hix]; exact nP.mk ⟨h5, h6⟩ (by rw [hk]; rfl) (by rw [zI_0 hk]))
    · have h4 := (k10 hk10).mp c19
      refine e_aload_n hX 0 iX12_addUnique_22 rfl rfl ?_
      refine e_iconst (v := 2) hX iX12_addUnique_23 (by decide) ?_
      refine e_callV hX iX12_addUnique_24 hm.1 (n_fails htr hm 2) rfl rfl ⟨by decide, by decide, by decide, by decide⟩ (Nat.le_of_ble_eq_true rfl) (fun _ _ h => h.elim) (fun v9 ph9 hv9 => ?_)
      obtain ⟨rfl, e9⟩ := hv9
      subst ph9
      refine e_goto hX iX12_addUnique_27 ?_
      exact e_iret hX hQ iX12_addUnique_39 rfl (by decide) (by decide) (bad 2 (by decide) ((if_pos h2).trans (kadd_2 h4)))
  · refine e_aload_n hX 0 iX12_addUnique_7 rfl rfl ?_
    refine e_iconst (v := 1) hX iX12_addUnique_8 (by decide) ?_
    refine e_callV hX iX12_addUnique_9 hm.1 (n_fails htr hm 1) rfl rfl ⟨by decide, by decide, by decide, by decide⟩ (Nat.le_of_ble_eq_true rfl) (fun _ _ h => h.elim) (fun v9 ph9 hv9 => ?_)
    obtain ⟨rfl, e9⟩ := hv9
    subst ph9
    exact e_iret hX hQ iX12_addUnique_12 rfl (by decide) (by decide) (bad 1 (by decide) (if_neg (by rw [b2i_0.mp c4]; decide)))
theorem w_addOrder (htr : l.stackTraces = false) (hm : MP θ ph mo μ σ t) (c d : Int32) (st : Bool) : MC yX12_addOrder cX12_addOrder 4 (some .int) 2 0 0 l θ [.ref mo, .int c, .int d, .int (b2i st)] ph (nP θ ph mo μ (if k_ord σ c d = 0 then s_add σ (2, ix c, d, 0, st, false) else σ) (k_ord σ c d) (zI (k_ord σ c d) (nI (gK σ)))) (fun _ _ => False) := by
  obtain ⟨s, F, hm, hr, rfl⟩ := hm
  have hk10 := hr.ok.2.2.1
  refine MC.of htr (by decide) (Nat.le_of_ble_eq_true rfl) ?_
  intro x hX hQ hT
  have bad : ∀ k, ¬ k = 0 → k_ord σ c d = k → nP θ ph mo μ (if k_ord σ c d = 0 then s_add σ (2, ix c, d, 0, st, false) else σ) (k_ord σ c d) (zI (k_ord σ c d) (nI (gK σ))) (some (.int 0)) (e_up ph mo (mobj μ (upd s 0 (nI k)))) := fun k hk0 hk => by
    rw [if_neg (by omega)]
    exact nP.mk (hm.told hr kept.refl (nI k)) (by rw [hk]) (by rw [zI_n (by omega)])
  have th : k_ord σ c d = 1 → EJ θ x 14 [(0, .ref mo), (1, .int c), (2, .int d), (3, .int (b2i st))] [] ph 0 0 := by
    intro h
    refine e_aload_n hX 0 iX12_addOrder_14 rfl rfl ?_
    refine e_iconst (v := 1) hX iX12_addOrder_15 (by decide) ?_
    refine e_callV hX iX12_addOrder_16 hm.1 (n_fails htr hm 1) rfl rfl ⟨by decide, by decide, by decide, by decide⟩ (Nat.le_of_ble_eq_true rfl) (fun _ _ h => h.elim) (fun v9 ph9 hv9 => ?_)
    obtain ⟨rfl, e9⟩ := hv9
    subst ph9
    exact e_iret hX hQ iX12_addOrder_19 rfl (by decide) (by decide) (bad 1 (by decide) h)
  refine e_iload_n hX 1 iX12_addOrder_0 rfl rfl ?_
  refine e_callS hX iX12_addOrder_1 (n_isColumn htr c) rfl rfl ⟨by decide, by decide, by decide, by decide⟩ (Nat.le_of_ble_eq_true rfl) (fun _ _ h => h.elim) (fun v9 ph9 hv9 => ?_)
  obtain ⟨rfl, e9⟩ := hv9
  subst ph9
  refine e_if_eq hX iX12_addOrder_4 (fun c4 => ?_) (fun c4 => ?_)
  · exact th (if_neg (by rw [b2i_0.mp c4]; decide))
  · have h2 := b2i_n0.mp c4
    obtain ⟨c', hc', rfl⟩ := colB_t.mp h2
    have hix : ix (nI c') = c' := ix_n (by omega)
    refine e_iload_n hX 2 iX12_addOrder_7 rfl rfl ?_
    refine e_callS hX iX12_addOrder_8 (n_isColumn htr d) rfl rfl ⟨by decide, by decide, by decide, by decide⟩ (Nat.le_of_ble_eq_true rfl) (fun _ _ h => h.elim) (fun v9 ph9 hv9 => ?_)
    obtain ⟨rfl, e9⟩ := hv9
    subst ph9
    refine e_if_ne hX iX12_addOrder_11 (fun c11 => ?_) (fun c11 => ?_)
    · have h3 := b2i_n0.mp c11
      obtain ⟨d', hd', rfl⟩ := colB_t.mp h3
      refine e_iload_n hX 1 iX12_addOrder_20 rfl rfl ?_
      refine e_iload_n hX 2 iX12_addOrder_21 rfl rfl ?_
      refine e_icmp_ne hX iX12_addOrder_22 (fun c22 => ?_) (fun c22 => ?_)
      · refine e_aload_n hX 0 iX12_addOrder_31 rfl rfl ?_
        refine e_get hX iX12_addOrder_32 hm.1 rfl ?_
        rw [hr.1.2.2.2.1]
        refine e_bipush (v := 10) hX iX12_addOrder_35 (by decide) ?_
        refine e_icmp_ne hX iX12_addOrder_37 (fun c37 => ?_) (fun c37 => ?_)
        · have h4 : gK σ < 10 := Classical.not_not.mp (fun h => c37 ((k10 hk10).mpr h))
          have hk : k_ord σ (nI c') (nI d') = 0 := (((if_pos h2).trans (if_pos h3)).trans (if_neg c22)).trans (kadd_1 h4)
          refine e_aload_n hX 0 iX12_addOrder_48 rfl rfl ?_
          refine e_iconst (v := 2) hX iX12_addOrder_49 (by decide) ?_
          refine e_iload_n hX 1 iX12_addOrder_50 rfl rfl ?_
          refine e_iload_n hX 2 iX12_addOrder_51 rfl rfl ?_
          refine e_iconst (v := 0) hX iX12_addOrder_52 (by decide) ?_
          refine e_iload_n hX 3 iX12_addOrder_53 rfl rfl ?_
          refine e_callV hX iX12_addOrder_54 hm.1 (n_adds htr hm hr h4 (ρ := (2, c', nI d', 0, st, false)) ⟨by show (2 : Nat) < 5; decide, hc', fun _ => ⟨d', hd', rfl⟩⟩ rfl) rfl rfl ⟨by decide, by decide, by decide, by decide⟩ (Nat.le_of_ble_eq_true rfl) (fun _ _ h => h.elim) (fun v9 ph9 hv9 => ?_)
          obtain ⟨rfl, h5, h6⟩ := hv9
          exact e_iret hX hQ iX12_addOrder_57 rfl (by decide) (by decide) (by rw [if_pos hk, hix]; exact nP.mk ⟨h5, h6⟩ (by rw [hk]; rfl) (by rw [zI_0 hk]))
        · have h4 := (k10 hk10).mp c37
          refine e_aload_n hX 0 iX12_addOrder_40 rfl rfl ?_
          refine e_iconst (v := 3) hX iX12_addOrder_41 (by decide) ?_
          refine e_callV hX iX12_addOrder_42 hm.1 (n_fails htr hm 3) rfl rfl ⟨by decide, by decide, by decide, by decide⟩ (Nat.le_of_ble_eq_true rfl) (fun _ _ h => h.elim) (fun v9 ph9 hv9 => ?_)
          obtain ⟨rfl, e9⟩ := hv9
          subst ph9
          refine e_goto hX iX12_addOrder_45 ?_
          exact e_iret hX hQ iX12_addOrder_57 rfl (by decide) (by decide) (bad 3 (by decide) ((((if_pos h2).trans (if_pos h3)).trans (if_neg c22)).trans (kadd_2 h4)))
      · refine e_aload_n hX 0 iX12_addOrder_25 rfl rfl ?_
        refine e_iconst (v := 2) hX iX12_addOrder_26 (by decide) ?_
        refine e_callV hX iX12_addOrder_27 hm.1 (n_fails htr hm 2) rfl rfl ⟨by decide, by decide, by decide, by decide⟩ (Nat.le_of_ble_eq_true rfl) (fun _ _ h => h.elim) (fun v9 ph9 hv9 => ?_)
        obtain ⟨rfl, e9⟩ := hv9
        subst ph9
        exact e_iret hX hQ iX12_addOrder_30 rfl (by decide) (by decide) (bad 2 (by decide) (((if_pos h2).trans (if_pos h3)).trans (if_pos c22)))
    · exact th ((if_pos h2).trans (if_neg (by rw [b2i_0.mp c11]; decide)))
theorem w_addDependency (htr : l.stackTraces = false) (hm : MP θ ph mo μ σ t) (y c : Int32) (st : Bool) : MC yX12_addDependency cX12_addDependency 4 (some .int) 2 0 0 l θ [.ref mo, .int y, .int c, .int (b2i st)] ph (nP θ ph mo μ (if k_dep σ y c = 0 then s_add σ (4, ix c, y, 0, st, false) else σ) (k_dep σ y c) (zI (k_dep σ y c) (nI (gK σ)))) (fun _ _ => False) := by
  obtain ⟨s, F, hm, hr, rfl⟩ := hm
  have hk10 := hr.ok.2.2.1
  refine MC.of htr (by decide) (Nat.le_of_ble_eq_true rfl) ?_
  intro x hX hQ hT
  have bad : ∀ k, ¬ k = 0 → k_dep σ y c = k → nP θ ph mo μ (if k_dep σ y c = 0 then s_add σ (4, ix c, y, 0, st, false) else σ) (k_dep σ y c) (zI (k_dep σ y c) (nI (gK σ))) (some (.int 0)) (e_up ph mo (mobj μ (upd s 0 (nI k)))) := fun k hk0 hk => by
    rw [if_neg (by omega)]
    exact nP.mk (hm.told hr kept.refl (nI k)) (by rw [hk]) (by rw [zI_n (by omega)])
  refine e_iload_n hX 2 iX12_addDependency_0 rfl rfl ?_
  refine e_callS hX iX12_addDependency_1 (n_isColumn htr c) rfl rfl ⟨by decide, by decide, by decide, by decide⟩ (Nat.le_of_ble_eq_true rfl) (fun _ _ h => h.elim) (fun v9 ph9 hv9 => ?_)
  obtain ⟨rfl, e9⟩ := hv9
  subst ph9
  refine e_if_ne hX iX12_addDependency_4 (fun c4 => ?_) (fun c4 => ?_)
  · have h2 := b2i_n0.mp c4
    obtain ⟨c', hc', rfl⟩ := colB_t.mp h2
    have hix : ix (nI c') = c' := ix_n (by omega)
    have th : (¬ (setB y && !(ix y).testBit (ix (nI c'))) = true) → EJ θ x 29 [(0, .ref mo), (1, .int y), (2, .int (nI c')), (3, .int (b2i st))] [] ph 0 0 := by
      intro h
      refine e_aload_n hX 0 iX12_addDependency_29 rfl rfl ?_
      refine e_iconst (v := 2) hX iX12_addDependency_30 (by decide) ?_
      refine e_callV hX iX12_addDependency_31 hm.1 (n_fails htr hm 2) rfl rfl ⟨by decide, by decide, by decide, by decide⟩ (Nat.le_of_ble_eq_true rfl) (fun _ _ h => h.elim) (fun v9 ph9 hv9 => ?_)
      obtain ⟨rfl, e9⟩ := hv9
      subst ph9
      exact e_iret hX hQ iX12_addDependency_34 rfl (by decide) (by decide) (bad 2 (by decide) ((if_pos h2).trans (if_neg h)))
    refine e_iload_n hX 1 iX12_addDependency_13 rfl rfl ?_
    refine e_callS hX iX12_addDependency_14 (n_isSet htr y) rfl rfl ⟨by decide, by decide, by decide, by decide⟩ (Nat.le_of_ble_eq_true rfl) (fun _ _ h => h.elim) (fun v9 ph9 hv9 => ?_)
    obtain ⟨rfl, e9⟩ := hv9
    subst ph9
    refine e_if_eq hX iX12_addDependency_17 (fun c17 => ?_) (fun c17 => ?_)
    · exact th (by rw [b2i_0.mp c17]; exact fun h => Bool.noConfusion h)
    · have h5 := b2i_n0.mp c17
      obtain ⟨y', hy', rfl⟩ := setB_t.mp h5
      have hiy : ix (nI y') = y' := ix_n (by omega)
      refine e_iload_n hX 1 iX12_addDependency_20 rfl rfl ?_
      refine e_iload_n hX 2 iX12_addDependency_21 rfl rfl ?_
      refine e_ishr hX iX12_addDependency_22 ?_
      refine e_iconst (v := 1) hX iX12_addDependency_23 (by decide) ?_
      refine e_iand hX iX12_addDependency_24 ?_
      refine e_iconst (v := 1) hX iX12_addDependency_25 (by decide) ?_
      refine e_icmp_ne hX iX12_addDependency_26 (fun c26 => ?_) (fun c26 => ?_)
      · have hb : y'.testBit c' = false := by
          have : ¬ sb (nI y') c' = true := fun q => c26 (sb_1.mpr q)
          rw [sb_n y' (show c' < 32 by omega)] at this
          simpa using this
        have h1 : (setB (nI y') && !(ix (nI y')).testBit (ix (nI c'))) = true := by rw [h5, hiy, hix, hb]; rfl
        refine e_aload_n hX 0 iX12_addDependency_35 rfl rfl ?_
        refine e_get hX iX12_addDependency_36 hm.1 rfl ?_
        rw [hr.1.2.2.2.1]
        refine e_bipush (v := 10) hX iX12_addDependency_39 (by decide) ?_
        refine e_icmp_ne hX iX12_addDependency_41 (fun c41 => ?_) (fun c41 => ?_)
        · have h4 : gK σ < 10 := Classical.not_not.mp (fun h => c41 ((k10 hk10).mpr h))
          have hk : k_dep σ (nI y') (nI c') = 0 := ((if_pos h2).trans (if_pos h1)).trans (kadd_1 h4)
          refine e_aload_n hX 0 iX12_addDependency_52 rfl rfl ?_
          refine e_iconst (v := 4) hX iX12_addDependency_53 (by decide) ?_
          refine e_iload_n hX 2 iX12_addDependency_54 rfl rfl ?_
          refine e_iload_n hX 1 iX12_addDependency_55 rfl rfl ?_
          refine e_iconst (v := 0) hX iX12_addDependency_56 (by decide) ?_
          refine e_iload_n hX 3 iX12_addDependency_57 rfl rfl ?_
          refine e_callV hX iX12_addDependency_58 hm.1 (n_adds htr hm hr h4 (ρ := (4, c', nI y', 0, st, false)) ⟨by show (4 : Nat) < 5; decide, hc', fun e => absurd e (by show ¬ (4 : Nat) = 2; decide)⟩ rfl) rfl rfl ⟨by decide, by decide, by decide, by decide⟩ (Nat.le_of_ble_eq_true rfl) (fun _ _ h => h.elim) (fun v9 ph9 hv9 => ?_)
          obtain ⟨rfl, h5, h6⟩ := hv9
          exact e_iret hX hQ iX12_addDependency_61 rfl (by decide) (by decide) (by rw [if_pos hk, hix]; exact nP.mk ⟨h5, h6⟩ (by rw [hk]; rfl) (by rw [zI_0 hk]))
        · have h4 := (k10 hk10).mp c41
          refine e_aload_n hX 0 iX12_addDependency_44 rfl rfl ?_
          refine e_iconst (v := 3) hX iX12_addDependency_45 (by decide) ?_
          refine e_callV hX iX12_addDependency_46 hm.1 (n_fails htr hm 3) rfl rfl ⟨by decide, by decide, by decide, by decide⟩ (Nat.le_of_ble_eq_true rfl) (fun _ _ h => h.elim) (fun v9 ph9 hv9 => ?_)
          obtain ⟨rfl, e9⟩ := hv9
          subst ph9
          refine e_goto hX iX12_addDependency_49 ?_
          exact e_iret hX hQ iX12_addDependency_61 rfl (by decide) (by decide) (bad 3 (by decide) (((if_pos h2).trans (if_pos h1)).trans (kadd_2 h4)))
      · have hb : y'.testBit c' = true := by
          have : sb (nI y') c' = true := sb_1.mp c26
          rw [sb_n y' (show c' < 32 by omega)] at this
          exact this
        exact th (by rw [hiy, hix, hb, Bool.not_true, Bool.and_false]; decide)
  · refine e_aload_n hX 0 iX12_addDependency_7 rfl rfl ?_
    refine e_iconst (v := 1) hX iX12_addDependency_8 (by decide) ?_
    refine e_callV hX iX12_addDependency_9 hm.1 (n_fails htr hm 1) rfl rfl ⟨by decide, by decide, by decide, by decide⟩ (Nat.le_of_ble_eq_true rfl) (fun _ _ h => h.elim) (fun v9 ph9 hv9 => ?_)
    obtain ⟨rfl, e9⟩ := hv9
    subst ph9
    exact e_iret hX hQ iX12_addDependency_12 rfl (by decide) (by decide) (bad 1 (by decide) (if_neg (by rw [b2i_0.mp c4]; decide)))
end MOE
