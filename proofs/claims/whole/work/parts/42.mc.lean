/-! the model's public calls: simple ones -/
def nP (θ : e_T) (ph : e_PH) (mo : Nat) (μ : Nat → Nat) (σ : SG) (k : Nat) (z0 : Value) : Option Value → e_PH → Prop := fun z p => z = some z0 ∧ MP θ p mo μ σ (nI k) ∧ kept ph p (mS mo μ)
def zI (k : Nat) (a : Int32) : Value := .int (if k = 0 then a else 0)
def zB (k : Nat) (a : Bool) : Value := .int (b2i (decide (k = 0) && a))
theorem MI.told {θ : e_T} {ph p0 : e_PH} {mo : Nat} {μ : Nat → Nat} {s : Nat → Int32} {F : Nat → Nat → Int32} {σ : SG} (hm : MI θ ph mo μ s F) (hr : MR σ s F) (hk : kept p0 ph (mS mo μ)) (t : Int32) : MP θ (e_up ph mo (mobj μ (upd s 0 t))) mo μ σ t ∧ kept p0 (e_up ph mo (mobj μ (upd s 0 t))) (mS mo μ) := ⟨⟨_, F, hm.fld _, hr, rfl⟩, mS.fld hk⟩
theorem nP.mk {θ : e_T} {ph p : e_PH} {mo : Nat} {μ : Nat → Nat} {σ : SG} {k : Nat} {z0 : Value} {z : Option Value} {t : Int32} (h : MP θ p mo μ σ t ∧ kept ph p (mS mo μ)) (ht : t = nI k) (hz : z = some z0) : nP θ ph mo μ σ k z0 z p := ⟨hz, by rw [← ht]; exact h.1, h.2⟩
theorem MR.ok {σ : SG} {s : Nat → Int32} {F : Nat → Nat → Int32} (h : MR σ s F) : okS σ := h.2.2.2.2.2.2.2
theorem MR.rules {σ : SG} {s : Nat → Int32} {F : Nat → Nat → Int32} (h : MR σ s F) : mrules F (gK σ) (gR σ) := h.2.2.2.2.1
theorem MR.fnd {σ : SG} {s : Nat → Int32} {F : Nat → Nat → Int32} (h : MR σ s F) (id : Int32) : fndI (gN σ) (F 0) id = if fnd σ id < gN σ then nI (fnd σ id) else -1 := by
  unfold fndI
  rw [fndN_c (fun i hi => (h.2.2.1 i hi).1)]
  rfl
theorem zI_0 {k : Nat} {a : Int32} (h : k = 0) : zI k a = .int a := by unfold zI; rw [if_pos h]
theorem zI_n {k : Nat} {a : Int32} (h : ¬ k = 0) : zI k a = .int 0 := by unfold zI; rw [if_neg h]
theorem badB_c {k : Nat} {R : Nat → RU} {v v' : Nat → Int32} (hR : ∀ r, r < k → ruleOk (R r).1 (R r).2.1 (R r).2.2.1) (h : ∀ c, c < 5 → v c = v' c) : badB k R v = badB k R v' := anyB_c (fun r hr => by rw [show brkR (R r) v = brkR (R r) v' from brk_c (hR r hr) h])
theorem conB_c {k : Nat} {R : Nat → RU} {v v' u u' : Nat → Int32} (hR : ∀ r, r < k → ruleOk (R r).1 (R r).2.1 (R r).2.2.1) (h : ∀ c, c < 5 → v c = v' c) (h2 : ∀ c, c < 5 → u c = u' c) : conB k R v u = conB k R v' u' := anyB_c (fun r hr => by rw [show clsR (R r) v u = clsR (R r) v' u' from cls_c (hR r hr).2.1 h h2])
theorem MR.rok {σ : SG} {s : Nat → Int32} {F : Nat → Nat → Int32} (h : MR σ s F) : ∀ r, r < gK σ → ruleOk (gR σ r).1 (gR σ r).2.1 (gR σ r).2.2.1 := fun r hr => (h.rules r hr).1.2.2.2.2
theorem MR.v {σ : SG} {s : Nat → Int32} {F : Nat → Nat → Int32} (h : MR σ s F) {i : Nat} (hi : i < gN σ) : ∀ c, c < 5 → vF F i c = gV σ i c := (h.2.2.1 i hi).2
theorem MR.bad {σ : SG} {s : Nat → Int32} {F : Nat → Nat → Int32} (h : MR σ s F) {i : Nat} (hi : i < gN σ) : badB (gK σ) (gR σ) (vF F i) = badB (gK σ) (gR σ) (gV σ i) := badB_c h.rok (h.v hi)
theorem MR.con {σ : SG} {s : Nat → Int32} {F : Nat → Nat → Int32} (h : MR σ s F) {i j : Nat} (hi : i < gN σ) (hj : j < gN σ) : conB (gK σ) (gR σ) (vF F i) (vF F j) = conB (gK σ) (gR σ) (gV σ i) (gV σ j) := conB_c h.rok (h.v hi) (h.v hj)
section MOC
variable {l : Launch} {θ : e_T} {ph : e_PH} {mo : Nat} {μ : Nat → Nat} {σ : SG} {t : Int32}
theorem w_thrown (htr : l.stackTraces = false) (hm : MP θ ph mo μ σ t) : MC yX12_thrown cX12_thrown 1 (some .int) 0 0 0 l θ [.ref mo] ph (fun z p => z = some (.int t) ∧ p = ph) (fun _ _ => False) := by
  obtain ⟨s, F, hm, hr, rfl⟩ := hm
  exact n_thrown htr hm
theorem w_staged (htr : l.stackTraces = false) (hm : MP θ ph mo μ σ t) : MC yX12_staged cX12_staged 1 (some .int) 1 0 0 l θ [.ref mo] ph (nP θ ph mo μ σ 0 (.int (nI (gM σ)))) (fun _ _ => False) := by
  obtain ⟨s, F, hm, hr, rfl⟩ := hm
  refine MC.of htr (by decide) (Nat.le_of_ble_eq_true rfl) ?_
  intro x hX hQ hT
  refine e_aload_n hX 0 iX12_staged_0 rfl rfl ?_
  refine e_aload_n hX 0 iX12_staged_1 rfl rfl ?_
  refine e_get hX iX12_staged_2 hm.1 rfl ?_
  rw [hr.1.2.2.1]
  refine e_callV hX iX12_staged_5 hm.1 (n_tells htr hm (nI (gM σ))) rfl rfl ⟨by decide, by decide, by decide, by decide⟩ (Nat.le_of_ble_eq_true rfl) (fun _ _ h => h.elim) (fun v9 ph9 hv9 => ?_)
  obtain ⟨rfl, e9⟩ := hv9
  subst ph9
  exact e_iret hX hQ iX12_staged_8 rfl (by decide) (by decide) (nP.mk (hm.told hr kept.refl 0) rfl rfl)
theorem w_rowCount (htr : l.stackTraces = false) (hm : MP θ ph mo μ σ t) : MC yX12_rowCount cX12_rowCount 1 (some .int) 1 0 0 l θ [.ref mo] ph (nP θ ph mo μ σ 0 (.int (nI (gN σ)))) (fun _ _ => False) := by
  obtain ⟨s, F, hm, hr, rfl⟩ := hm
  refine MC.of htr (by decide) (Nat.le_of_ble_eq_true rfl) ?_
  intro x hX hQ hT
  refine e_aload_n hX 0 iX12_rowCount_0 rfl rfl ?_
  refine e_aload_n hX 0 iX12_rowCount_1 rfl rfl ?_
  refine e_get hX iX12_rowCount_2 hm.1 rfl ?_
  rw [hr.1.1]
  refine e_callV hX iX12_rowCount_5 hm.1 (n_tells htr hm (nI (gN σ))) rfl rfl ⟨by decide, by decide, by decide, by decide⟩ (Nat.le_of_ble_eq_true rfl) (fun _ _ h => h.elim) (fun v9 ph9 hv9 => ?_)
  obtain ⟨rfl, e9⟩ := hv9
  subst ph9
  exact e_iret hX hQ iX12_rowCount_8 rfl (by decide) (by decide) (nP.mk (hm.told hr kept.refl 0) rfl rfl)
theorem w_discard (htr : l.stackTraces = false) (hm : MP θ ph mo μ σ t) : MC yX12_discard cX12_discard 2 (some .int) 1 0 0 l θ [.ref mo] ph (nP θ ph mo μ (s_disc σ) 0 (.int (nI (gM σ)))) (fun _ _ => False) := by
  obtain ⟨s, F, hm, hr, rfl⟩ := hm
  refine MC.of htr (by decide) (Nat.le_of_ble_eq_true rfl) ?_
  intro x hX hQ hT
  refine e_aload_n hX 0 iX12_discard_0 rfl rfl ?_
  refine e_get hX iX12_discard_1 hm.1 rfl ?_
  rw [hr.1.2.2.1]
  refine e_istore_n hX 1 iX12_discard_4 rfl (by decide) ?_
  refine e_aload_n hX 0 iX12_discard_5 rfl rfl ?_
  refine e_iconst (v := 0) hX iX12_discard_6 (by decide) ?_
  refine e_put (fs' := _) hX iX12_discard_7 hm.1 rfl (Nat.le_of_ble_eq_true rfl) rfl rfl ?_
  have hm2 : MI θ (e_up ph mo (mobj μ (upd s 3 0))) mo μ (upd s 3 0) F := hm.fld _
  have hr2 : MR (s_disc σ) (upd s 3 0) F := ⟨⟨hr.1.1, hr.1.2.1, rfl, hr.1.2.2.2⟩, hr.2.1, hr.2.2.1, fun i hi => absurd hi (Nat.not_lt_zero i), hr.2.2.2.2.1, hr.2.2.2.2.2.1, hr.2.2.2.2.2.2.1, ⟨hr.ok.1, Nat.zero_le _, hr.ok.2.2.1, hr.ok.2.2.2.1, hr.ok.2.2.2.2.1, fun i hi => absurd hi (Nat.not_lt_zero i), hr.ok.2.2.2.2.2.2⟩⟩
  refine e_aload_n hX 0 iX12_discard_10 rfl rfl ?_
  refine e_iload_n hX 1 iX12_discard_11 rfl rfl ?_
  refine e_callV hX iX12_discard_12 hm2.1 (n_tells htr hm2 (nI (gM σ))) rfl rfl ⟨by decide, by decide, by decide, by decide⟩ (Nat.le_of_ble_eq_true rfl) (fun _ _ h => h.elim) (fun v9 ph9 hv9 => ?_)
  obtain ⟨rfl, e9⟩ := hv9
  subst ph9
  exact e_iret hX hQ iX12_discard_15 rfl (by decide) (by decide) (nP.mk (hm2.told hr2 (mS.fld kept.refl) 0) rfl rfl)
theorem w_rejectedRow (htr : l.stackTraces = false) (hm : MP θ ph mo μ σ t) : MC yX12_rejectedRow cX12_rejectedRow 1 (some .int) 1 0 0 l θ [.ref mo] ph (nP θ ph mo μ σ (k_rej σ) (zI (k_rej σ) (gJ σ).1)) (fun _ _ => False) := by
  obtain ⟨s, F, hm, hr, rfl⟩ := hm
  refine MC.of htr (by decide) (Nat.le_of_ble_eq_true rfl) ?_
  intro x hX hQ hT
  refine e_aload_n hX 0 iX12_rejectedRow_0 rfl rfl ?_
  refine e_get hX iX12_rejectedRow_1 hm.1 rfl ?_
  rw [hr.2.1.1]
  refine e_iconst (v := (-1)) hX iX12_rejectedRow_4 (by decide) ?_
  refine e_icmp_ne hX iX12_rejectedRow_5 (fun c5 => ?_) (fun c5 => ?_)
  · have hk : k_rej σ = 0 := if_neg c5
    refine e_aload_n hX 0 iX12_rejectedRow_16 rfl rfl ?_
    refine e_aload_n hX 0 iX12_rejectedRow_17 rfl rfl ?_
    refine e_get hX iX12_rejectedRow_18 hm.1 rfl ?_
    rw [hr.2.1.1]
    refine e_callV hX iX12_rejectedRow_21 hm.1 (n_tells htr hm (gJ σ).1) rfl rfl ⟨by decide, by decide, by decide, by decide⟩ (Nat.le_of_ble_eq_true rfl) (fun _ _ h => h.elim) (fun v9 ph9 hv9 => ?_)
    obtain ⟨rfl, e9⟩ := hv9
    subst ph9
    exact e_iret hX hQ iX12_rejectedRow_24 rfl (by decide) (by decide) (nP.mk (hm.told hr kept.refl 0) (by rw [hk]; rfl) (by rw [zI_0 hk]))
  · have hk : k_rej σ = 1 := if_pos c5
    refine e_aload_n hX 0 iX12_rejectedRow_8 rfl rfl ?_
    refine e_iconst (v := 1) hX iX12_rejectedRow_9 (by decide) ?_
    refine e_callV hX iX12_rejectedRow_10 hm.1 (n_fails htr hm 1) rfl rfl ⟨by decide, by decide, by decide, by decide⟩ (Nat.le_of_ble_eq_true rfl) (fun _ _ h => h.elim) (fun v9 ph9 hv9 => ?_)
    obtain ⟨rfl, e9⟩ := hv9
    subst ph9
    refine e_goto hX iX12_rejectedRow_13 ?_
    exact e_iret hX hQ iX12_rejectedRow_24 rfl (by decide) (by decide) (nP.mk (hm.told hr kept.refl 1) (by rw [hk]; rfl) (by rw [zI_n (by omega)]))
theorem w_rejectedRule (htr : l.stackTraces = false) (hm : MP θ ph mo μ σ t) : MC yX12_rejectedRule cX12_rejectedRule 1 (some .int) 1 0 0 l θ [.ref mo] ph (nP θ ph mo μ σ (k_rej σ) (zI (k_rej σ) (gJ σ).2.1)) (fun _ _ => False) := by
  obtain ⟨s, F, hm, hr, rfl⟩ := hm
  refine MC.of htr (by decide) (Nat.le_of_ble_eq_true rfl) ?_
  intro x hX hQ hT
  refine e_aload_n hX 0 iX12_rejectedRule_0 rfl rfl ?_
  refine e_get hX iX12_rejectedRule_1 hm.1 rfl ?_
  rw [hr.2.1.1]
  refine e_iconst (v := (-1)) hX iX12_rejectedRule_4 (by decide) ?_
  refine e_icmp_ne hX iX12_rejectedRule_5 (fun c5 => ?_) (fun c5 => ?_)
  · have hk : k_rej σ = 0 := if_neg c5
    refine e_aload_n hX 0 iX12_rejectedRule_16 rfl rfl ?_
    refine e_aload_n hX 0 iX12_rejectedRule_17 rfl rfl ?_
    refine e_get hX iX12_rejectedRule_18 hm.1 rfl ?_
    rw [(hr.2.1.2 c5).1]
    refine e_callV hX iX12_rejectedRule_21 hm.1 (n_tells htr hm (gJ σ).2.1) rfl rfl ⟨by decide, by decide, by decide, by decide⟩ (Nat.le_of_ble_eq_true rfl) (fun _ _ h => h.elim) (fun v9 ph9 hv9 => ?_)
    obtain ⟨rfl, e9⟩ := hv9
    subst ph9
    exact e_iret hX hQ iX12_rejectedRule_24 rfl (by decide) (by decide) (nP.mk (hm.told hr kept.refl 0) (by rw [hk]; rfl) (by rw [zI_0 hk]))
  · have hk : k_rej σ = 1 := if_pos c5
    refine e_aload_n hX 0 iX12_rejectedRule_8 rfl rfl ?_
    refine e_iconst (v := 1) hX iX12_rejectedRule_9 (by decide) ?_
    refine e_callV hX iX12_rejectedRule_10 hm.1 (n_fails htr hm 1) rfl rfl ⟨by decide, by decide, by decide, by decide⟩ (Nat.le_of_ble_eq_true rfl) (fun _ _ h => h.elim) (fun v9 ph9 hv9 => ?_)
    obtain ⟨rfl, e9⟩ := hv9
    subst ph9
    refine e_goto hX iX12_rejectedRule_13 ?_
    exact e_iret hX hQ iX12_rejectedRule_24 rfl (by decide) (by decide) (nP.mk (hm.told hr kept.refl 1) (by rw [hk]; rfl) (by rw [zI_n (by omega)]))
theorem n_hasOther (htr : l.stackTraces = false) {s : Nat → Int32} {F : Nat → Nat → Int32} (hm : MI θ ph mo μ s F) (hr : MR σ s F) : MC yX12_hasOther cX12_hasOther 1 (some .boolean) 0 0 0 l θ [.ref mo] ph (fun z p => z = some (.int (b2i (decide (k_rejO σ = 0)))) ∧ p = ph) (fun _ _ => False) := by
  refine MC.of htr (by decide) (Nat.le_of_ble_eq_true rfl) ?_
  intro x hX hQ hT
  refine e_aload_n hX 0 iX12_hasOther_0 rfl rfl ?_
  refine e_get hX iX12_hasOther_1 hm.1 rfl ?_
  rw [hr.2.1.1]
  refine e_iconst (v := (-1)) hX iX12_hasOther_4 (by decide) ?_
  refine e_icmp_eq hX iX12_hasOther_5 (fun c5 => ?_) (fun c5 => ?_)
  · have hk : k_rejO σ = 1 := if_pos (hr.ok.2.2.2.2.2.2.2 c5)
    refine e_iconst (v := 0) hX iX12_hasOther_20 (by decide) ?_
    exact e_zret hX hQ iX12_hasOther_21 rfl nar_0 (by decide) (by decide) ⟨by rw [hk]; rfl, rfl⟩
  · refine e_aload_n hX 0 iX12_hasOther_8 rfl rfl ?_
    refine e_get hX iX12_hasOther_9 hm.1 rfl ?_
    rw [(hr.2.1.2 c5).2.1]
    refine e_iconst (v := (-1)) hX iX12_hasOther_12 (by decide) ?_
    refine e_icmp_eq hX iX12_hasOther_13 (fun c13 => ?_) (fun c13 => ?_)
    · have hk : k_rejO σ = 1 := if_pos c13
      refine e_iconst (v := 0) hX iX12_hasOther_20 (by decide) ?_
      exact e_zret hX hQ iX12_hasOther_21 rfl nar_0 (by decide) (by decide) ⟨by rw [hk]; rfl, rfl⟩
    · have hk : k_rejO σ = 0 := if_neg c13
      refine e_iconst (v := 1) hX iX12_hasOther_16 (by decide) ?_
      refine e_goto hX iX12_hasOther_17 ?_
      exact e_zret hX hQ iX12_hasOther_21 rfl nar_1 (by decide) (by decide) ⟨by rw [hk]; rfl, rfl⟩
theorem rejO_ne (hr : okS σ) (h : k_rejO σ = 0) : (gJ σ).1 ≠ -1 := fun e => by
  unfold k_rejO at h
  rw [if_pos (hr.2.2.2.2.2.2.2 e)] at h
  cases h
theorem w_rejectedOther (htr : l.stackTraces = false) (hm : MP θ ph mo μ σ t) : MC yX12_rejectedOther cX12_rejectedOther 1 (some .int) 1 0 0 l θ [.ref mo] ph (nP θ ph mo μ σ (k_rejO σ) (zI (k_rejO σ) (gJ σ).2.2.1)) (fun _ _ => False) := by
  obtain ⟨s, F, hm, hr, rfl⟩ := hm
  refine MC.of htr (by decide) (Nat.le_of_ble_eq_true rfl) ?_
  intro x hX hQ hT
  refine e_aload_n hX 0 iX12_rejectedOther_0 rfl rfl ?_
  refine e_callV hX iX12_rejectedOther_1 hm.1 (n_hasOther htr hm hr) rfl rfl ⟨by decide, by decide, by decide, by decide⟩ (Nat.le_of_ble_eq_true rfl) (fun _ _ h => h.elim) (fun v9 ph9 hv9 => ?_)
  obtain ⟨rfl, e9⟩ := hv9
  subst ph9
  refine e_if_eq hX iX12_rejectedOther_4 (fun c4 => ?_) (fun c4 => ?_)
  · have hk : ¬ k_rejO σ = 0 := of_decide_eq_false (b2i_0.mp c4)
    have hk1 : k_rejO σ = 1 := by unfold k_rejO at hk ⊢; split at hk <;> simp_all
    refine e_aload_n hX 0 iX12_rejectedOther_18 rfl rfl ?_
    refine e_iconst (v := 1) hX iX12_rejectedOther_19 (by decide) ?_
    refine e_callV hX iX12_rejectedOther_20 hm.1 (n_fails htr hm 1) rfl rfl ⟨by decide, by decide, by decide, by decide⟩ (Nat.le_of_ble_eq_true rfl) (fun _ _ h => h.elim) (fun v9 ph9 hv9 => ?_)
    obtain ⟨rfl, e9⟩ := hv9
    subst ph9
    exact e_iret hX hQ iX12_rejectedOther_23 rfl (by decide) (by decide) (nP.mk (hm.told hr kept.refl 1) (by rw [hk1]; rfl) (by rw [zI_n hk]))
  · have hk : k_rejO σ = 0 := of_decide_eq_true (b2i_n0.mp c4)
    refine e_aload_n hX 0 iX12_rejectedOther_7 rfl rfl ?_
    refine e_aload_n hX 0 iX12_rejectedOther_8 rfl rfl ?_
    refine e_get hX iX12_rejectedOther_9 hm.1 rfl ?_
    rw [(hr.2.1.2 (rejO_ne hr.ok hk)).2.1]
    refine e_callV hX iX12_rejectedOther_12 hm.1 (n_tells htr hm (gJ σ).2.2.1) rfl rfl ⟨by decide, by decide, by decide, by decide⟩ (Nat.le_of_ble_eq_true rfl) (fun _ _ h => h.elim) (fun v9 ph9 hv9 => ?_)
    obtain ⟨rfl, e9⟩ := hv9
    subst ph9
    refine e_goto hX iX12_rejectedOther_15 ?_
    exact e_iret hX hQ iX12_rejectedOther_23 rfl (by decide) (by decide) (nP.mk (hm.told hr kept.refl 0) (by rw [hk]; rfl) (by rw [zI_0 hk]))
theorem w_isOtherStaged (htr : l.stackTraces = false) (hm : MP θ ph mo μ σ t) : MC yX12_isOtherStaged cX12_isOtherStaged 1 (some .boolean) 1 0 0 l θ [.ref mo] ph (fun z p => (∃ b, z = some (zB (k_rejO σ) b) ∧ (k_rejO σ = 0 → b = (gJ σ).2.2.2)) ∧ MP θ p mo μ σ (nI (k_rejO σ)) ∧ kept ph p (mS mo μ)) (fun _ _ => False) := by
  obtain ⟨s, F, hm, hr, rfl⟩ := hm
  obtain ⟨b, hb⟩ := hr.1.2.2.2.2.2.2
  refine MC.of htr (by decide) (Nat.le_of_ble_eq_true rfl) ?_
  intro x hX hQ hT
  refine e_aload_n hX 0 iX12_isOtherStaged_0 rfl rfl ?_
  refine e_aload_n hX 0 iX12_isOtherStaged_1 rfl rfl ?_
  refine e_callV hX iX12_isOtherStaged_2 hm.1 (n_hasOther htr hm hr) rfl rfl ⟨by decide, by decide, by decide, by decide⟩ (Nat.le_of_ble_eq_true rfl) (fun _ _ h => h.elim) (fun v9 ph9 hv9 => ?_)
  obtain ⟨rfl, e9⟩ := hv9
  subst ph9
  refine e_if_eq hX iX12_isOtherStaged_5 (fun c5 => ?_) (fun c5 => ?_)
  · have hk : ¬ k_rejO σ = 0 := of_decide_eq_false (b2i_0.mp c5)
    have hk1 : k_rejO σ = 1 := by unfold k_rejO at hk ⊢; split at hk <;> simp_all
    refine e_iconst (v := 1) hX iX12_isOtherStaged_12 (by decide) ?_
    refine e_aload_n hX 0 iX12_isOtherStaged_13 rfl rfl ?_
    refine e_get hX iX12_isOtherStaged_14 hm.1 rfl ?_
    rw [hb]
    refine e_callV hX iX12_isOtherStaged_17 hm.1 (n_asks htr hm 1 b) rfl rfl ⟨by decide, by decide, by decide, by decide⟩ (Nat.le_of_ble_eq_true rfl) (fun _ _ h => h.elim) (fun v9 ph9 hv9 => ?_)
    obtain ⟨rfl, e9⟩ := hv9
    subst ph9
    have h2 := hm.told hr kept.refl 1
    exact e_zret hX hQ iX12_isOtherStaged_20 rfl (nar_b _) (by decide) (by decide) ⟨⟨b, by unfold zB; rw [hk1]; rfl, fun h => absurd h hk⟩, by rw [hk1]; exact h2.1, h2.2⟩
  · have hk : k_rejO σ = 0 := of_decide_eq_true (b2i_n0.mp c5)
    refine e_iconst (v := 0) hX iX12_isOtherStaged_8 (by decide) ?_
    refine e_goto hX iX12_isOtherStaged_9 ?_
    refine e_aload_n hX 0 iX12_isOtherStaged_13 rfl rfl ?_
    refine e_get hX iX12_isOtherStaged_14 hm.1 rfl ?_
    rw [(hr.2.1.2 (rejO_ne hr.ok hk)).2.2]
    refine e_callV hX iX12_isOtherStaged_17 hm.1 (n_asks htr hm 0 (gJ σ).2.2.2) rfl rfl ⟨by decide, by decide, by decide, by decide⟩ (Nat.le_of_ble_eq_true rfl) (fun _ _ h => h.elim) (fun v9 ph9 hv9 => ?_)
    obtain ⟨rfl, e9⟩ := hv9
    subst ph9
    have h2 := hm.told hr kept.refl 0
    exact e_zret hX hQ iX12_isOtherStaged_20 rfl (nar_b _) (by decide) (by decide) ⟨⟨(gJ σ).2.2.2, by unfold zB; rw [hk]; rfl, fun _ => rfl⟩, by rw [hk]; exact h2.1, h2.2⟩
theorem w_valueAt (htr : l.stackTraces = false) (hm : MP θ ph mo μ σ t) (id c : Int32) : MC yX12_valueAt cX12_valueAt 4 (some .int) 2 0 0 l θ [.ref mo, .int id, .int c] ph (nP θ ph mo μ σ (k_idc σ id c) (zI (k_idc σ id c) (a_valueAt σ id c))) (fun _ _ => False) := by
  obtain ⟨s, F, hm, hr, rfl⟩ := hm
  have hn := hr.ok.1
  refine MC.of htr (by decide) (Nat.le_of_ble_eq_true rfl) ?_
  intro x hX hQ hT
  refine e_aload_n hX 0 iX12_valueAt_0 rfl rfl ?_
  refine e_iload_n hX 1 iX12_valueAt_1 rfl rfl ?_
  refine e_callV hX iX12_valueAt_2 hm.1 (n_find htr hm hr.1.1 hn id) rfl rfl ⟨by decide, by decide, by decide, by decide⟩ (Nat.le_of_ble_eq_true rfl) (fun _ _ h => h.elim) (fun v9 ph9 hv9 => ?_)
  obtain ⟨rfl, e9⟩ := hv9
  subst ph9
  rw [hr.fnd id]
  by_cases h1 : fnd σ id < gN σ
  · rw [if_pos h1]
    refine e_istore_n hX 3 iX12_valueAt_5 rfl (by decide) ?_
    refine e_iload_n hX 3 iX12_valueAt_6 rfl rfl ?_
    refine e_iconst (v := (-1)) hX iX12_valueAt_7 (by decide) ?_
    refine e_icmp_ne hX iX12_valueAt_8 (fun c8 => ?_) (fun c8 => ?_)
    · refine e_iload_n hX 2 iX12_valueAt_17 rfl rfl ?_
      refine e_callS hX iX12_valueAt_18 (n_isColumn htr c) rfl rfl ⟨by decide, by decide, by decide, by decide⟩ (Nat.le_of_ble_eq_true rfl) (fun _ _ h => h.elim) (fun v9 ph9 hv9 => ?_)
      obtain ⟨rfl, e9⟩ := hv9
      subst ph9
      refine e_if_eq hX iX12_valueAt_21 (fun c21 => ?_) (fun c21 => ?_)
      · have hk : k_idc σ id c = 2 := (if_pos h1).trans (if_neg (by rw [b2i_0.mp c21]; decide))
        refine e_aload_n hX 0 iX12_valueAt_37 rfl rfl ?_
        refine e_iconst (v := 2) hX iX12_valueAt_38 (by decide) ?_
        refine e_callV hX iX12_valueAt_39 hm.1 (n_fails htr hm 2) rfl rfl ⟨by decide, by decide, by decide, by decide⟩ (Nat.le_of_ble_eq_true rfl) (fun _ _ h => h.elim) (fun v9 ph9 hv9 => ?_)
        obtain ⟨rfl, e9⟩ := hv9
        subst ph9
        exact e_iret hX hQ iX12_valueAt_42 rfl (by decide) (by decide) (nP.mk (hm.told hr kept.refl 2) (by rw [hk]; rfl) (by rw [zI_n (by omega)]))
      · have h2 := b2i_n0.mp c21
        obtain ⟨c', hc', rfl⟩ := colB_t.mp h2
        have hk : k_idc σ id (nI c') = 0 := (if_pos h1).trans (if_pos h2)
        refine e_aload_n hX 0 iX12_valueAt_24 rfl rfl ?_
        refine e_aload_n hX 0 iX12_valueAt_25 rfl rfl ?_
        refine e_iload_n hX 3 iX12_valueAt_26 rfl rfl ?_
        refine e_iload_n hX 2 iX12_valueAt_27 rfl rfl ?_
        refine e_callV hX iX12_valueAt_28 hm.1 (n_at htr hm (show fnd σ id < 18 by omega) hc') rfl rfl ⟨by decide, by decide, by decide, by decide⟩ (Nat.le_of_ble_eq_true rfl) (fun _ _ h => h.elim) (fun v9 ph9 hv9 => ?_)
        obtain ⟨rfl, e9⟩ := hv9
        subst ph9
        rw [hr.v h1 c' hc']
        refine e_callV hX iX12_valueAt_31 hm.1 (n_tells htr hm (gV σ (fnd σ id) c')) rfl rfl ⟨by decide, by decide, by decide, by decide⟩ (Nat.le_of_ble_eq_true rfl) (fun _ _ h => h.elim) (fun v9 ph9 hv9 => ?_)
        obtain ⟨rfl, e9⟩ := hv9
        subst ph9
        refine e_goto hX iX12_valueAt_34 ?_
        exact e_iret hX hQ iX12_valueAt_42 rfl (by decide) (by decide) (nP.mk (hm.told hr kept.refl 0) (by rw [hk]; rfl) (by rw [zI_0 hk]; unfold a_valueAt; rw [ix_n (by omega)]))
    · exact absurd c8 (m1_ne _ (by omega))
  · have hk : k_idc σ id c = 1 := if_neg h1
    rw [if_neg h1]
    refine e_istore_n hX 3 iX12_valueAt_5 rfl (by decide) ?_
    refine e_iload_n hX 3 iX12_valueAt_6 rfl rfl ?_
    refine e_iconst (v := (-1)) hX iX12_valueAt_7 (by decide) ?_
    refine e_icmp_ne hX iX12_valueAt_8 (fun c8 => ?_) (fun c8 => ?_)
    · exact absurd rfl c8
    · refine e_aload_n hX 0 iX12_valueAt_11 rfl rfl ?_
      refine e_iconst (v := 1) hX iX12_valueAt_12 (by decide) ?_
      refine e_callV hX iX12_valueAt_13 hm.1 (n_fails htr hm 1) rfl rfl ⟨by decide, by decide, by decide, by decide⟩ (Nat.le_of_ble_eq_true rfl) (fun _ _ h => h.elim) (fun v9 ph9 hv9 => ?_)
      obtain ⟨rfl, e9⟩ := hv9
      subst ph9
      exact e_iret hX hQ iX12_valueAt_16 rfl (by decide) (by decide) (nP.mk (hm.told hr kept.refl 1) (by rw [hk]; rfl) (by rw [zI_n (by omega)]))
theorem w_rowAt (htr : l.stackTraces = false) (hm : MP θ ph mo μ σ t) (q : Int32) : MC yX12_rowAt cX12_rowAt 2 (some .int) 1 0 0 l θ [.ref mo, .int q] ph (nP θ ph mo μ σ (k_at σ q) (zI (k_at σ q) (a_rowAt σ q))) (fun _ _ => False) := by
  obtain ⟨s, F, hm, hr, rfl⟩ := hm
  have hn := hr.ok.1
  have eB : (decide (0 ≤ q) && decide (q ≤ nI (gN σ) - 1)) = (decide (0 ≤ q) && decide (q < nI (gN σ))) := by
    have e1 : (nI (gN σ) - 1).toInt = (gN σ : Int) - 1 := (by decide : ∀ n, n < 13 → (nI n - 1).toInt = (n : Int) - 1) _ (by omega)
    have e2 : (nI (gN σ)).toInt = (gN σ : Int) := nI_toInt (by omega)
    congr 1
    refine decide_eq_decide.mpr ?_
    rw [Int32.le_iff_toInt_le, Int32.lt_iff_toInt_lt, e1, e2]
    omega
  refine MC.of htr (by decide) (Nat.le_of_ble_eq_true rfl) ?_
  intro x hX hQ hT
  refine e_iload_n hX 1 iX12_rowAt_0 rfl rfl ?_
  refine e_iconst (v := 0) hX iX12_rowAt_1 (by decide) ?_
  refine e_aload_n hX 0 iX12_rowAt_2 rfl rfl ?_
  refine e_get hX iX12_rowAt_3 hm.1 rfl ?_
  rw [hr.1.1]
  refine e_iconst (v := 1) hX iX12_rowAt_6 (by decide) ?_
  refine e_isub hX iX12_rowAt_7 ?_
  refine e_callS hX iX12_rowAt_8 (n_in htr q 0 (nI (gN σ) - 1)) rfl rfl ⟨by decide, by decide, by decide, by decide⟩ (Nat.le_of_ble_eq_true rfl) (fun _ _ h => h.elim) (fun v9 ph9 hv9 => ?_)
  obtain ⟨rfl, e9⟩ := hv9
  subst ph9
  rw [eB]
  refine e_if_eq hX iX12_rowAt_11 (fun c11 => ?_) (fun c11 => ?_)
  · have hk : k_at σ q = 1 := if_neg (by rw [b2i_0.mp c11]; decide)
    refine e_aload_n hX 0 iX12_rowAt_27 rfl rfl ?_
    refine e_iconst (v := 1) hX iX12_rowAt_28 (by decide) ?_
    refine e_callV hX iX12_rowAt_29 hm.1 (n_fails htr hm 1) rfl rfl ⟨by decide, by decide, by decide, by decide⟩ (Nat.le_of_ble_eq_true rfl) (fun _ _ h => h.elim) (fun v9 ph9 hv9 => ?_)
    obtain ⟨rfl, e9⟩ := hv9
    subst ph9
    exact e_iret hX hQ iX12_rowAt_32 rfl (by decide) (by decide) (nP.mk (hm.told hr kept.refl 1) (by rw [hk]; rfl) (by rw [zI_n (by omega)]))
  · have h1 := b2i_n0.mp c11
    obtain ⟨i, hi, rfl⟩ := (ltB_t (by omega)).mp h1
    have hk : k_at σ (nI i) = 0 := if_pos h1
    refine e_aload_n hX 0 iX12_rowAt_14 rfl rfl ?_
    refine e_aload_n hX 0 iX12_rowAt_15 rfl rfl ?_
    refine e_get hX iX12_rowAt_16 hm.1 rfl ?_
    refine e_iload_n hX 1 iX12_rowAt_19 rfl rfl ?_
    refine e_iald hX i iX12_rowAt_20 (hm.i 0 (by decide) (by decide)) rfl (by show _ < 12; omega) (by show 12 < _; decide) ?_
    rw [(hr.2.2.1 i hi).1]
    refine e_callV hX iX12_rowAt_21 hm.1 (n_tells htr hm (gI σ i)) rfl rfl ⟨by decide, by decide, by decide, by decide⟩ (Nat.le_of_ble_eq_true rfl) (fun _ _ h => h.elim) (fun v9 ph9 hv9 => ?_)
    obtain ⟨rfl, e9⟩ := hv9
    subst ph9
    refine e_goto hX iX12_rowAt_24 ?_
    exact e_iret hX hQ iX12_rowAt_32 rfl (by decide) (by decide) (nP.mk (hm.told hr kept.refl 0) (by rw [hk]; rfl) (by rw [zI_0 hk]; unfold a_rowAt; rw [ix_n (by omega)]))
theorem w_isBad (htr : l.stackTraces = false) (hm : MP θ ph mo μ σ t) (id : Int32) : MC yX12_isBad cX12_isBad 3 (some .boolean) 3 0 0 l θ [.ref mo, .int id] ph (nP θ ph mo μ σ (k_id σ id) (zB (k_id σ id) (a_isBad σ id))) (fun _ _ => False) := by
  obtain ⟨s, F, hm, hr, rfl⟩ := hm
  have hn := hr.ok.1
  refine MC.of htr (by decide) (Nat.le_of_ble_eq_true rfl) ?_
  intro x hX hQ hT
  refine e_aload_n hX 0 iX12_isBad_0 rfl rfl ?_
  refine e_iload_n hX 1 iX12_isBad_1 rfl rfl ?_
  refine e_callV hX iX12_isBad_2 hm.1 (n_find htr hm hr.1.1 hn id) rfl rfl ⟨by decide, by decide, by decide, by decide⟩ (Nat.le_of_ble_eq_true rfl) (fun _ _ h => h.elim) (fun v9 ph9 hv9 => ?_)
  obtain ⟨rfl, e9⟩ := hv9
  subst ph9
  rw [hr.fnd id]
  by_cases h1 : fnd σ id < gN σ
  · rw [if_pos h1]
    have hk : k_id σ id = 0 := if_pos h1
    have fin : ∀ b, b = a_isBad σ id → EJ θ x 35 [(0, .ref mo), (1, .int id), (2, .int (nI (fnd σ id)))] [.int (b2i b), .int 0, .ref mo] ph 0 0 := by
      intro b hb
      refine e_callV hX iX12_isBad_35 hm.1 (n_asks htr hm 0 b) rfl rfl ⟨by decide, by decide, by decide, by decide⟩ (Nat.le_of_ble_eq_true rfl) (fun _ _ h => h.elim) (fun v9 ph9 hv9 => ?_)
      obtain ⟨rfl, e9⟩ := hv9
      subst ph9
      exact e_zret hX hQ iX12_isBad_38 rfl (nar_b _) (by decide) (by decide) (nP.mk (hm.told hr kept.refl 0) (by rw [hk]; rfl) (by unfold zB; rw [hk, hb]; rfl))
    refine e_istore_n hX 2 iX12_isBad_5 rfl (by decide) ?_
    refine e_aload_n hX 0 iX12_isBad_6 rfl rfl ?_
    refine e_iload_n hX 2 iX12_isBad_7 rfl rfl ?_
    refine e_iconst (v := (-1)) hX iX12_isBad_8 (by decide) ?_
    refine e_icmp_ne hX iX12_isBad_9 (fun c9 => ?_) (fun c9 => ?_)
    · refine e_iconst (v := 0) hX iX12_isBad_16 (by decide) ?_
      refine e_iload_n hX 2 iX12_isBad_17 rfl rfl ?_
      refine e_iconst (v := (-1)) hX iX12_isBad_18 (by decide) ?_
      refine e_icmp_eq hX iX12_isBad_19 (fun c19 => ?_) (fun c19 => ?_)
      · exact absurd c19 (m1_ne _ (by omega))
      · refine e_aload_n hX 0 iX12_isBad_22 rfl rfl ?_
        refine e_iload_n hX 2 iX12_isBad_23 rfl rfl ?_
        refine e_callV hX iX12_isBad_24 hm.1 (n_badRow htr hm hr.1.2.2.2.1 hr.ok.2.2.1 hr.rules (show fnd σ id < 18 by omega)) rfl rfl ⟨by decide, by decide, by decide, by decide⟩ (Nat.le_of_ble_eq_true rfl) (fun _ _ h => h.elim) (fun v9 ph9 hv9 => ?_)
        obtain ⟨rfl, e9⟩ := hv9
        subst ph9
        rw [hr.bad h1]
        refine e_if_eq hX iX12_isBad_27 (fun c27 => ?_) (fun c27 => ?_)
        · refine e_iconst (v := 0) hX iX12_isBad_34 (by decide) ?_
          refine e_loc [0, 1, 2] ?_
          exact fin false (b2i_0.mp c27).symm
        · refine e_iconst (v := 1) hX iX12_isBad_30 (by decide) ?_
          refine e_goto hX iX12_isBad_31 ?_
          refine e_loc [0, 1, 2] ?_
          exact fin true (b2i_n0.mp c27).symm
    · exact absurd c9 (m1_ne _ (by omega))
  · have hk : k_id σ id = 1 := if_neg h1
    rw [if_neg h1]
    refine e_istore_n hX 2 iX12_isBad_5 rfl (by decide) ?_
    refine e_aload_n hX 0 iX12_isBad_6 rfl rfl ?_
    refine e_iload_n hX 2 iX12_isBad_7 rfl rfl ?_
    refine e_iconst (v := (-1)) hX iX12_isBad_8 (by decide) ?_
    refine e_icmp_ne hX iX12_isBad_9 (fun c9 => ?_) (fun c9 => ?_)
    · exact absurd rfl c9
    · refine e_iconst (v := 1) hX iX12_isBad_12 (by decide) ?_
      refine e_goto hX iX12_isBad_13 ?_
      refine e_iload_n hX 2 iX12_isBad_17 rfl rfl ?_
      refine e_iconst (v := (-1)) hX iX12_isBad_18 (by decide) ?_
      refine e_icmp_eq hX iX12_isBad_19 (fun c19 => ?_) (fun c19 => ?_)
      · refine e_iconst (v := 0) hX iX12_isBad_34 (by decide) ?_
        refine e_callV hX iX12_isBad_35 hm.1 (n_asks htr hm 1 false) rfl rfl ⟨by decide, by decide, by decide, by decide⟩ (Nat.le_of_ble_eq_true rfl) (fun _ _ h => h.elim) (fun v9 ph9 hv9 => ?_)
        obtain ⟨rfl, e9⟩ := hv9
        subst ph9
        exact e_zret hX hQ iX12_isBad_38 rfl (nar_b _) (by decide) (by decide) (nP.mk (hm.told hr kept.refl 1) (by rw [hk]; rfl) (by unfold zB; rw [hk]; rfl))
      · exact absurd rfl c19
theorem w_conflict (htr : l.stackTraces = false) (hm : MP θ ph mo μ σ t) (id id2 : Int32) : MC yX12_conflict cX12_conflict 6 (some .boolean) 4 0 0 l θ [.ref mo, .int id, .int id2] ph (nP θ ph mo μ σ (k_conf σ id id2) (zB (k_conf σ id id2) (a_conflict σ id id2))) (fun _ _ => False) := by
  obtain ⟨s, F, hm, hr, rfl⟩ := hm
  have hn := hr.ok.1
  refine MC.of htr (by decide) (Nat.le_of_ble_eq_true rfl) ?_
  intro x hX hQ hT
  have wrong : ∀ (k : Nat) (a b : Int32), k < 3 → ¬ k = 0 → k_conf σ id id2 = k → EJ θ x 38 [(0, .ref mo), (1, .int id), (2, .int id2), (3, .int a), (4, .int b)] [.int (nI k)] ph 0 0 := by
    intro k a b hk3 hk0 hk
    refine e_istore hX iX12_conflict_38 (by decide) ?_
    refine e_aload_n hX 0 iX12_conflict_40 rfl rfl ?_
    refine e_iload hX iX12_conflict_41 rfl ?_
    refine e_iload hX iX12_conflict_43 rfl ?_
    refine e_if_ne hX iX12_conflict_45 (fun c45 => ?_) (fun c45 => ?_)
    · refine e_iconst (v := 0) hX iX12_conflict_62 (by decide) ?_
      refine e_callV hX iX12_conflict_63 hm.1 (n_asks htr hm (nI k) false) rfl rfl ⟨by decide, by decide, by decide, by decide⟩ (Nat.le_of_ble_eq_true rfl) (fun _ _ h => h.elim) (fun v9 ph9 hv9 => ?_)
      obtain ⟨rfl, e9⟩ := hv9
      subst ph9
      exact e_zret hX hQ iX12_conflict_66 rfl (nar_b _) (by decide) (by decide) (nP.mk (hm.told hr kept.refl (nI k)) (by rw [hk]) (by unfold zB; rw [hk, decide_eq_false hk0, Bool.and_false, Bool.false_and]))
    · exact absurd c45 (nI_ne0 (by omega) (by omega))
  refine e_aload_n hX 0 iX12_conflict_0 rfl rfl ?_
  refine e_iload_n hX 1 iX12_conflict_1 rfl rfl ?_
  refine e_callV hX iX12_conflict_2 hm.1 (n_find htr hm hr.1.1 hn id) rfl rfl ⟨by decide, by decide, by decide, by decide⟩ (Nat.le_of_ble_eq_true rfl) (fun _ _ h => h.elim) (fun v9 ph9 hv9 => ?_)
  obtain ⟨rfl, e9⟩ := hv9
  subst ph9
  rw [hr.fnd id]
  refine e_istore_n hX 3 iX12_conflict_5 rfl (by decide) ?_
  refine e_aload_n hX 0 iX12_conflict_6 rfl rfl ?_
  refine e_iload_n hX 2 iX12_conflict_7 rfl rfl ?_
  refine e_callV hX iX12_conflict_8 hm.1 (n_find htr hm hr.1.1 hn id2) rfl rfl ⟨by decide, by decide, by decide, by decide⟩ (Nat.le_of_ble_eq_true rfl) (fun _ _ h => h.elim) (fun v9 ph9 hv9 => ?_)
  obtain ⟨rfl, e9⟩ := hv9
  subst ph9
  rw [hr.fnd id2]
  by_cases h1 : fnd σ id < gN σ
  · rw [if_pos h1]
    by_cases h2 : fnd σ id2 < gN σ
    · rw [if_pos h2]
      refine e_istore hX iX12_conflict_11 (by decide) ?_
      refine e_iload_n hX 3 iX12_conflict_13 rfl rfl ?_
      refine e_iconst (v := (-1)) hX iX12_conflict_14 (by decide) ?_
      refine e_icmp_eq hX iX12_conflict_15 (fun c15 => ?_) (fun c15 => ?_)
      · exact absurd c15 (m1_ne _ (by omega))
      · refine e_iload hX iX12_conflict_18 rfl ?_
        refine e_iconst (v := (-1)) hX iX12_conflict_20 (by decide) ?_
        refine e_icmp_ne hX iX12_conflict_21 (fun c21 => ?_) (fun c21 => ?_)
        · refine e_iload_n hX 1 iX12_conflict_28 rfl rfl ?_
          refine e_iload_n hX 2 iX12_conflict_29 rfl rfl ?_
          refine e_icmp_ne hX iX12_conflict_30 (fun c30 => ?_) (fun c30 => ?_)
          · have hk : k_conf σ id id2 = 0 := ((if_pos h1).trans (if_pos h2)).trans (if_neg c30)
            have fin : ∀ b, b = a_conflict σ id id2 → EJ θ x 63 [(0, .ref mo), (1, .int id), (2, .int id2)] [.int (b2i b), .int 0, .ref mo] ph 0 0 := by
              intro b hb
              refine e_callV hX iX12_conflict_63 hm.1 (n_asks htr hm 0 b) rfl rfl ⟨by decide, by decide, by decide, by decide⟩ (Nat.le_of_ble_eq_true rfl) (fun _ _ h => h.elim) (fun v9 ph9 hv9 => ?_)
              obtain ⟨rfl, e9⟩ := hv9
              subst ph9
              exact e_zret hX hQ iX12_conflict_66 rfl (nar_b _) (by decide) (by decide) (nP.mk (hm.told hr kept.refl 0) (by rw [hk]; rfl) (by unfold zB; rw [hk, hb]; rfl))
            refine e_iconst (v := 0) hX iX12_conflict_37 (by decide) ?_
            refine e_istore hX iX12_conflict_38 (by decide) ?_
            refine e_aload_n hX 0 iX12_conflict_40 rfl rfl ?_
            refine e_iload hX iX12_conflict_41 rfl ?_
            refine e_iload hX iX12_conflict_43 rfl ?_
            refine e_if_ne hX iX12_conflict_45 (fun c45 => ?_) (fun c45 => ?_)
            · exact absurd rfl c45
            · refine e_aload_n hX 0 iX12_conflict_48 rfl rfl ?_
              refine e_iload_n hX 3 iX12_conflict_49 rfl rfl ?_
              refine e_iload hX iX12_conflict_50 rfl ?_
              refine e_callV hX iX12_conflict_52 hm.1 (n_conflicts htr hm hr.1.2.2.2.1 hr.ok.2.2.1 hr.rules (show fnd σ id < 18 by omega) (show fnd σ id2 < 18 by omega)) rfl rfl ⟨by decide, by decide, by decide, by decide⟩ (Nat.le_of_ble_eq_true rfl) (fun _ _ h => h.elim) (fun v9 ph9 hv9 => ?_)
              obtain ⟨rfl, e9⟩ := hv9
              subst ph9
              rw [hr.con h1 h2]
              refine e_if_eq hX iX12_conflict_55 (fun c55 => ?_) (fun c55 => ?_)
              · refine e_iconst (v := 0) hX iX12_conflict_62 (by decide) ?_
                refine e_loc [0, 1, 2] ?_
                exact fin false (b2i_0.mp c55).symm
              · refine e_iconst (v := 1) hX iX12_conflict_58 (by decide) ?_
                refine e_goto hX iX12_conflict_59 ?_
                refine e_loc [0, 1, 2] ?_
                exact fin true (b2i_n0.mp c55).symm
          · refine e_iconst (v := 2) hX iX12_conflict_33 (by decide) ?_
            refine e_goto hX iX12_conflict_34 ?_
            refine e_loc [0, 1, 2, 3, 4] ?_
            exact wrong 2 _ _ (by decide) (by decide) (((if_pos h1).trans (if_pos h2)).trans (if_pos c30))
        · exact absurd c21 (m1_ne _ (by omega))
    · rw [if_neg h2]
      refine e_istore hX iX12_conflict_11 (by decide) ?_
      refine e_iload_n hX 3 iX12_conflict_13 rfl rfl ?_
      refine e_iconst (v := (-1)) hX iX12_conflict_14 (by decide) ?_
      refine e_icmp_eq hX iX12_conflict_15 (fun c15 => ?_) (fun c15 => ?_)
      · exact absurd c15 (m1_ne _ (by omega))
      · refine e_iload hX iX12_conflict_18 rfl ?_
        refine e_iconst (v := (-1)) hX iX12_conflict_20 (by decide) ?_
        refine e_icmp_ne hX iX12_conflict_21 (fun c21 => ?_) (fun c21 => ?_)
        · exact absurd rfl c21
        · refine e_iconst (v := 1) hX iX12_conflict_24 (by decide) ?_
          refine e_goto hX iX12_conflict_25 ?_
          refine e_loc [0, 1, 2, 3, 4] ?_
          exact wrong 1 _ _ (by decide) (by decide) ((if_pos h1).trans (if_neg h2))
  · rw [if_neg h1]
    refine e_istore hX iX12_conflict_11 (by decide) ?_
    refine e_iload_n hX 3 iX12_conflict_13 rfl rfl ?_
    refine e_iconst (v := (-1)) hX iX12_conflict_14 (by decide) ?_
    refine e_icmp_eq hX iX12_conflict_15 (fun c15 => ?_) (fun c15 => ?_)
    · refine e_iconst (v := 1) hX iX12_conflict_24 (by decide) ?_
      refine e_goto hX iX12_conflict_25 ?_
      refine e_loc [0, 1, 2, 3, 4] ?_
      exact wrong 1 _ _ (by decide) (by decide) (if_neg h1)
    · exact absurd rfl c15
theorem w_setFactor (htr : l.stackTraces = false) (hm : MP θ ph mo μ σ t) (f : Int32) : MC yX12_setFactor cX12_setFactor 3 (some .int) 1 0 0 l θ [.ref mo, .int f] ph (nP θ ph mo μ (if k_fac f = 0 then s_fac σ f else σ) (k_fac f) (zI (k_fac f) (gF σ))) (fun _ _ => False) := by
  obtain ⟨s, F, hm, hr, rfl⟩ := hm
  refine MC.of htr (by decide) (Nat.le_of_ble_eq_true rfl) ?_
  intro x hX hQ hT
  refine e_iload_n hX 1 iX12_setFactor_0 rfl rfl ?_
  refine e_iconst (v := 1) hX iX12_setFactor_1 (by decide) ?_
  refine e_bipush (v := 9) hX iX12_setFactor_2 (by decide) ?_
  refine e_callS hX iX12_setFactor_4 (n_in htr f 1 9) rfl rfl ⟨by decide, by decide, by decide, by decide⟩ (Nat.le_of_ble_eq_true rfl) (fun _ _ h => h.elim) (fun v9 ph9 hv9 => ?_)
  obtain ⟨rfl, e9⟩ := hv9
  subst ph9
  refine e_if_ne hX iX12_setFactor_7 (fun c7 => ?_) (fun c7 => ?_)
  · have h0 := b2i_n0.mp c7
    have hk : k_fac f = 0 := if_pos h0
    refine e_aload_n hX 0 iX12_setFactor_16 rfl rfl ?_
    refine e_get hX iX12_setFactor_17 hm.1 rfl ?_
    rw [hr.1.2.2.2.2.1]
    refine e_istore_n hX 2 iX12_setFactor_20 rfl (by decide) ?_
    refine e_aload_n hX 0 iX12_setFactor_21 rfl rfl ?_
    refine e_iload_n hX 1 iX12_setFactor_22 rfl rfl ?_
    refine e_put (fs' := _) hX iX12_setFactor_23 hm.1 rfl (Nat.le_of_ble_eq_true rfl) rfl rfl ?_
    have hm2 : MI θ (e_up ph mo (mobj μ (upd s 22 f))) mo μ (upd s 22 f) F := hm.fld _
    have hr2 : MR (s_fac σ f) (upd s 22 f) F := ⟨⟨hr.1.1, hr.1.2.1, hr.1.2.2.1, hr.1.2.2.2.1, rfl, hr.1.2.2.2.2.2⟩, hr.2⟩
    refine e_aload_n hX 0 iX12_setFactor_26 rfl rfl ?_
    refine e_iload_n hX 2 iX12_setFactor_27 rfl rfl ?_
    refine e_callV hX iX12_setFactor_28 hm2.1 (n_tells htr hm2 (gF σ)) rfl rfl ⟨by decide, by decide, by decide, by decide⟩ (Nat.le_of_ble_eq_true rfl) (fun _ _ h => h.elim) (fun v9 ph9 hv9 => ?_)
    obtain ⟨rfl, e9⟩ := hv9
    subst ph9
    exact e_iret hX hQ iX12_setFactor_31 rfl (by decide) (by decide) (by rw [if_pos hk]; exact nP.mk (hm2.told hr2 (mS.fld kept.refl) 0) (by rw [hk]; rfl) (by rw [zI_0 hk]))
  · have hk : k_fac f = 1 := if_neg (by rw [b2i_0.mp c7]; decide)
    refine e_aload_n hX 0 iX12_setFactor_10 rfl rfl ?_
    refine e_iconst (v := 1) hX iX12_setFactor_11 (by decide) ?_
    refine e_callV hX iX12_setFactor_12 hm.1 (n_fails htr hm 1) rfl rfl ⟨by decide, by decide, by decide, by decide⟩ (Nat.le_of_ble_eq_true rfl) (fun _ _ h => h.elim) (fun v9 ph9 hv9 => ?_)
    obtain ⟨rfl, e9⟩ := hv9
    subst ph9
    exact e_iret hX hQ iX12_setFactor_15 rfl (by decide) (by decide) (by rw [if_neg (show ¬ k_fac f = 0 by omega)]; exact nP.mk (hm.told hr kept.refl 1) (by rw [hk]; rfl) (by rw [zI_n (by omega)]))
end MOC
