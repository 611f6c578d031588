def k_med (σ : SG) (c : Int32) : Nat := if colB c = true then (if prsN σ (ix c) = 0 then 2 else 0) else 1
def a_out (σ : SG) (i c : Nat) : Bool := pres (gV σ i c) && decide (sprN σ c (medN σ c) * gF σ < dist (gV σ i c) (medN σ c))
def k_drift (σ : SG) (c : Int32) : Nat := if colB c = true then (if gP σ = 0 then 2 else if gN σ = 0 then 3 else 0) else 1
def k_most (σ : SG) : Nat := if gP σ = 0 then 1 else if gN σ = 0 then 2 else 0
def mstG (d : Nat → Int32) : Nat → Nat × Int32
  | 0 => (0, -1)
  | c + 1 => if (mstG d c).2 < d c then (c, d c) else mstG d c
theorem okV_nat {x : Int32} (h : okV x) : ∃ k, k ≤ 200 ∧ x = nI k - 100 := by
  rcases h with ⟨h1, h2⟩ | h
  · have a1 : x + 100 - 100 = x := Int32.add_sub_cancel x 100
    rcases pk_ix (x + 100) (n := 201) (by decide) with c | c | c
    · exfalso
      rw [Int32.le_iff_toInt_le] at h1 h2
      rw [Int32.lt_iff_toInt_lt, Int32.toInt_add] at c
      have e1 : (-99 : Int32).toInt = -99 := by decide
      have e2 : (99 : Int32).toInt = 99 := by decide
      have e3 : (100 : Int32).toInt = 100 := by decide
      have e4 : (0 : Int32).toInt = 0 := by decide
      rw [e1] at h1
      rw [e2] at h2
      rw [e3, e4] at c
      have : (x.toInt + 100).bmod (2 ^ 32) = x.toInt + 100 := Int.bmod_eq_of_le (by omega) (by omega)
      omega
    · exfalso
      rw [Int32.le_iff_toInt_le] at h1 h2 c
      rw [Int32.toInt_add] at c
      have e1 : (-99 : Int32).toInt = -99 := by decide
      have e2 : (99 : Int32).toInt = 99 := by decide
      have e3 : (100 : Int32).toInt = 100 := by decide
      have e4 : (nI 201).toInt = 201 := by decide
      rw [e1] at h1
      rw [e2] at h2
      rw [e3, e4] at c
      have : (x.toInt + 100).bmod (2 ^ 32) = x.toInt + 100 := Int.bmod_eq_of_le (by omega) (by omega)
      omega
    · obtain ⟨k, hk, e⟩ := c
      exact ⟨k, by omega, by rw [← e, a1]⟩
  · exact ⟨200, by omega, by rw [h]; decide⟩
section GPU
variable {l : Launch} {θ : e_T} {ph : e_PH} {g : Nat} {X : Nat → Prop} {σ : SG}
theorem m_medianOf (htr : l.stackTraces = false) (hg : GP θ ph g X σ) (c : Int32) : MC yX11_medianOf cX11_medianOf 2 (some .int) 4 1 6 l θ [.ref g, .int c] ph (oP θ ph g X (k_med σ c) (some (.int (medN σ (ix c)))) σ) (oX θ ph g X (k_med σ c) [xB, xN] σ) := by
  obtain ⟨κ, te, be, ue, r, wr, b, wb, u, hg⟩ := hg
  have hn := hg.2.2.2.2.2.2.2.2.1.1
  refine MC.of htr (by decide) (Nat.le_of_ble_eq_true rfl) ?_
  intro x hX hQ hT
  refine e_iload_n hX 1 iX11_medianOf_0 rfl rfl ?_
  by_cases h2 : colB c = true
  · obtain ⟨c', hc', rfl⟩ := colB_t.mp h2
    have hix : ix (nI c') = c' := ix_n (by omega)
    have hp : prsN σ c' ≤ gN σ := cntB_le _ _
    refine e_callS hX iX11_medianOf_1 (c_needCol0 htr hc') rfl rfl ⟨by decide, by decide, by decide, by decide⟩ (Nat.le_of_ble_eq_true rfl) (fun _ _ h => h.elim) (fun v9 ph9 hv9 => ?_)
    obtain ⟨rfl, e9⟩ := hv9
    subst ph9
    refine e_aload_n hX 0 iX11_medianOf_4 rfl rfl ?_
    refine e_iload_n hX 1 iX11_medianOf_5 rfl rfl ?_
    refine e_callV hX iX11_medianOf_6 hg.1 (c_present htr hg hc') rfl rfl ⟨by decide, by decide, by decide, by decide⟩ (Nat.le_of_ble_eq_true rfl) (fun _ _ h => h.elim) (fun v9 ph9 hv9 => ?_)
    obtain ⟨rfl, e9⟩ := hv9
    subst ph9
    refine e_if_ne hX iX11_medianOf_9 (fun c9 => ?_) (fun c9 => ?_)
    · have h0 : ¬ prsN σ (ix (nI c')) = 0 := fun e => c9 (by rw [hix] at e; rw [e]; rfl)
      refine e_aload_n hX 0 iX11_medianOf_23 rfl rfl ?_
      refine e_iload_n hX 1 iX11_medianOf_24 rfl rfl ?_
      refine e_callV hX iX11_medianOf_25 hg.1 (c_median htr hg hc') rfl rfl ⟨by decide, by decide, by decide, by decide⟩ (Nat.le_of_ble_eq_true rfl) (fun _ _ h => h.elim) (fun v9 ph9 hv9 => ?_)
      obtain ⟨rfl, hg2, hx⟩ := hv9
      exact e_iret hX hQ iX11_medianOf_28 rfl (by decide) (by decide) (hg2.oP hx ((if_pos h2).trans (if_neg h0)) (by rw [hix]))
    · have h0 : prsN σ (ix (nI c')) = 0 := by
        rw [hix]
        rcases Nat.eq_zero_or_pos (prsN σ c') with e | e
        · exact e
        · exact absurd c9 (nI_ne0 e (by omega))
      exact e_throwNW hX iX11_medianOf_12 ⟨by decide, Nat.le_of_ble_eq_true rfl, by decide, by decide⟩ (e_out hX hQ hT (by decide) (by decide) (hg.oX 1 ((if_pos h2).trans (if_pos h0)) rfl))
  · refine e_callS hX iX11_medianOf_1 (c_needColX htr (colB_f h2)) rfl rfl ⟨by decide, by decide, by decide, by decide⟩ (Nat.le_of_ble_eq_true rfl) (fun E9 ph9 hv9 => ?_) (fun _ _ h => h.elim)
    obtain ⟨rfl, e9⟩ := hv9
    subst ph9
    exact e_out hX hQ hT (by decide) (by decide) (hg.oX 0 (if_neg h2) rfl)
theorem m_spreadOf (htr : l.stackTraces = false) (hg : GP θ ph g X σ) (c : Int32) : MC yX11_spreadOf cX11_spreadOf 2 (some .int) 4 1 6 l θ [.ref g, .int c] ph (oP θ ph g X (k_med σ c) (some (.int (sprN σ (ix c) (medN σ (ix c))))) σ) (oX θ ph g X (k_med σ c) [xB, xN] σ) := by
  obtain ⟨κ, te, be, ue, r, wr, b, wb, u, hg⟩ := hg
  have hn := hg.2.2.2.2.2.2.2.2.1.1
  refine MC.of htr (by decide) (Nat.le_of_ble_eq_true rfl) ?_
  intro x hX hQ hT
  refine e_iload_n hX 1 iX11_spreadOf_0 rfl rfl ?_
  by_cases h2 : colB c = true
  · obtain ⟨c', hc', rfl⟩ := colB_t.mp h2
    have hix : ix (nI c') = c' := ix_n (by omega)
    have hp : prsN σ c' ≤ gN σ := cntB_le _ _
    refine e_callS hX iX11_spreadOf_1 (c_needCol0 htr hc') rfl rfl ⟨by decide, by decide, by decide, by decide⟩ (Nat.le_of_ble_eq_true rfl) (fun _ _ h => h.elim) (fun v9 ph9 hv9 => ?_)
    obtain ⟨rfl, e9⟩ := hv9
    subst ph9
    refine e_aload_n hX 0 iX11_spreadOf_4 rfl rfl ?_
    refine e_iload_n hX 1 iX11_spreadOf_5 rfl rfl ?_
    refine e_callV hX iX11_spreadOf_6 hg.1 (c_present htr hg hc') rfl rfl ⟨by decide, by decide, by decide, by decide⟩ (Nat.le_of_ble_eq_true rfl) (fun _ _ h => h.elim) (fun v9 ph9 hv9 => ?_)
    obtain ⟨rfl, e9⟩ := hv9
    subst ph9
    refine e_if_ne hX iX11_spreadOf_9 (fun c9 => ?_) (fun c9 => ?_)
    · have h0 : ¬ prsN σ (ix (nI c')) = 0 := fun e => c9 (by rw [hix] at e; rw [e]; rfl)
      refine e_aload_n hX 0 iX11_spreadOf_23 rfl rfl ?_
      refine e_iload_n hX 1 iX11_spreadOf_24 rfl rfl ?_
      refine e_aload_n hX 0 iX11_spreadOf_25 rfl rfl ?_
      refine e_iload_n hX 1 iX11_spreadOf_26 rfl rfl ?_
      refine e_callV hX iX11_spreadOf_27 hg.1 (c_median htr hg hc') rfl rfl ⟨by decide, by decide, by decide, by decide⟩ (Nat.le_of_ble_eq_true rfl) (fun _ _ h => h.elim) (fun v9 ph9 hv9 => ?_)
      obtain ⟨rfl, hg2, hx⟩ := hv9
      refine e_callV hX iX11_spreadOf_30 hg2.1 (c_spread htr hg2 hc' (medN σ c')) rfl rfl ⟨by decide, by decide, by decide, by decide⟩ (Nat.le_of_ble_eq_true rfl) (fun _ _ h => h.elim) (fun v8 ph8 hv8 => ?_)
      obtain ⟨rfl, hg3, hx3⟩ := hv8
      exact e_iret hX hQ iX11_spreadOf_33 rfl (by decide) (by decide) (hg3.oP (hx.trans hx3) ((if_pos h2).trans (if_neg h0)) (by rw [hix]))
    · have h0 : prsN σ (ix (nI c')) = 0 := by
        rw [hix]
        rcases Nat.eq_zero_or_pos (prsN σ c') with e | e
        · exact e
        · exact absurd c9 (nI_ne0 e (by omega))
      exact e_throwNW hX iX11_spreadOf_12 ⟨by decide, Nat.le_of_ble_eq_true rfl, by decide, by decide⟩ (e_out hX hQ hT (by decide) (by decide) (hg.oX 1 ((if_pos h2).trans (if_pos h0)) rfl))
  · refine e_callS hX iX11_spreadOf_1 (c_needColX htr (colB_f h2)) rfl rfl ⟨by decide, by decide, by decide, by decide⟩ (Nat.le_of_ble_eq_true rfl) (fun E9 ph9 hv9 => ?_) (fun _ _ h => h.elim)
    obtain ⟨rfl, e9⟩ := hv9
    subst ph9
    exact e_out hX hQ hT (by decide) (by decide) (hg.oX 0 (if_neg h2) rfl)
theorem m_isOutlier (htr : l.stackTraces = false) (hg : GP θ ph g X σ) (id c : Int32) : MC yX11_isOutlier cX11_isOutlier 5 (some .boolean) 5 1 6 l θ [.ref g, .int id, .int c] ph (oP θ ph g X (k_idc σ id c) (some (.int (b2i (a_out σ (fnd σ id) (ix c))))) σ) (oX θ ph g X (k_idc σ id c) [xN, xB] σ) := by
  obtain ⟨κ, te, be, ue, r, wr, b, wb, u, hg⟩ := hg
  refine MC.of htr (by decide) (Nat.le_of_ble_eq_true rfl) ?_
  intro x hX hQ hT
  refine e_aload_n hX 0 iX11_isOutlier_0 rfl rfl ?_
  refine e_iload_n hX 1 iX11_isOutlier_1 rfl rfl ?_
  by_cases h1 : fnd σ id < gN σ
  · refine e_callV hX iX11_isOutlier_2 hg.1 (c_row0 htr hg h1) rfl rfl ⟨by decide, by decide, by decide, by decide⟩ (Nat.le_of_ble_eq_true rfl) (fun _ _ h => h.elim) (fun v9 ph9 hv9 => ?_)
    obtain ⟨rfl, e9⟩ := hv9
    subst ph9
    refine e_astore_n hX 3 iX11_isOutlier_5 rfl (by decide) ?_
    refine e_iload_n hX 2 iX11_isOutlier_6 rfl rfl ?_
    by_cases h2 : colB c = true
    · obtain ⟨c', hc', rfl⟩ := colB_t.mp h2
      have hix : ix (nI c') = c' := ix_n (by omega)
      refine e_callS hX iX11_isOutlier_7 (c_needCol0 htr hc') rfl rfl ⟨by decide, by decide, by decide, by decide⟩ (Nat.le_of_ble_eq_true rfl) (fun _ _ h => h.elim) (fun v9 ph9 hv9 => ?_)
      obtain ⟨rfl, e9⟩ := hv9
      subst ph9
      refine e_aload_n hX 0 iX11_isOutlier_10 rfl rfl ?_
      refine e_iload_n hX 2 iX11_isOutlier_11 rfl rfl ?_
      refine e_callV hX iX11_isOutlier_12 hg.1 (c_median htr hg hc') rfl rfl ⟨by decide, by decide, by decide, by decide⟩ (Nat.le_of_ble_eq_true rfl) (fun _ _ h => h.elim) (fun v9 ph9 hv9 => ?_)
      obtain ⟨rfl, hg2, hx⟩ := hv9
      refine e_istore hX iX11_isOutlier_15 (by decide) ?_
      refine e_aload_n hX 3 iX11_isOutlier_17 rfl rfl ?_
      refine e_iload_n hX 2 iX11_isOutlier_18 rfl rfl ?_
      refine e_iload hX iX11_isOutlier_19 rfl ?_
      refine e_aload_n hX 0 iX11_isOutlier_21 rfl rfl ?_
      refine e_iload_n hX 2 iX11_isOutlier_22 rfl rfl ?_
      refine e_iload hX iX11_isOutlier_23 rfl ?_
      refine e_callV hX iX11_isOutlier_25 hg2.1 (c_spread htr hg2 hc' (medN σ c')) rfl rfl ⟨by decide, by decide, by decide, by decide⟩ (Nat.le_of_ble_eq_true rfl) (fun _ _ h => h.elim) (fun v8 ph8 hv8 => ?_)
      obtain ⟨rfl, hg3, hx3⟩ := hv8
      refine e_aload_n hX 0 iX11_isOutlier_28 rfl rfl ?_
      refine e_get hX iX11_isOutlier_29 hg3.1 rfl ?_
      refine e_imul hX iX11_isOutlier_32 ?_
      refine e_callS hX iX11_isOutlier_33 (c_isFar htr (hg3.2.1.2 _ h1) hc' (medN σ c') (sprN σ c' (medN σ c') * gF σ)) rfl rfl ⟨by decide, by decide, by decide, by decide⟩ (Nat.le_of_ble_eq_true rfl) (fun _ _ h => h.elim) (fun v9 ph9 hv9 => ?_)
      obtain ⟨rfl, e9⟩ := hv9
      subst ph9
      exact e_zret hX hQ iX11_isOutlier_36 rfl (nar_b _) (by decide) (by decide) (hg3.oP (hx.trans hx3) ((if_pos h1).trans (if_pos h2)) (by rw [hix]; rfl))
    · refine e_callS hX iX11_isOutlier_7 (c_needColX htr (colB_f h2)) rfl rfl ⟨by decide, by decide, by decide, by decide⟩ (Nat.le_of_ble_eq_true rfl) (fun E9 ph9 hv9 => ?_) (fun _ _ h => h.elim)
      obtain ⟨rfl, e9⟩ := hv9
      subst ph9
      exact e_out hX hQ hT (by decide) (by decide) (hg.oX 1 ((if_pos h1).trans (if_neg h2)) rfl)
  · refine e_callV hX iX11_isOutlier_2 hg.1 (c_rowX htr hg h1) rfl rfl ⟨by decide, by decide, by decide, by decide⟩ (Nat.le_of_ble_eq_true rfl) (fun E9 ph9 hv9 => ?_) (fun _ _ h => h.elim)
    obtain ⟨rfl, e9⟩ := hv9
    subst ph9
    exact e_out hX hQ hT (by decide) (by decide) (hg.oX 0 (if_neg h1) rfl)
theorem m_outliers (htr : l.stackTraces = false) (hg : GP θ ph g X σ) (c : Int32) : MC yX11_outliers cX11_outliers 6 (some .int) 4 1 6 l θ [.ref g, .int c] ph (oP θ ph g X (k_col c) (some (.int (nI (cntB (gN σ) (fun i => a_out σ i (ix c)))))) σ) (oX θ ph g X (k_col c) [xB] σ) := by
  obtain ⟨κ, te, be, ue, r, wr, b, wb, u, hg⟩ := hg
  have hn := hg.2.2.2.2.2.2.2.2.1.1
  refine MC.of htr (by decide) (Nat.le_of_ble_eq_true rfl) ?_
  intro x hX hQ hT
  refine e_iload_n hX 1 iX11_outliers_0 rfl rfl ?_
  by_cases h2 : colB c = true
  · obtain ⟨c', hc', rfl⟩ := colB_t.mp h2
    have hix : ix (nI c') = c' := ix_n (by omega)
    refine e_callS hX iX11_outliers_1 (c_needCol0 htr hc') rfl rfl ⟨by decide, by decide, by decide, by decide⟩ (Nat.le_of_ble_eq_true rfl) (fun _ _ h => h.elim) (fun v9 ph9 hv9 => ?_)
    obtain ⟨rfl, e9⟩ := hv9
    subst ph9
    refine e_aload_n hX 0 iX11_outliers_4 rfl rfl ?_
    refine e_iload_n hX 1 iX11_outliers_5 rfl rfl ?_
    refine e_callV hX iX11_outliers_6 hg.1 (c_median htr hg hc') rfl rfl ⟨by decide, by decide, by decide, by decide⟩ (Nat.le_of_ble_eq_true rfl) (fun _ _ h => h.elim) (fun v9 ph9 hv9 => ?_)
    obtain ⟨rfl, hg2, hx⟩ := hv9
    refine e_istore_n hX 2 iX11_outliers_9 rfl (by decide) ?_
    refine e_aload_n hX 0 iX11_outliers_10 rfl rfl ?_
    refine e_iload_n hX 1 iX11_outliers_11 rfl rfl ?_
    refine e_iload_n hX 2 iX11_outliers_12 rfl rfl ?_
    refine e_callV hX iX11_outliers_13 hg2.1 (c_spread htr hg2 hc' (medN σ c')) rfl rfl ⟨by decide, by decide, by decide, by decide⟩ (Nat.le_of_ble_eq_true rfl) (fun _ _ h => h.elim) (fun v8 ph8 hv8 => ?_)
    obtain ⟨rfl, hg3, hx3⟩ := hv8
    refine e_aload_n hX 0 iX11_outliers_16 rfl rfl ?_
    refine e_get hX iX11_outliers_17 hg3.1 rfl ?_
    refine e_imul hX iX11_outliers_20 ?_
    refine e_istore_n hX 3 iX11_outliers_21 rfl (by decide) ?_
    refine e_iconst (v := 0) hX iX11_outliers_22 (by decide) ?_
    refine e_istore hX iX11_outliers_23 (by decide) ?_
    refine e_iconst (v := 0) hX iX11_outliers_25 (by decide) ?_
    refine e_istore hX iX11_outliers_26 (by decide) ?_
    let P : Nat → Bool := fun i => a_out σ i c'
    have loop : ∀ (q i : Nat), gN σ - i < q → i ≤ gN σ → EJ θ x 28 [(0, .ref g), (1, .int (nI c')), (2, .int (medN σ c')), (3, .int (sprN σ c' (medN σ c') * gF σ)), (4, .int (nI (cntB i P))), (5, .int (nI i))] [] ph8 0 0 := by
      intro q
      induction q with
      | zero => intro i hg; omega
      | succ q ih =>
        intro i hq hi
        have next : ∀ y, cntB (i + 1) P = y → i < gN σ → EJ θ x 64 [(0, .ref g), (1, .int (nI c')), (2, .int (medN σ c')), (3, .int (sprN σ c' (medN σ c') * gF σ)), (4, .int (nI y)), (5, .int (nI i))] [] ph8 0 0 := by
          intro y hy hin
          refine e_iinc hX iX11_outliers_64 rfl (by first | exact nI_inc _ | rfl) (by decide) ?_
          refine e_goto hX iX11_outliers_67 ?_
          refine e_loc [0, 1, 2, 3, 4, 5] ?_
          have := ih (i + 1) (by omega) (by omega)
          rw [hy] at this
          exact this
        refine e_iload hX iX11_outliers_28 rfl ?_
        refine e_aload_n hX 0 iX11_outliers_30 rfl rfl ?_
        refine e_get hX iX11_outliers_31 hg3.1 rfl ?_
        refine e_callV hX iX11_outliers_34 (lst.hp hg3.2.1.1) (c_size htr hg3.2.1.1) rfl rfl ⟨by decide, by decide, by decide, by decide⟩ (Nat.le_of_ble_eq_true rfl) (fun _ _ h => h.elim) (fun v9 ph9 hv9 => ?_)
        obtain ⟨rfl, e9⟩ := hv9
        subst ph9
        refine e_icmp_ge hX iX11_outliers_37 (fun c37 => ?_) (fun c37 => ?_)
        · have hin := nI_same hi (by omega) c37
          refine e_iload hX iX11_outliers_70 rfl ?_
          exact e_iret hX hQ iX11_outliers_72 rfl (by decide) (by decide) (hg3.oP (hx.trans hx3) (if_pos h2) (by rw [hix, ← hin]))
        · have hin := nI_less hi (by omega) c37
          refine e_aload_n hX 0 iX11_outliers_40 rfl rfl ?_
          refine e_get hX iX11_outliers_41 hg3.1 rfl ?_
          refine e_iload hX iX11_outliers_44 rfl ?_
          refine e_callV hX iX11_outliers_46 (lst.hp hg3.2.1.1) (c_lget (i := i) htr hg3.2.1.1 hin) rfl rfl ⟨by decide, by decide, by decide, by decide⟩ (Nat.le_of_ble_eq_true rfl) (fun _ _ h => h.elim) (fun v9 ph9 hv9 => ?_)
          obtain ⟨rfl, e9⟩ := hv9
          subst ph9
          refine e_castS hX iX11_outliers_49 klRX11_79 (rowAt.hp (hg3.2.1.2 i hin)) rfl ?_
          refine e_iload_n hX 1 iX11_outliers_52 rfl rfl ?_
          refine e_iload_n hX 2 iX11_outliers_53 rfl rfl ?_
          refine e_iload_n hX 3 iX11_outliers_54 rfl rfl ?_
          refine e_callS hX iX11_outliers_55 (c_isFar htr (hg3.2.1.2 i hin) hc' (medN σ c') (sprN σ c' (medN σ c') * gF σ)) rfl rfl ⟨by decide, by decide, by decide, by decide⟩ (Nat.le_of_ble_eq_true rfl) (fun _ _ h => h.elim) (fun v9 ph9 hv9 => ?_)
          obtain ⟨rfl, e9⟩ := hv9
          subst ph9
          refine e_if_eq hX iX11_outliers_58 (fun c58 => ?_) (fun c58 => ?_)
          · refine e_loc [0, 1, 2, 3, 4, 5] ?_
            exact next _ (cntB_s0 (b2i_0.mp c58)) hin
          · refine e_iinc hX iX11_outliers_61 rfl (by first | exact nI_inc _ | rfl) (by decide) ?_
            refine e_loc [0, 1, 2, 3, 4, 5] ?_
            exact next _ (cntB_s1 (b2i_n0.mp c58)) hin
    refine e_loc [0, 1, 2, 3, 4, 5] ?_
    exact loop (gN σ + 1) 0 (by omega) (by omega)
  · refine e_callS hX iX11_outliers_1 (c_needColX htr (colB_f h2)) rfl rfl ⟨by decide, by decide, by decide, by decide⟩ (Nat.le_of_ble_eq_true rfl) (fun E9 ph9 hv9 => ?_) (fun _ _ h => h.elim)
    obtain ⟨rfl, e9⟩ := hv9
    subst ph9
    exact e_out hX hQ hT (by decide) (by decide) (hg.oX 0 (if_neg h2) rfl)
theorem m_drift (htr : l.stackTraces = false) (hg : GP θ ph g X σ) (c : Int32) : MC yX11_drift cX11_drift 2 (some .int) 5 1 6 l θ [.ref g, .int c] ph (oP θ ph g X (k_drift σ c) (some (.int (drfN σ (ix c)))) σ) (oX θ ph g X (k_drift σ c) [xB, xN, xS] σ) := by
  obtain ⟨κ, te, be, ue, r, wr, b, wb, u, hg⟩ := hg
  refine MC.of htr (by decide) (Nat.le_of_ble_eq_true rfl) ?_
  intro x hX hQ hT
  refine e_iload_n hX 1 iX11_drift_0 rfl rfl ?_
  by_cases h2 : colB c = true
  · obtain ⟨c', hc', rfl⟩ := colB_t.mp h2
    have hix : ix (nI c') = c' := ix_n (by omega)
    refine e_callS hX iX11_drift_1 (c_needCol0 htr hc') rfl rfl ⟨by decide, by decide, by decide, by decide⟩ (Nat.le_of_ble_eq_true rfl) (fun _ _ h => h.elim) (fun v9 ph9 hv9 => ?_)
    obtain ⟨rfl, e9⟩ := hv9
    subst ph9
    refine e_aload_n hX 0 iX11_drift_4 rfl rfl ?_
    by_cases hP : gP σ = 0
    · refine e_callV hX iX11_drift_5 hg.1 (c_needProfX htr hg (Or.inl hP)) rfl rfl ⟨by decide, by decide, by decide, by decide⟩ (Nat.le_of_ble_eq_true rfl) (fun E9 ph9 hv9 => ?_) (fun _ _ h => h.elim)
      obtain ⟨rfl, e9⟩ := hv9
      subst ph9
      exact e_out hX hQ hT (by decide) (by decide) (hg.oX 1 ((if_pos h2).trans (if_pos hP)) (by rw [if_pos hP]; rfl))
    · by_cases hN : gN σ = 0
      · refine e_callV hX iX11_drift_5 hg.1 (c_needProfX htr hg (Or.inr hN)) rfl rfl ⟨by decide, by decide, by decide, by decide⟩ (Nat.le_of_ble_eq_true rfl) (fun E9 ph9 hv9 => ?_) (fun _ _ h => h.elim)
        obtain ⟨rfl, e9⟩ := hv9
        subst ph9
        exact e_out hX hQ hT (by decide) (by decide) (hg.oX 2 (((if_pos h2).trans (if_neg hP)).trans (if_pos hN)) (by rw [if_neg hP]; rfl))
      · refine e_callV hX iX11_drift_5 hg.1 (c_needProf0 htr hg hP hN) rfl rfl ⟨by decide, by decide, by decide, by decide⟩ (Nat.le_of_ble_eq_true rfl) (fun _ _ h => h.elim) (fun v9 ph9 hv9 => ?_)
        obtain ⟨rfl, e9⟩ := hv9
        subst ph9
        refine e_aload_n hX 0 iX11_drift_8 rfl rfl ?_
        refine e_iload_n hX 1 iX11_drift_9 rfl rfl ?_
        refine e_callV hX iX11_drift_10 hg.1 (c_drift htr hg hc' hN hP) rfl rfl ⟨by decide, by decide, by decide, by decide⟩ (Nat.le_of_ble_eq_true rfl) (fun _ _ h => h.elim) (fun v9 ph9 hv9 => ?_)
        obtain ⟨rfl, e9⟩ := hv9
        subst ph9
        exact e_iret hX hQ iX11_drift_13 rfl (by decide) (by decide) (hg.oP kx.refl (((if_pos h2).trans (if_neg hP)).trans (if_neg hN)) (by rw [hix]))
  · refine e_callS hX iX11_drift_1 (c_needColX htr (colB_f h2)) rfl rfl ⟨by decide, by decide, by decide, by decide⟩ (Nat.le_of_ble_eq_true rfl) (fun E9 ph9 hv9 => ?_) (fun _ _ h => h.elim)
    obtain ⟨rfl, e9⟩ := hv9
    subst ph9
    exact e_out hX hQ hT (by decide) (by decide) (hg.oX 0 (if_neg h2) rfl)
theorem m_mostDrifted (htr : l.stackTraces = false) (hg : GP θ ph g X σ) : MC yX11_mostDrifted cX11_mostDrifted 5 (some .int) 5 1 6 l θ [.ref g] ph (oP θ ph g X (k_most σ) (some (.int (nI (mstG (drfN σ) 5).1))) σ) (oX θ ph g X (k_most σ) [xN, xS] σ) := by
  obtain ⟨κ, te, be, ue, r, wr, b, wb, u, hg⟩ := hg
  refine MC.of htr (by decide) (Nat.le_of_ble_eq_true rfl) ?_
  intro x hX hQ hT
  refine e_aload_n hX 0 iX11_mostDrifted_0 rfl rfl ?_
  by_cases hP : gP σ = 0
  · refine e_callV hX iX11_mostDrifted_1 hg.1 (c_needProfX htr hg (Or.inl hP)) rfl rfl ⟨by decide, by decide, by decide, by decide⟩ (Nat.le_of_ble_eq_true rfl) (fun E9 ph9 hv9 => ?_) (fun _ _ h => h.elim)
    obtain ⟨rfl, e9⟩ := hv9
    subst ph9
    exact e_out hX hQ hT (by decide) (by decide) (hg.oX 0 (if_pos hP) (by rw [if_pos hP]; rfl))
  · by_cases hN : gN σ = 0
    · refine e_callV hX iX11_mostDrifted_1 hg.1 (c_needProfX htr hg (Or.inr hN)) rfl rfl ⟨by decide, by decide, by decide, by decide⟩ (Nat.le_of_ble_eq_true rfl) (fun E9 ph9 hv9 => ?_) (fun _ _ h => h.elim)
      obtain ⟨rfl, e9⟩ := hv9
      subst ph9
      exact e_out hX hQ hT (by decide) (by decide) (hg.oX 1 ((if_neg hP).trans (if_pos hN)) (by rw [if_neg hP]; rfl))
    · refine e_callV hX iX11_mostDrifted_1 hg.1 (c_needProf0 htr hg hP hN) rfl rfl ⟨by decide, by decide, by decide, by decide⟩ (Nat.le_of_ble_eq_true rfl) (fun _ _ h => h.elim) (fun v9 ph9 hv9 => ?_)
      obtain ⟨rfl, e9⟩ := hv9
      subst ph9
      have loop : ∀ (q i : Nat), 5 - i < q → i ≤ 5 → EJ θ x 10 [(0, .ref g), (1, .int (nI (mstG (drfN σ) i).1)), (2, .int (mstG (drfN σ) i).2), (3, .int (nI i))] [] ph 0 0 := by
        intro q
        induction q with
        | zero => intro i hg; omega
        | succ q ih =>
          intro i hq hi
          have next : ∀ y, mstG (drfN σ) (i + 1) = y → i < 5 → EJ θ x 33 [(0, .ref g), (1, .int (nI y.1)), (2, .int y.2), (3, .int (nI i))] [] ph 0 0 := by
            intro y hy hin
            refine e_iinc hX iX11_mostDrifted_33 rfl (by first | exact nI_inc _ | rfl) (by decide) ?_
            refine e_goto hX iX11_mostDrifted_36 ?_
            refine e_loc [0, 1, 2, 3] ?_
            have := ih (i + 1) (by omega) (by omega)
            rw [hy] at this
            exact this
          refine e_iload_n hX 3 iX11_mostDrifted_10 rfl rfl ?_
          refine e_iconst (v := 5) hX iX11_mostDrifted_11 (by decide) ?_
          refine e_icmp_ge hX iX11_mostDrifted_12 (fun c12 => ?_) (fun c12 => ?_)
          · have hin := nI_same hi (by decide) c12
            subst hin
            refine e_iload_n hX 1 iX11_mostDrifted_39 rfl rfl ?_
            exact e_iret hX hQ iX11_mostDrifted_40 rfl (by decide) (by decide) (hg.oP kx.refl ((if_neg hP).trans (if_neg hN)) rfl)
          · have hin := nI_less hi (by decide) c12
            refine e_aload_n hX 0 iX11_mostDrifted_15 rfl rfl ?_
            refine e_iload_n hX 3 iX11_mostDrifted_16 rfl rfl ?_
            refine e_callV hX iX11_mostDrifted_17 hg.1 (c_drift htr hg hin hN hP) rfl rfl ⟨by decide, by decide, by decide, by decide⟩ (Nat.le_of_ble_eq_true rfl) (fun _ _ h => h.elim) (fun v9 ph9 hv9 => ?_)
            obtain ⟨rfl, e9⟩ := hv9
            subst ph9
            refine e_istore hX iX11_mostDrifted_20 (by decide) ?_
            refine e_iload hX iX11_mostDrifted_22 rfl ?_
            refine e_iload_n hX 2 iX11_mostDrifted_24 rfl rfl ?_
            refine e_icmp_le hX iX11_mostDrifted_25 (fun c25 => ?_) (fun c25 => ?_)
            · refine e_loc [0, 1, 2, 3] ?_
              exact next _ (if_neg (Int32.not_lt.mpr c25)) hin
            · refine e_iload hX iX11_mostDrifted_28 rfl ?_
              refine e_istore_n hX 2 iX11_mostDrifted_30 rfl (by decide) ?_
              refine e_iload_n hX 3 iX11_mostDrifted_31 rfl rfl ?_
              refine e_istore_n hX 1 iX11_mostDrifted_32 rfl (by decide) ?_
              refine e_loc [0, 1, 2, 3] ?_
              exact next _ (if_pos (Int32.not_le.mp c25)) hin
      refine e_iconst (v := 0) hX iX11_mostDrifted_4 (by decide) ?_
      refine e_istore_n hX 1 iX11_mostDrifted_5 rfl (by decide) ?_
      refine e_iconst (v := (-1)) hX iX11_mostDrifted_6 (by decide) ?_
      refine e_istore_n hX 2 iX11_mostDrifted_7 rfl (by decide) ?_
      refine e_iconst (v := 0) hX iX11_mostDrifted_8 (by decide) ?_
      refine e_istore_n hX 3 iX11_mostDrifted_9 rfl (by decide) ?_
      refine e_loc [0, 1, 2, 3] ?_
      exact loop 6 0 (by omega) (by omega)
end GPU
