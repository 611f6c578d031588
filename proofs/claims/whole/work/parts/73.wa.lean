/-! the law's calls of the class that give a long (printed by gen71.py) -/
section WA0
variable {l : Launch} {θ : e_T} {ph : e_PH} {g : Nat} {X : Nat → Prop} {σ : SG} {o : Nat}
theorem l_stage (htr : l.stackTraces = false) (hg : GP θ ph g X σ) (hXo : X o) {f0 : Nat → Int64} (ho : ph o = some (e_L θ 1 f0)) (a1 a2 a3 a4 a5 : Int32) : MCW yL_stage cL_stage 8 (some .int) [(0, 16, 19, 13), (0, 16, 23, 15)] 7 3 22 l θ [.ref g, .int a1, .int a2, .int a3, .int a4, .int a5, .ref o] ph (uP θ ph g X o (k_stg σ a1 a2 a3 a4 a5) (Int32.toInt64 (nI (gM σ + 1))) (s_stg σ (five a1 a2 a3 a4 a5)) σ) := by
  refine MCW.of htr (by decide) (Nat.le_of_ble_eq_true rfl) ?_
  intro x hX hQ hT
  obtain ⟨fs, hgo⟩ := hg.go
  refine e_aload hX iL_stage_0 rfl ?_
  refine e_iconst (v := 0) hX iL_stage_2 (by decide) ?_
  refine e_aload_n hX 0 iL_stage_3 rfl rfl ?_
  refine e_iload_n hX 1 iL_stage_4 rfl rfl ?_
  refine e_iload_n hX 2 iL_stage_5 rfl rfl ?_
  refine e_iload_n hX 3 iL_stage_6 rfl rfl ?_
  refine e_iload hX iL_stage_7 rfl ?_
  refine e_iload hX iL_stage_9 rfl ?_
  refine e_callV hX iL_stage_11 hgo (m_stage htr hg a1 a2 a3 a4 a5) rfl rfl ⟨by decide, by decide, by decide, by decide⟩ (Nat.le_of_ble_eq_true rfl) (fun E9 p9 h9 => ?_) (fun v9 p9 h9 => ?_)
  · obtain ⟨hk, hE, hg9, hx9⟩ := h9
    rcases ox2 hk hE with ⟨hk1, rfl⟩ | ⟨hk1, rfl⟩
    · refine e_catch hX hT [] (0, 16, 19, 13) [(0, 16, 23, 15)] rfl (fun q hq => absurd hq List.not_mem_nil) ⟨by decide, by decide⟩ (by decide) wL_cl_13 wL_ca_xA (fun q => ?_)
      refine e_astore hX iL_stage_19 (by decide) ?_
      refine e_iconst (v := 1) hX iL_stage_21 (by decide) ?_
      exact e_iret hX hQ iL_stage_22 rfl (by decide) (by decide) (uP.thr hg9 hx9 ho hXo (by rw [hk1]; decide) (by rw [hk1]; rfl))
    · refine e_catch hX hT [(0, 16, 19, 13)] (0, 16, 23, 15) [] rfl (List.forall_mem_cons.mpr ⟨⟨by decide, _, wL_cl_13, xm_xS, xm_xA, xn_xSxA⟩, fun q hq => absurd hq List.not_mem_nil⟩) ⟨by decide, by decide⟩ (by decide) wL_cl_15 wL_ca_xS (fun q => ?_)
      refine e_astore hX iL_stage_23 (by decide) ?_
      refine e_iconst (v := 2) hX iL_stage_25 (by decide) ?_
      exact e_iret hX hQ iL_stage_26 rfl (by decide) (by decide) (uP.thr hg9 hx9 ho hXo (by rw [hk1]; decide) (by rw [hk1]; rfl))
  · obtain ⟨hk, rfl, hg9, hx9⟩ := h9
    refine e_i2l hX iL_stage_14 ?_
    refine e_last hX 0 iL_stage_15 (hx9 _ _ hXo ho) rfl (by decide) (by decide) ?_
    refine e_goto hX iL_stage_16 ?_
    refine e_iconst (v := 0) hX iL_stage_27 (by decide) ?_
    exact e_iret hX hQ iL_stage_28 rfl (by decide) (by decide) (uP.ok hg9 hx9 hXo (hx9 _ _ hXo ho) hk rfl)
theorem l_commit (htr : l.stackTraces = false) (hg : GP θ ph g X σ) (hXo : X o) {f0 : Nat → Int64} (ho : ph o = some (e_L θ 1 f0))  : MCW yL_commit cL_commit 3 (some .int) [(0, 8, 11, 15), (0, 8, 14, 21)] 7 10 120 l θ [.ref g, .ref o] ph (uP θ ph g X o (k_com σ) (Int32.toInt64 (nI (gN σ + gM σ))) (s_commit σ) (s_commit σ)) := by
  refine MCW.of htr (by decide) (Nat.le_of_ble_eq_true rfl) ?_
  intro x hX hQ hT
  obtain ⟨fs, hgo⟩ := hg.go
  refine e_aload_n hX 1 iL_commit_0 rfl rfl ?_
  refine e_iconst (v := 0) hX iL_commit_1 (by decide) ?_
  refine e_aload_n hX 0 iL_commit_2 rfl rfl ?_
  refine e_callV hX iL_commit_3 hgo (m_commit htr hg ) rfl rfl ⟨by decide, by decide, by decide, by decide⟩ (Nat.le_of_ble_eq_true rfl) (fun E9 p9 h9 => ?_) (fun v9 p9 h9 => ?_)
  · obtain ⟨hk, hE, hg9, hx9⟩ := h9
    rcases ox2 hk hE with ⟨hk1, rfl⟩ | ⟨hk1, rfl⟩
    · refine e_catch hX hT [] (0, 8, 11, 15) [(0, 8, 14, 21)] rfl (fun q hq => absurd hq List.not_mem_nil) ⟨by decide, by decide⟩ (by decide) wL_cl_15 wL_ca_xS (fun q => ?_)
      refine e_astore_n hX 2 iL_commit_11 rfl (by decide) ?_
      refine e_iconst (v := 1) hX iL_commit_12 (by decide) ?_
      exact e_iret hX hQ iL_commit_13 rfl (by decide) (by decide) (uP.thr hg9 hx9 ho hXo (by rw [hk1]; decide) (by rw [hk1]; rfl))
    · refine e_catch hX hT [(0, 8, 11, 15)] (0, 8, 14, 21) [] rfl (List.forall_mem_cons.mpr ⟨⟨by decide, _, wL_cl_15, xm_xU, xm_xS, xn_xUxS⟩, fun q hq => absurd hq List.not_mem_nil⟩) ⟨by decide, by decide⟩ (by decide) wL_cl_21 wL_ca_xU (fun q => ?_)
      refine e_astore_n hX 2 iL_commit_14 rfl (by decide) ?_
      refine e_iconst (v := 2) hX iL_commit_15 (by decide) ?_
      exact e_iret hX hQ iL_commit_16 rfl (by decide) (by decide) (uP.thr hg9 hx9 ho hXo (by rw [hk1]; decide) (by rw [hk1]; rfl))
  · obtain ⟨hk, rfl, hg9, hx9⟩ := h9
    refine e_i2l hX iL_commit_6 ?_
    refine e_last hX 0 iL_commit_7 (hx9 _ _ hXo ho) rfl (by decide) (by decide) ?_
    refine e_goto hX iL_commit_8 ?_
    refine e_iconst (v := 0) hX iL_commit_17 (by decide) ?_
    exact e_iret hX hQ iL_commit_18 rfl (by decide) (by decide) (uP.ok hg9 hx9 hXo (hx9 _ _ hXo ho) hk rfl)
theorem l_rejectedRow (htr : l.stackTraces = false) (hg : GP θ ph g X σ) (hXo : X o) {f0 : Nat → Int64} (ho : ph o = some (e_L θ 1 f0))  : MCW yL_rejectedRow cL_rejectedRow 3 (some .int) [(0, 8, 11, 26)] 2 1 6 l θ [.ref g, .ref o] ph (uP θ ph g X o (k_rej σ) (Int32.toInt64 (gJ σ).1) σ σ) := by
  refine MCW.of htr (by decide) (Nat.le_of_ble_eq_true rfl) ?_
  intro x hX hQ hT
  obtain ⟨fs, hgo⟩ := hg.go
  refine e_aload_n hX 1 iL_rejectedRow_0 rfl rfl ?_
  refine e_iconst (v := 0) hX iL_rejectedRow_1 (by decide) ?_
  refine e_aload_n hX 0 iL_rejectedRow_2 rfl rfl ?_
  refine e_callV hX iL_rejectedRow_3 hgo (m_rejectedRow htr hg ) rfl rfl ⟨by decide, by decide, by decide, by decide⟩ (Nat.le_of_ble_eq_true rfl) (fun E9 p9 h9 => ?_) (fun v9 p9 h9 => ?_)
  · obtain ⟨hk, hE, hg9, hx9⟩ := h9
    obtain ⟨hk1, rfl⟩ := ox1 hk hE
    refine e_catch hX hT [] (0, 8, 11, 26) [] rfl (fun q hq => absurd hq List.not_mem_nil) ⟨by decide, by decide⟩ (by decide) wL_cl_26 wL_ca_xN (fun q => ?_)
    refine e_astore_n hX 2 iL_rejectedRow_11 rfl (by decide) ?_
    refine e_iconst (v := 1) hX iL_rejectedRow_12 (by decide) ?_
    exact e_iret hX hQ iL_rejectedRow_13 rfl (by decide) (by decide) (uP.thr hg9 hx9 ho hXo (by rw [hk1]; decide) (by rw [hk1]; rfl))
  · obtain ⟨hk, rfl, hg9, hx9⟩ := h9
    refine e_i2l hX iL_rejectedRow_6 ?_
    refine e_last hX 0 iL_rejectedRow_7 (hx9 _ _ hXo ho) rfl (by decide) (by decide) ?_
    refine e_goto hX iL_rejectedRow_8 ?_
    refine e_iconst (v := 0) hX iL_rejectedRow_14 (by decide) ?_
    exact e_iret hX hQ iL_rejectedRow_15 rfl (by decide) (by decide) (uP.ok hg9 hx9 hXo (hx9 _ _ hXo ho) hk rfl)
theorem l_rejectedRule (htr : l.stackTraces = false) (hg : GP θ ph g X σ) (hXo : X o) {f0 : Nat → Int64} (ho : ph o = some (e_L θ 1 f0))  : MCW yL_rejectedRule cL_rejectedRule 3 (some .int) [(0, 8, 11, 26)] 2 1 6 l θ [.ref g, .ref o] ph (uP θ ph g X o (k_rej σ) (Int32.toInt64 (gJ σ).2.1) σ σ) := by
  refine MCW.of htr (by decide) (Nat.le_of_ble_eq_true rfl) ?_
  intro x hX hQ hT
  obtain ⟨fs, hgo⟩ := hg.go
  refine e_aload_n hX 1 iL_rejectedRule_0 rfl rfl ?_
  refine e_iconst (v := 0) hX iL_rejectedRule_1 (by decide) ?_
  refine e_aload_n hX 0 iL_rejectedRule_2 rfl rfl ?_
  refine e_callV hX iL_rejectedRule_3 hgo (m_rejectedRule htr hg ) rfl rfl ⟨by decide, by decide, by decide, by decide⟩ (Nat.le_of_ble_eq_true rfl) (fun E9 p9 h9 => ?_) (fun v9 p9 h9 => ?_)
  · obtain ⟨hk, hE, hg9, hx9⟩ := h9
    obtain ⟨hk1, rfl⟩ := ox1 hk hE
    refine e_catch hX hT [] (0, 8, 11, 26) [] rfl (fun q hq => absurd hq List.not_mem_nil) ⟨by decide, by decide⟩ (by decide) wL_cl_26 wL_ca_xN (fun q => ?_)
    refine e_astore_n hX 2 iL_rejectedRule_11 rfl (by decide) ?_
    refine e_iconst (v := 1) hX iL_rejectedRule_12 (by decide) ?_
    exact e_iret hX hQ iL_rejectedRule_13 rfl (by decide) (by decide) (uP.thr hg9 hx9 ho hXo (by rw [hk1]; decide) (by rw [hk1]; rfl))
  · obtain ⟨hk, rfl, hg9, hx9⟩ := h9
    refine e_i2l hX iL_rejectedRule_6 ?_
    refine e_last hX 0 iL_rejectedRule_7 (hx9 _ _ hXo ho) rfl (by decide) (by decide) ?_
    refine e_goto hX iL_rejectedRule_8 ?_
    refine e_iconst (v := 0) hX iL_rejectedRule_14 (by decide) ?_
    exact e_iret hX hQ iL_rejectedRule_15 rfl (by decide) (by decide) (uP.ok hg9 hx9 hXo (hx9 _ _ hXo ho) hk rfl)
theorem l_rejectedOther (htr : l.stackTraces = false) (hg : GP θ ph g X σ) (hXo : X o) {f0 : Nat → Int64} (ho : ph o = some (e_L θ 1 f0))  : MCW yL_rejectedOther cL_rejectedOther 3 (some .int) [(0, 8, 11, 26)] 2 1 6 l θ [.ref g, .ref o] ph (uP θ ph g X o (k_rejO σ) (Int32.toInt64 (gJ σ).2.2.1) σ σ) := by
  refine MCW.of htr (by decide) (Nat.le_of_ble_eq_true rfl) ?_
  intro x hX hQ hT
  obtain ⟨fs, hgo⟩ := hg.go
  refine e_aload_n hX 1 iL_rejectedOther_0 rfl rfl ?_
  refine e_iconst (v := 0) hX iL_rejectedOther_1 (by decide) ?_
  refine e_aload_n hX 0 iL_rejectedOther_2 rfl rfl ?_
  refine e_callV hX iL_rejectedOther_3 hgo (m_rejectedOther htr hg ) rfl rfl ⟨by decide, by decide, by decide, by decide⟩ (Nat.le_of_ble_eq_true rfl) (fun E9 p9 h9 => ?_) (fun v9 p9 h9 => ?_)
  · obtain ⟨hk, hE, hg9, hx9⟩ := h9
    obtain ⟨hk1, rfl⟩ := ox1 hk hE
    refine e_catch hX hT [] (0, 8, 11, 26) [] rfl (fun q hq => absurd hq List.not_mem_nil) ⟨by decide, by decide⟩ (by decide) wL_cl_26 wL_ca_xN (fun q => ?_)
    refine e_astore_n hX 2 iL_rejectedOther_11 rfl (by decide) ?_
    refine e_iconst (v := 1) hX iL_rejectedOther_12 (by decide) ?_
    exact e_iret hX hQ iL_rejectedOther_13 rfl (by decide) (by decide) (uP.thr hg9 hx9 ho hXo (by rw [hk1]; decide) (by rw [hk1]; rfl))
  · obtain ⟨hk, rfl, hg9, hx9⟩ := h9
    refine e_i2l hX iL_rejectedOther_6 ?_
    refine e_last hX 0 iL_rejectedOther_7 (hx9 _ _ hXo ho) rfl (by decide) (by decide) ?_
    refine e_goto hX iL_rejectedOther_8 ?_
    refine e_iconst (v := 0) hX iL_rejectedOther_14 (by decide) ?_
    exact e_iret hX hQ iL_rejectedOther_15 rfl (by decide) (by decide) (uP.ok hg9 hx9 hXo (hx9 _ _ hXo ho) hk rfl)
theorem l_isOtherStaged (htr : l.stackTraces = false) (hg : GP θ ph g X σ) (hXo : X o) {f0 : Nat → Int64} (ho : ph o = some (e_L θ 1 f0))  : MCW yL_isOtherStaged cL_isOtherStaged 3 (some .int) [(0, 15, 18, 26)] 2 1 6 l θ [.ref g, .ref o] ph (uP θ ph g X o (k_rejO σ) (bL (gJ σ).2.2.2) σ σ) := by
  refine MCW.of htr (by decide) (Nat.le_of_ble_eq_true rfl) ?_
  intro x hX hQ hT
  obtain ⟨fs, hgo⟩ := hg.go
  refine e_aload_n hX 1 iL_isOtherStaged_0 rfl rfl ?_
  refine e_iconst (v := 0) hX iL_isOtherStaged_1 (by decide) ?_
  refine e_aload_n hX 0 iL_isOtherStaged_2 rfl rfl ?_
  refine e_callV hX iL_isOtherStaged_3 hgo (m_isOtherStaged htr hg ) rfl rfl ⟨by decide, by decide, by decide, by decide⟩ (Nat.le_of_ble_eq_true rfl) (fun E9 p9 h9 => ?_) (fun v9 p9 h9 => ?_)
  · obtain ⟨hk, hE, hg9, hx9⟩ := h9
    obtain ⟨hk1, rfl⟩ := ox1 hk hE
    refine e_catch hX hT [] (0, 15, 18, 26) [] rfl (fun q hq => absurd hq List.not_mem_nil) ⟨by decide, by decide⟩ (by decide) wL_cl_26 wL_ca_xN (fun q => ?_)
    refine e_astore_n hX 2 iL_isOtherStaged_18 rfl (by decide) ?_
    refine e_iconst (v := 1) hX iL_isOtherStaged_19 (by decide) ?_
    exact e_iret hX hQ iL_isOtherStaged_20 rfl (by decide) (by decide) (uP.thr hg9 hx9 ho hXo (by rw [hk1]; decide) (by rw [hk1]; rfl))
  · obtain ⟨hk, rfl, hg9, hx9⟩ := h9
    refine e_if_eq hX iL_isOtherStaged_6 (fun c6 => ?_) (fun c6 => ?_)
    · refine e_lconst (v := 0) hX iL_isOtherStaged_13 (by decide) ?_
      refine e_last hX 0 iL_isOtherStaged_14 (hx9 _ _ hXo ho) rfl (by decide) (by decide) ?_
      refine e_goto hX iL_isOtherStaged_15 ?_
      refine e_iconst (v := 0) hX iL_isOtherStaged_21 (by decide) ?_
      exact e_iret hX hQ iL_isOtherStaged_22 rfl (by decide) (by decide) (uP.ok hg9 hx9 hXo (hx9 _ _ hXo ho) hk (bL_f (b2i_0.mp c6)))
    · refine e_lconst (v := 1) hX iL_isOtherStaged_9 (by decide) ?_
      refine e_goto hX iL_isOtherStaged_10 ?_
      refine e_last hX 0 iL_isOtherStaged_14 (hx9 _ _ hXo ho) rfl (by decide) (by decide) ?_
      refine e_goto hX iL_isOtherStaged_15 ?_
      refine e_iconst (v := 0) hX iL_isOtherStaged_21 (by decide) ?_
      exact e_iret hX hQ iL_isOtherStaged_22 rfl (by decide) (by decide) (uP.ok hg9 hx9 hXo (hx9 _ _ hXo ho) hk (bL_t (b2i_n0.mp c6)))
theorem l_removeRow (htr : l.stackTraces = false) (hg : GP θ ph g X σ) (hXo : X o) {f0 : Nat → Int64} (ho : ph o = some (e_L θ 1 f0)) (id : Int32) : MCW yL_removeRow cL_removeRow 4 (some .int) [(0, 9, 12, 26)] 6 1 6 l θ [.ref g, .int id, .ref o] ph (uP θ ph g X o (k_id σ id) (Int32.toInt64 (nI (gN σ - 1))) (s_rem σ (fnd σ id)) σ) := by
  refine MCW.of htr (by decide) (Nat.le_of_ble_eq_true rfl) ?_
  intro x hX hQ hT
  obtain ⟨fs, hgo⟩ := hg.go
  refine e_aload_n hX 2 iL_removeRow_0 rfl rfl ?_
  refine e_iconst (v := 0) hX iL_removeRow_1 (by decide) ?_
  refine e_aload_n hX 0 iL_removeRow_2 rfl rfl ?_
  refine e_iload_n hX 1 iL_removeRow_3 rfl rfl ?_
  refine e_callV hX iL_removeRow_4 hgo (m_removeRow htr hg id) rfl rfl ⟨by decide, by decide, by decide, by decide⟩ (Nat.le_of_ble_eq_true rfl) (fun E9 p9 h9 => ?_) (fun v9 p9 h9 => ?_)
  · obtain ⟨hk, hE, hg9, hx9⟩ := h9
    obtain ⟨hk1, rfl⟩ := ox1 hk hE
    refine e_catch hX hT [] (0, 9, 12, 26) [] rfl (fun q hq => absurd hq List.not_mem_nil) ⟨by decide, by decide⟩ (by decide) wL_cl_26 wL_ca_xN (fun q => ?_)
    refine e_astore_n hX 3 iL_removeRow_12 rfl (by decide) ?_
    refine e_iconst (v := 1) hX iL_removeRow_13 (by decide) ?_
    exact e_iret hX hQ iL_removeRow_14 rfl (by decide) (by decide) (uP.thr hg9 hx9 ho hXo (by rw [hk1]; decide) (by rw [hk1]; rfl))
  · obtain ⟨hk, rfl, hg9, hx9⟩ := h9
    refine e_i2l hX iL_removeRow_7 ?_
    refine e_last hX 0 iL_removeRow_8 (hx9 _ _ hXo ho) rfl (by decide) (by decide) ?_
    refine e_goto hX iL_removeRow_9 ?_
    refine e_iconst (v := 0) hX iL_removeRow_15 (by decide) ?_
    exact e_iret hX hQ iL_removeRow_16 rfl (by decide) (by decide) (uP.ok hg9 hx9 hXo (hx9 _ _ hXo ho) hk rfl)
theorem l_setValue (htr : l.stackTraces = false) (hg : GP θ ph g X σ) (hXo : X o) {f0 : Nat → Int64} (ho : ph o = some (e_L θ 1 f0)) (id c y : Int32) : MCW yL_setValue cL_setValue 6 (some .int) [(0, 12, 15, 26), (0, 12, 19, 46), (0, 12, 23, 13)] 6 1 6 l θ [.ref g, .int id, .int c, .int y, .ref o] ph (uP θ ph g X o (k_val σ id c y) (Int32.toInt64 (a_valueAt σ id c)) (s_val σ (fnd σ id) (ix c) y) σ) := by
  refine MCW.of htr (by decide) (Nat.le_of_ble_eq_true rfl) ?_
  intro x hX hQ hT
  obtain ⟨fs, hgo⟩ := hg.go
  refine e_aload hX iL_setValue_0 rfl ?_
  refine e_iconst (v := 0) hX iL_setValue_2 (by decide) ?_
  refine e_aload_n hX 0 iL_setValue_3 rfl rfl ?_
  refine e_iload_n hX 1 iL_setValue_4 rfl rfl ?_
  refine e_iload_n hX 2 iL_setValue_5 rfl rfl ?_
  refine e_iload_n hX 3 iL_setValue_6 rfl rfl ?_
  refine e_callV hX iL_setValue_7 hgo (m_setValue htr hg id c y) rfl rfl ⟨by decide, by decide, by decide, by decide⟩ (Nat.le_of_ble_eq_true rfl) (fun E9 p9 h9 => ?_) (fun v9 p9 h9 => ?_)
  · obtain ⟨hk, hE, hg9, hx9⟩ := h9
    rcases ox3 hk hE with ⟨hk1, rfl⟩ | ⟨hk1, rfl⟩ | ⟨hk1, rfl⟩
    · refine e_catch hX hT [] (0, 12, 15, 26) [(0, 12, 19, 46), (0, 12, 23, 13)] rfl (fun q hq => absurd hq List.not_mem_nil) ⟨by decide, by decide⟩ (by decide) wL_cl_26 wL_ca_xN (fun q => ?_)
      refine e_astore hX iL_setValue_15 (by decide) ?_
      refine e_iconst (v := 1) hX iL_setValue_17 (by decide) ?_
      exact e_iret hX hQ iL_setValue_18 rfl (by decide) (by decide) (uP.thr hg9 hx9 ho hXo (by rw [hk1]; decide) (by rw [hk1]; rfl))
    · refine e_catch hX hT [(0, 12, 15, 26)] (0, 12, 19, 46) [(0, 12, 23, 13)] rfl (List.forall_mem_cons.mpr ⟨⟨by decide, _, wL_cl_26, xm_xB, xm_xN, xn_xBxN⟩, fun q hq => absurd hq List.not_mem_nil⟩) ⟨by decide, by decide⟩ (by decide) wL_cl_46 wL_ca_xB (fun q => ?_)
      refine e_astore hX iL_setValue_19 (by decide) ?_
      refine e_iconst (v := 2) hX iL_setValue_21 (by decide) ?_
      exact e_iret hX hQ iL_setValue_22 rfl (by decide) (by decide) (uP.thr hg9 hx9 ho hXo (by rw [hk1]; decide) (by rw [hk1]; rfl))
    · refine e_catch hX hT [(0, 12, 15, 26), (0, 12, 19, 46)] (0, 12, 23, 13) [] rfl (List.forall_mem_cons.mpr ⟨⟨by decide, _, wL_cl_26, xm_xA, xm_xN, xn_xAxN⟩, (List.forall_mem_cons.mpr ⟨⟨by decide, _, wL_cl_46, xm_xA, xm_xB, xn_xAxB⟩, fun q hq => absurd hq List.not_mem_nil⟩)⟩) ⟨by decide, by decide⟩ (by decide) wL_cl_13 wL_ca_xA (fun q => ?_)
      refine e_astore hX iL_setValue_23 (by decide) ?_
      refine e_iconst (v := 3) hX iL_setValue_25 (by decide) ?_
      exact e_iret hX hQ iL_setValue_26 rfl (by decide) (by decide) (uP.thr hg9 hx9 ho hXo (by rw [hk1]; decide) (by rw [hk1]; rfl))
  · obtain ⟨hk, rfl, hg9, hx9⟩ := h9
    refine e_i2l hX iL_setValue_10 ?_
    refine e_last hX 0 iL_setValue_11 (hx9 _ _ hXo ho) rfl (by decide) (by decide) ?_
    refine e_goto hX iL_setValue_12 ?_
    refine e_iconst (v := 0) hX iL_setValue_27 (by decide) ?_
    exact e_iret hX hQ iL_setValue_28 rfl (by decide) (by decide) (uP.ok hg9 hx9 hXo (hx9 _ _ hXo ho) hk rfl)
theorem l_valueAt (htr : l.stackTraces = false) (hg : GP θ ph g X σ) (hXo : X o) {f0 : Nat → Int64} (ho : ph o = some (e_L θ 1 f0)) (id c : Int32) : MCW yL_valueAt cL_valueAt 5 (some .int) [(0, 10, 13, 26), (0, 10, 17, 46)] 6 1 6 l θ [.ref g, .int id, .int c, .ref o] ph (uP θ ph g X o (k_idc σ id c) (Int32.toInt64 (a_valueAt σ id c)) σ σ) := by
  refine MCW.of htr (by decide) (Nat.le_of_ble_eq_true rfl) ?_
  intro x hX hQ hT
  obtain ⟨fs, hgo⟩ := hg.go
  refine e_aload_n hX 3 iL_valueAt_0 rfl rfl ?_
  refine e_iconst (v := 0) hX iL_valueAt_1 (by decide) ?_
  refine e_aload_n hX 0 iL_valueAt_2 rfl rfl ?_
  refine e_iload_n hX 1 iL_valueAt_3 rfl rfl ?_
  refine e_iload_n hX 2 iL_valueAt_4 rfl rfl ?_
  refine e_callV hX iL_valueAt_5 hgo (m_valueAt htr hg id c) rfl rfl ⟨by decide, by decide, by decide, by decide⟩ (Nat.le_of_ble_eq_true rfl) (fun E9 p9 h9 => ?_) (fun v9 p9 h9 => ?_)
  · obtain ⟨hk, hE, hg9, hx9⟩ := h9
    rcases ox2 hk hE with ⟨hk1, rfl⟩ | ⟨hk1, rfl⟩
    · refine e_catch hX hT [] (0, 10, 13, 26) [(0, 10, 17, 46)] rfl (fun q hq => absurd hq List.not_mem_nil) ⟨by decide, by decide⟩ (by decide) wL_cl_26 wL_ca_xN (fun q => ?_)
      refine e_astore hX iL_valueAt_13 (by decide) ?_
      refine e_iconst (v := 1) hX iL_valueAt_15 (by decide) ?_
      exact e_iret hX hQ iL_valueAt_16 rfl (by decide) (by decide) (uP.thr hg9 hx9 ho hXo (by rw [hk1]; decide) (by rw [hk1]; rfl))
    · refine e_catch hX hT [(0, 10, 13, 26)] (0, 10, 17, 46) [] rfl (List.forall_mem_cons.mpr ⟨⟨by decide, _, wL_cl_26, xm_xB, xm_xN, xn_xBxN⟩, fun q hq => absurd hq List.not_mem_nil⟩) ⟨by decide, by decide⟩ (by decide) wL_cl_46 wL_ca_xB (fun q => ?_)
      refine e_astore hX iL_valueAt_17 (by decide) ?_
      refine e_iconst (v := 2) hX iL_valueAt_19 (by decide) ?_
      exact e_iret hX hQ iL_valueAt_20 rfl (by decide) (by decide) (uP.thr hg9 hx9 ho hXo (by rw [hk1]; decide) (by rw [hk1]; rfl))
  · obtain ⟨hk, rfl, hg9, hx9⟩ := h9
    refine e_i2l hX iL_valueAt_8 ?_
    refine e_last hX 0 iL_valueAt_9 (hx9 _ _ hXo ho) rfl (by decide) (by decide) ?_
    refine e_goto hX iL_valueAt_10 ?_
    refine e_iconst (v := 0) hX iL_valueAt_21 (by decide) ?_
    exact e_iret hX hQ iL_valueAt_22 rfl (by decide) (by decide) (uP.ok hg9 hx9 hXo (hx9 _ _ hXo ho) hk rfl)
theorem l_rowAt (htr : l.stackTraces = false) (hg : GP θ ph g X σ) (hXo : X o) {f0 : Nat → Int64} (ho : ph o = some (e_L θ 1 f0)) (q : Int32) : MCW yL_rowAt cL_rowAt 4 (some .int) [(0, 9, 12, 46)] 4 1 6 l θ [.ref g, .int q, .ref o] ph (uP θ ph g X o (k_at σ q) (Int32.toInt64 (a_rowAt σ q)) σ σ) := by
  refine MCW.of htr (by decide) (Nat.le_of_ble_eq_true rfl) ?_
  intro x hX hQ hT
  obtain ⟨fs, hgo⟩ := hg.go
  refine e_aload_n hX 2 iL_rowAt_0 rfl rfl ?_
  refine e_iconst (v := 0) hX iL_rowAt_1 (by decide) ?_
  refine e_aload_n hX 0 iL_rowAt_2 rfl rfl ?_
  refine e_iload_n hX 1 iL_rowAt_3 rfl rfl ?_
  refine e_callV hX iL_rowAt_4 hgo (m_rowAt htr hg q) rfl rfl ⟨by decide, by decide, by decide, by decide⟩ (Nat.le_of_ble_eq_true rfl) (fun E9 p9 h9 => ?_) (fun v9 p9 h9 => ?_)
  · obtain ⟨hk, hE, hg9, hx9⟩ := h9
    obtain ⟨hk1, rfl⟩ := ox1 hk hE
    refine e_catch hX hT [] (0, 9, 12, 46) [] rfl (fun q hq => absurd hq List.not_mem_nil) ⟨by decide, by decide⟩ (by decide) wL_cl_46 wL_ca_xB (fun q => ?_)
    refine e_astore_n hX 3 iL_rowAt_12 rfl (by decide) ?_
    refine e_iconst (v := 1) hX iL_rowAt_13 (by decide) ?_
    exact e_iret hX hQ iL_rowAt_14 rfl (by decide) (by decide) (uP.thr hg9 hx9 ho hXo (by rw [hk1]; decide) (by rw [hk1]; rfl))
  · obtain ⟨hk, rfl, hg9, hx9⟩ := h9
    refine e_i2l hX iL_rowAt_7 ?_
    refine e_last hX 0 iL_rowAt_8 (hx9 _ _ hXo ho) rfl (by decide) (by decide) ?_
    refine e_goto hX iL_rowAt_9 ?_
    refine e_iconst (v := 0) hX iL_rowAt_15 (by decide) ?_
    exact e_iret hX hQ iL_rowAt_16 rfl (by decide) (by decide) (uP.ok hg9 hx9 hXo (hx9 _ _ hXo ho) hk rfl)
theorem l_addRange (htr : l.stackTraces = false) (hg : GP θ ph g X σ) (hXo : X o) {f0 : Nat → Int64} (ho : ph o = some (e_L θ 1 f0)) (c lo hi : Int32) (st : Bool) : MCW yL_addRange cL_addRange 7 (some .int) [(0, 14, 17, 46), (0, 14, 21, 13), (0, 14, 25, 15)] 8 2 26 l θ [.ref g, .int c, .int lo, .int hi, .int (b2i st), .ref o] ph (uP θ ph g X o (k_rng σ c lo hi) (Int32.toInt64 (nI (gK σ))) (s_add σ (0, ix c, lo, hi, st, false)) σ) := by
  refine MCW.of htr (by decide) (Nat.le_of_ble_eq_true rfl) ?_
  intro x hX hQ hT
  obtain ⟨fs, hgo⟩ := hg.go
  refine e_aload hX iL_addRange_0 rfl ?_
  refine e_iconst (v := 0) hX iL_addRange_2 (by decide) ?_
  refine e_aload_n hX 0 iL_addRange_3 rfl rfl ?_
  refine e_iload_n hX 1 iL_addRange_4 rfl rfl ?_
  refine e_iload_n hX 2 iL_addRange_5 rfl rfl ?_
  refine e_iload_n hX 3 iL_addRange_6 rfl rfl ?_
  refine e_iload hX iL_addRange_7 rfl ?_
  refine e_callV hX iL_addRange_9 hgo (m_addRange htr hg c lo hi st) rfl rfl ⟨by decide, by decide, by decide, by decide⟩ (Nat.le_of_ble_eq_true rfl) (fun E9 p9 h9 => ?_) (fun v9 p9 h9 => ?_)
  · obtain ⟨hk, hE, hg9, hx9⟩ := h9
    rcases ox3 hk hE with ⟨hk1, rfl⟩ | ⟨hk1, rfl⟩ | ⟨hk1, rfl⟩
    · refine e_catch hX hT [] (0, 14, 17, 46) [(0, 14, 21, 13), (0, 14, 25, 15)] rfl (fun q hq => absurd hq List.not_mem_nil) ⟨by decide, by decide⟩ (by decide) wL_cl_46 wL_ca_xB (fun q => ?_)
      refine e_astore hX iL_addRange_17 (by decide) ?_
      refine e_iconst (v := 1) hX iL_addRange_19 (by decide) ?_
      exact e_iret hX hQ iL_addRange_20 rfl (by decide) (by decide) (uP.thr hg9 hx9 ho hXo (by rw [hk1]; decide) (by rw [hk1]; rfl))
    · refine e_catch hX hT [(0, 14, 17, 46)] (0, 14, 21, 13) [(0, 14, 25, 15)] rfl (List.forall_mem_cons.mpr ⟨⟨by decide, _, wL_cl_46, xm_xA, xm_xB, xn_xAxB⟩, fun q hq => absurd hq List.not_mem_nil⟩) ⟨by decide, by decide⟩ (by decide) wL_cl_13 wL_ca_xA (fun q => ?_)
      refine e_astore hX iL_addRange_21 (by decide) ?_
      refine e_iconst (v := 2) hX iL_addRange_23 (by decide) ?_
      exact e_iret hX hQ iL_addRange_24 rfl (by decide) (by decide) (uP.thr hg9 hx9 ho hXo (by rw [hk1]; decide) (by rw [hk1]; rfl))
    · refine e_catch hX hT [(0, 14, 17, 46), (0, 14, 21, 13)] (0, 14, 25, 15) [] rfl (List.forall_mem_cons.mpr ⟨⟨by decide, _, wL_cl_46, xm_xS, xm_xB, xn_xSxB⟩, (List.forall_mem_cons.mpr ⟨⟨by decide, _, wL_cl_13, xm_xS, xm_xA, xn_xSxA⟩, fun q hq => absurd hq List.not_mem_nil⟩)⟩) ⟨by decide, by decide⟩ (by decide) wL_cl_15 wL_ca_xS (fun q => ?_)
      refine e_astore hX iL_addRange_25 (by decide) ?_
      refine e_iconst (v := 3) hX iL_addRange_27 (by decide) ?_
      exact e_iret hX hQ iL_addRange_28 rfl (by decide) (by decide) (uP.thr hg9 hx9 ho hXo (by rw [hk1]; decide) (by rw [hk1]; rfl))
  · obtain ⟨hk, rfl, hg9, hx9⟩ := h9
    refine e_i2l hX iL_addRange_12 ?_
    refine e_last hX 0 iL_addRange_13 (hx9 _ _ hXo ho) rfl (by decide) (by decide) ?_
    refine e_goto hX iL_addRange_14 ?_
    refine e_iconst (v := 0) hX iL_addRange_29 (by decide) ?_
    exact e_iret hX hQ iL_addRange_30 rfl (by decide) (by decide) (uP.ok hg9 hx9 hXo (hx9 _ _ hXo ho) hk rfl)
theorem l_addRequired (htr : l.stackTraces = false) (hg : GP θ ph g X σ) (hXo : X o) {f0 : Nat → Int64} (ho : ph o = some (e_L θ 1 f0)) (c : Int32) (st : Bool) : MCW yL_addRequired cL_addRequired 5 (some .int) [(0, 10, 13, 46), (0, 10, 17, 15)] 8 2 26 l θ [.ref g, .int c, .int (b2i st), .ref o] ph (uP θ ph g X o (k_req σ c) (Int32.toInt64 (nI (gK σ))) (s_add σ (1, ix c, 0, 0, st, false)) σ) := by
  refine MCW.of htr (by decide) (Nat.le_of_ble_eq_true rfl) ?_
  intro x hX hQ hT
  obtain ⟨fs, hgo⟩ := hg.go
  refine e_aload_n hX 3 iL_addRequired_0 rfl rfl ?_
  refine e_iconst (v := 0) hX iL_addRequired_1 (by decide) ?_
  refine e_aload_n hX 0 iL_addRequired_2 rfl rfl ?_
  refine e_iload_n hX 1 iL_addRequired_3 rfl rfl ?_
  refine e_iload_n hX 2 iL_addRequired_4 rfl rfl ?_
  refine e_callV hX iL_addRequired_5 hgo (m_addRequired htr hg c st) rfl rfl ⟨by decide, by decide, by decide, by decide⟩ (Nat.le_of_ble_eq_true rfl) (fun E9 p9 h9 => ?_) (fun v9 p9 h9 => ?_)
  · obtain ⟨hk, hE, hg9, hx9⟩ := h9
    rcases ox2 hk hE with ⟨hk1, rfl⟩ | ⟨hk1, rfl⟩
    · refine e_catch hX hT [] (0, 10, 13, 46) [(0, 10, 17, 15)] rfl (fun q hq => absurd hq List.not_mem_nil) ⟨by decide, by decide⟩ (by decide) wL_cl_46 wL_ca_xB (fun q => ?_)
      refine e_astore hX iL_addRequired_13 (by decide) ?_
      refine e_iconst (v := 1) hX iL_addRequired_15 (by decide) ?_
      exact e_iret hX hQ iL_addRequired_16 rfl (by decide) (by decide) (uP.thr hg9 hx9 ho hXo (by rw [hk1]; decide) (by rw [hk1]; rfl))
    · refine e_catch hX hT [(0, 10, 13, 46)] (0, 10, 17, 15) [] rfl (List.forall_mem_cons.mpr ⟨⟨by decide, _, wL_cl_46, xm_xS, xm_xB, xn_xSxB⟩, fun q hq => absurd hq List.not_mem_nil⟩) ⟨by decide, by decide⟩ (by decide) wL_cl_15 wL_ca_xS (fun q => ?_)
      refine e_astore hX iL_addRequired_17 (by decide) ?_
      refine e_iconst (v := 2) hX iL_addRequired_19 (by decide) ?_
      exact e_iret hX hQ iL_addRequired_20 rfl (by decide) (by decide) (uP.thr hg9 hx9 ho hXo (by rw [hk1]; decide) (by rw [hk1]; rfl))
  · obtain ⟨hk, rfl, hg9, hx9⟩ := h9
    refine e_i2l hX iL_addRequired_8 ?_
    refine e_last hX 0 iL_addRequired_9 (hx9 _ _ hXo ho) rfl (by decide) (by decide) ?_
    refine e_goto hX iL_addRequired_10 ?_
    refine e_iconst (v := 0) hX iL_addRequired_21 (by decide) ?_
    exact e_iret hX hQ iL_addRequired_22 rfl (by decide) (by decide) (uP.ok hg9 hx9 hXo (hx9 _ _ hXo ho) hk rfl)
theorem l_addOrder (htr : l.stackTraces = false) (hg : GP θ ph g X σ) (hXo : X o) {f0 : Nat → Int64} (ho : ph o = some (e_L θ 1 f0)) (c d : Int32) (st : Bool) : MCW yL_addOrder cL_addOrder 6 (some .int) [(0, 12, 15, 46), (0, 12, 19, 13), (0, 12, 23, 15)] 8 2 26 l θ [.ref g, .int c, .int d, .int (b2i st), .ref o] ph (uP θ ph g X o (k_ord σ c d) (Int32.toInt64 (nI (gK σ))) (s_add σ (2, ix c, d, 0, st, false)) σ) := by
  refine MCW.of htr (by decide) (Nat.le_of_ble_eq_true rfl) ?_
  intro x hX hQ hT
  obtain ⟨fs, hgo⟩ := hg.go
  refine e_aload hX iL_addOrder_0 rfl ?_
  refine e_iconst (v := 0) hX iL_addOrder_2 (by decide) ?_
  refine e_aload_n hX 0 iL_addOrder_3 rfl rfl ?_
  refine e_iload_n hX 1 iL_addOrder_4 rfl rfl ?_
  refine e_iload_n hX 2 iL_addOrder_5 rfl rfl ?_
  refine e_iload_n hX 3 iL_addOrder_6 rfl rfl ?_
  refine e_callV hX iL_addOrder_7 hgo (m_addOrder htr hg c d st) rfl rfl ⟨by decide, by decide, by decide, by decide⟩ (Nat.le_of_ble_eq_true rfl) (fun E9 p9 h9 => ?_) (fun v9 p9 h9 => ?_)
  · obtain ⟨hk, hE, hg9, hx9⟩ := h9
    rcases ox3 hk hE with ⟨hk1, rfl⟩ | ⟨hk1, rfl⟩ | ⟨hk1, rfl⟩
    · refine e_catch hX hT [] (0, 12, 15, 46) [(0, 12, 19, 13), (0, 12, 23, 15)] rfl (fun q hq => absurd hq List.not_mem_nil) ⟨by decide, by decide⟩ (by decide) wL_cl_46 wL_ca_xB (fun q => ?_)
      refine e_astore hX iL_addOrder_15 (by decide) ?_
      refine e_iconst (v := 1) hX iL_addOrder_17 (by decide) ?_
      exact e_iret hX hQ iL_addOrder_18 rfl (by decide) (by decide) (uP.thr hg9 hx9 ho hXo (by rw [hk1]; decide) (by rw [hk1]; rfl))
    · refine e_catch hX hT [(0, 12, 15, 46)] (0, 12, 19, 13) [(0, 12, 23, 15)] rfl (List.forall_mem_cons.mpr ⟨⟨by decide, _, wL_cl_46, xm_xA, xm_xB, xn_xAxB⟩, fun q hq => absurd hq List.not_mem_nil⟩) ⟨by decide, by decide⟩ (by decide) wL_cl_13 wL_ca_xA (fun q => ?_)
      refine e_astore hX iL_addOrder_19 (by decide) ?_
      refine e_iconst (v := 2) hX iL_addOrder_21 (by decide) ?_
      exact e_iret hX hQ iL_addOrder_22 rfl (by decide) (by decide) (uP.thr hg9 hx9 ho hXo (by rw [hk1]; decide) (by rw [hk1]; rfl))
    · refine e_catch hX hT [(0, 12, 15, 46), (0, 12, 19, 13)] (0, 12, 23, 15) [] rfl (List.forall_mem_cons.mpr ⟨⟨by decide, _, wL_cl_46, xm_xS, xm_xB, xn_xSxB⟩, (List.forall_mem_cons.mpr ⟨⟨by decide, _, wL_cl_13, xm_xS, xm_xA, xn_xSxA⟩, fun q hq => absurd hq List.not_mem_nil⟩)⟩) ⟨by decide, by decide⟩ (by decide) wL_cl_15 wL_ca_xS (fun q => ?_)
      refine e_astore hX iL_addOrder_23 (by decide) ?_
      refine e_iconst (v := 3) hX iL_addOrder_25 (by decide) ?_
      exact e_iret hX hQ iL_addOrder_26 rfl (by decide) (by decide) (uP.thr hg9 hx9 ho hXo (by rw [hk1]; decide) (by rw [hk1]; rfl))
  · obtain ⟨hk, rfl, hg9, hx9⟩ := h9
    refine e_i2l hX iL_addOrder_10 ?_
    refine e_last hX 0 iL_addOrder_11 (hx9 _ _ hXo ho) rfl (by decide) (by decide) ?_
    refine e_goto hX iL_addOrder_12 ?_
    refine e_iconst (v := 0) hX iL_addOrder_27 (by decide) ?_
    exact e_iret hX hQ iL_addOrder_28 rfl (by decide) (by decide) (uP.ok hg9 hx9 hXo (hx9 _ _ hXo ho) hk rfl)
end WA0
