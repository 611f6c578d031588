/-! the law's calls of the class (printed by gen51.py) -/
section WA0
variable {l : Launch} {θ : e_T} {ph : e_PH} {g : Nat} {X : Nat → Prop} {σ : SG}
theorem l_removeRow (htr : l.stackTraces = false) (hg : GP θ ph g X σ) (id : Int32) : MCW yL_removeRow cL_removeRow 3 (some .int) [(0, 5, 6, 27)] 6 1 6 l θ [.ref g, .int id] ph (qP θ ph g X (k_id σ id) (nI (gN σ - 1)) (s_rem σ (fnd σ id)) σ) := by
  refine MCW.of htr (by decide) (Nat.le_of_ble_eq_true rfl) ?_
  intro x hX hQ hT
  obtain ⟨fs, hgo⟩ := hg.go
  refine e_aload_n hX 0 iL_removeRow_0 rfl rfl ?_
  refine e_iload_n hX 1 iL_removeRow_1 rfl rfl ?_
  refine e_callV hX iL_removeRow_2 hgo (m_removeRow htr hg id) rfl rfl ⟨by decide, by decide, by decide, by decide⟩ (Nat.le_of_ble_eq_true rfl) (fun E9 p9 h9 => ?_) (fun v9 p9 h9 => ?_)
  · obtain ⟨hk, hE, hg9, hx9⟩ := h9
    obtain ⟨hk1, rfl⟩ := ox1 hk hE
    refine e_catch hX hT [] (0, 5, 6, 27) [] rfl (fun q hq => absurd hq List.not_mem_nil) ⟨by decide, by decide⟩ (by decide) wL_cl_27 wL_ca_xN (fun q => ?_)
    refine e_astore_n hX 2 iL_removeRow_6 rfl (by decide) ?_
    refine e_sipush (v := (-1001)) hX iL_removeRow_7 (by decide) ?_
    exact e_iret hX hQ iL_removeRow_10 rfl (by decide) (by decide) (qP.thr hg9 hx9 hk1 (by decide) (by decide))
  · obtain ⟨hk, rfl, hg9, hx9⟩ := h9
    exact e_iret hX hQ iL_removeRow_5 rfl (by decide) (by decide) (qP.ok hg9 hx9 hk rfl)
theorem l_setValue (htr : l.stackTraces = false) (hg : GP θ ph g X σ) (id c y : Int32) : MCW yL_setValue cL_setValue 5 (some .int) [(0, 7, 8, 27), (0, 7, 14, 47), (0, 7, 20, 14)] 6 1 6 l θ [.ref g, .int id, .int c, .int y] ph (qP θ ph g X (k_val σ id c y) (a_valueAt σ id c) (s_val σ (fnd σ id) (ix c) y) σ) := by
  refine MCW.of htr (by decide) (Nat.le_of_ble_eq_true rfl) ?_
  intro x hX hQ hT
  obtain ⟨fs, hgo⟩ := hg.go
  refine e_aload_n hX 0 iL_setValue_0 rfl rfl ?_
  refine e_iload_n hX 1 iL_setValue_1 rfl rfl ?_
  refine e_iload_n hX 2 iL_setValue_2 rfl rfl ?_
  refine e_iload_n hX 3 iL_setValue_3 rfl rfl ?_
  refine e_callV hX iL_setValue_4 hgo (m_setValue htr hg id c y) rfl rfl ⟨by decide, by decide, by decide, by decide⟩ (Nat.le_of_ble_eq_true rfl) (fun E9 p9 h9 => ?_) (fun v9 p9 h9 => ?_)
  · obtain ⟨hk, hE, hg9, hx9⟩ := h9
    rcases ox3 hk hE with ⟨hk1, rfl⟩ | ⟨hk1, rfl⟩ | ⟨hk1, rfl⟩
    · refine e_catch hX hT [] (0, 7, 8, 27) [(0, 7, 14, 47), (0, 7, 20, 14)] rfl (fun q hq => absurd hq List.not_mem_nil) ⟨by decide, by decide⟩ (by decide) wL_cl_27 wL_ca_xN (fun q => ?_)
      refine e_astore hX iL_setValue_8 (by decide) ?_
      refine e_sipush (v := (-1001)) hX iL_setValue_10 (by decide) ?_
      exact e_iret hX hQ iL_setValue_13 rfl (by decide) (by decide) (qP.thr hg9 hx9 hk1 (by decide) (by decide))
    · refine e_catch hX hT [(0, 7, 8, 27)] (0, 7, 14, 47) [(0, 7, 20, 14)] rfl (List.forall_mem_cons.mpr ⟨⟨by decide, _, wL_cl_27, xm_xB, xm_xN, xn_xBxN⟩, fun q hq => absurd hq List.not_mem_nil⟩) ⟨by decide, by decide⟩ (by decide) wL_cl_47 wL_ca_xB (fun q => ?_)
      refine e_astore hX iL_setValue_14 (by decide) ?_
      refine e_sipush (v := (-1002)) hX iL_setValue_16 (by decide) ?_
      exact e_iret hX hQ iL_setValue_19 rfl (by decide) (by decide) (qP.thr hg9 hx9 hk1 (by decide) (by decide))
    · refine e_catch hX hT [(0, 7, 8, 27), (0, 7, 14, 47)] (0, 7, 20, 14) [] rfl (List.forall_mem_cons.mpr ⟨⟨by decide, _, wL_cl_27, xm_xA, xm_xN, xn_xAxN⟩, (List.forall_mem_cons.mpr ⟨⟨by decide, _, wL_cl_47, xm_xA, xm_xB, xn_xAxB⟩, fun q hq => absurd hq List.not_mem_nil⟩)⟩) ⟨by decide, by decide⟩ (by decide) wL_cl_14 wL_ca_xA (fun q => ?_)
      refine e_astore hX iL_setValue_20 (by decide) ?_
      refine e_sipush (v := (-1003)) hX iL_setValue_22 (by decide) ?_
      exact e_iret hX hQ iL_setValue_25 rfl (by decide) (by decide) (qP.thr hg9 hx9 hk1 (by decide) (by decide))
  · obtain ⟨hk, rfl, hg9, hx9⟩ := h9
    exact e_iret hX hQ iL_setValue_7 rfl (by decide) (by decide) (qP.ok hg9 hx9 hk rfl)
theorem l_rowAt (htr : l.stackTraces = false) (hg : GP θ ph g X σ) (q : Int32) : MCW yL_rowAt cL_rowAt 3 (some .int) [(0, 5, 6, 47)] 4 1 6 l θ [.ref g, .int q] ph (qP θ ph g X (k_at σ q) (a_rowAt σ q) σ σ) := by
  refine MCW.of htr (by decide) (Nat.le_of_ble_eq_true rfl) ?_
  intro x hX hQ hT
  obtain ⟨fs, hgo⟩ := hg.go
  refine e_aload_n hX 0 iL_rowAt_0 rfl rfl ?_
  refine e_iload_n hX 1 iL_rowAt_1 rfl rfl ?_
  refine e_callV hX iL_rowAt_2 hgo (m_rowAt htr hg q) rfl rfl ⟨by decide, by decide, by decide, by decide⟩ (Nat.le_of_ble_eq_true rfl) (fun E9 p9 h9 => ?_) (fun v9 p9 h9 => ?_)
  · obtain ⟨hk, hE, hg9, hx9⟩ := h9
    obtain ⟨hk1, rfl⟩ := ox1 hk hE
    refine e_catch hX hT [] (0, 5, 6, 47) [] rfl (fun q hq => absurd hq List.not_mem_nil) ⟨by decide, by decide⟩ (by decide) wL_cl_47 wL_ca_xB (fun q => ?_)
    refine e_astore_n hX 2 iL_rowAt_6 rfl (by decide) ?_
    refine e_sipush (v := (-1001)) hX iL_rowAt_7 (by decide) ?_
    exact e_iret hX hQ iL_rowAt_10 rfl (by decide) (by decide) (qP.thr hg9 hx9 hk1 (by decide) (by decide))
  · obtain ⟨hk, rfl, hg9, hx9⟩ := h9
    exact e_iret hX hQ iL_rowAt_5 rfl (by decide) (by decide) (qP.ok hg9 hx9 hk rfl)
theorem l_violations (htr : l.stackTraces = false) (hg : GP θ ph g X σ) (q : Int32) : MCW yL_violations cL_violations 3 (some .int) [(0, 5, 6, 47), (0, 5, 11, 16)] 5 1 6 l θ [.ref g, .int q] ph (qP θ ph g X (k_rule σ q) (nI (a_violations σ q)) σ σ) := by
  refine MCW.of htr (by decide) (Nat.le_of_ble_eq_true rfl) ?_
  intro x hX hQ hT
  obtain ⟨fs, hgo⟩ := hg.go
  refine e_aload_n hX 0 iL_violations_0 rfl rfl ?_
  refine e_iload_n hX 1 iL_violations_1 rfl rfl ?_
  refine e_callV hX iL_violations_2 hgo (m_violations htr hg q) rfl rfl ⟨by decide, by decide, by decide, by decide⟩ (Nat.le_of_ble_eq_true rfl) (fun E9 p9 h9 => ?_) (fun v9 p9 h9 => ?_)
  · obtain ⟨hk, hE, hg9, hx9⟩ := h9
    rcases ox2 hk hE with ⟨hk1, rfl⟩ | ⟨hk1, rfl⟩
    · refine e_catch hX hT [] (0, 5, 6, 47) [(0, 5, 11, 16)] rfl (fun q hq => absurd hq List.not_mem_nil) ⟨by decide, by decide⟩ (by decide) wL_cl_47 wL_ca_xB (fun q => ?_)
      refine e_astore_n hX 2 iL_violations_6 rfl (by decide) ?_
      refine e_sipush (v := (-1001)) hX iL_violations_7 (by decide) ?_
      exact e_iret hX hQ iL_violations_10 rfl (by decide) (by decide) (qP.thr hg9 hx9 hk1 (by decide) (by decide))
    · refine e_catch hX hT [(0, 5, 6, 47)] (0, 5, 11, 16) [] rfl (List.forall_mem_cons.mpr ⟨⟨by decide, _, wL_cl_47, xm_xS, xm_xB, xn_xSxB⟩, fun q hq => absurd hq List.not_mem_nil⟩) ⟨by decide, by decide⟩ (by decide) wL_cl_16 wL_ca_xS (fun q => ?_)
      refine e_astore_n hX 2 iL_violations_11 rfl (by decide) ?_
      refine e_sipush (v := (-1002)) hX iL_violations_12 (by decide) ?_
      exact e_iret hX hQ iL_violations_15 rfl (by decide) (by decide) (qP.thr hg9 hx9 hk1 (by decide) (by decide))
  · obtain ⟨hk, rfl, hg9, hx9⟩ := h9
    exact e_iret hX hQ iL_violations_5 rfl (by decide) (by decide) (qP.ok hg9 hx9 hk rfl)
theorem l_saveProfile (htr : l.stackTraces = false) (hg : GP θ ph g X σ)  : MCW yL_saveProfile cL_saveProfile 2 (some .int) [(0, 4, 5, 16)] 5 1 6 l θ [.ref g] ph (qP θ ph g X (k_save σ) (nI (gN σ)) (s_save σ) σ) := by
  refine MCW.of htr (by decide) (Nat.le_of_ble_eq_true rfl) ?_
  intro x hX hQ hT
  obtain ⟨fs, hgo⟩ := hg.go
  refine e_aload_n hX 0 iL_saveProfile_0 rfl rfl ?_
  refine e_callV hX iL_saveProfile_1 hgo (m_saveProfile htr hg ) rfl rfl ⟨by decide, by decide, by decide, by decide⟩ (Nat.le_of_ble_eq_true rfl) (fun E9 p9 h9 => ?_) (fun v9 p9 h9 => ?_)
  · obtain ⟨hk, hE, hg9, hx9⟩ := h9
    obtain ⟨hk1, rfl⟩ := ox1 hk hE
    refine e_catch hX hT [] (0, 4, 5, 16) [] rfl (fun q hq => absurd hq List.not_mem_nil) ⟨by decide, by decide⟩ (by decide) wL_cl_16 wL_ca_xS (fun q => ?_)
    refine e_astore_n hX 1 iL_saveProfile_5 rfl (by decide) ?_
    refine e_sipush (v := (-1001)) hX iL_saveProfile_6 (by decide) ?_
    exact e_iret hX hQ iL_saveProfile_9 rfl (by decide) (by decide) (qP.thr hg9 hx9 hk1 (by decide) (by decide))
  · obtain ⟨hk, rfl, hg9, hx9⟩ := h9
    exact e_iret hX hQ iL_saveProfile_4 rfl (by decide) (by decide) (qP.ok hg9 hx9 hk rfl)
theorem l_drift (htr : l.stackTraces = false) (hg : GP θ ph g X σ) (c : Int32) : MCW yL_drift cL_drift 3 (some .int) [(0, 5, 6, 47), (0, 5, 11, 27), (0, 5, 16, 16)] 6 1 6 l θ [.ref g, .int c] ph (qP θ ph g X (k_drift σ c) (drfN σ (ix c)) σ σ) := by
  refine MCW.of htr (by decide) (Nat.le_of_ble_eq_true rfl) ?_
  intro x hX hQ hT
  obtain ⟨fs, hgo⟩ := hg.go
  refine e_aload_n hX 0 iL_drift_0 rfl rfl ?_
  refine e_iload_n hX 1 iL_drift_1 rfl rfl ?_
  refine e_callV hX iL_drift_2 hgo (m_drift htr hg c) rfl rfl ⟨by decide, by decide, by decide, by decide⟩ (Nat.le_of_ble_eq_true rfl) (fun E9 p9 h9 => ?_) (fun v9 p9 h9 => ?_)
  · obtain ⟨hk, hE, hg9, hx9⟩ := h9
    rcases ox3 hk hE with ⟨hk1, rfl⟩ | ⟨hk1, rfl⟩ | ⟨hk1, rfl⟩
    · refine e_catch hX hT [] (0, 5, 6, 47) [(0, 5, 11, 27), (0, 5, 16, 16)] rfl (fun q hq => absurd hq List.not_mem_nil) ⟨by decide, by decide⟩ (by decide) wL_cl_47 wL_ca_xB (fun q => ?_)
      refine e_astore_n hX 2 iL_drift_6 rfl (by decide) ?_
      refine e_sipush (v := (-1001)) hX iL_drift_7 (by decide) ?_
      exact e_iret hX hQ iL_drift_10 rfl (by decide) (by decide) (qP.thr hg9 hx9 hk1 (by decide) (by decide))
    · refine e_catch hX hT [(0, 5, 6, 47)] (0, 5, 11, 27) [(0, 5, 16, 16)] rfl (List.forall_mem_cons.mpr ⟨⟨by decide, _, wL_cl_47, xm_xN, xm_xB, xn_xNxB⟩, fun q hq => absurd hq List.not_mem_nil⟩) ⟨by decide, by decide⟩ (by decide) wL_cl_27 wL_ca_xN (fun q => ?_)
      refine e_astore_n hX 2 iL_drift_11 rfl (by decide) ?_
      refine e_sipush (v := (-1002)) hX iL_drift_12 (by decide) ?_
      exact e_iret hX hQ iL_drift_15 rfl (by decide) (by decide) (qP.thr hg9 hx9 hk1 (by decide) (by decide))
    · refine e_catch hX hT [(0, 5, 6, 47), (0, 5, 11, 27)] (0, 5, 16, 16) [] rfl (List.forall_mem_cons.mpr ⟨⟨by decide, _, wL_cl_47, xm_xS, xm_xB, xn_xSxB⟩, (List.forall_mem_cons.mpr ⟨⟨by decide, _, wL_cl_27, xm_xS, xm_xN, xn_xSxN⟩, fun q hq => absurd hq List.not_mem_nil⟩)⟩) ⟨by decide, by decide⟩ (by decide) wL_cl_16 wL_ca_xS (fun q => ?_)
      refine e_astore_n hX 2 iL_drift_16 rfl (by decide) ?_
      refine e_sipush (v := (-1003)) hX iL_drift_17 (by decide) ?_
      exact e_iret hX hQ iL_drift_20 rfl (by decide) (by decide) (qP.thr hg9 hx9 hk1 (by decide) (by decide))
  · obtain ⟨hk, rfl, hg9, hx9⟩ := h9
    exact e_iret hX hQ iL_drift_5 rfl (by decide) (by decide) (qP.ok hg9 hx9 hk rfl)
theorem l_mostDrifted (htr : l.stackTraces = false) (hg : GP θ ph g X σ)  : MCW yL_mostDrifted cL_mostDrifted 2 (some .int) [(0, 4, 5, 27), (0, 4, 10, 16)] 6 1 6 l θ [.ref g] ph (qP θ ph g X (k_most σ) (nI (mstG (drfN σ) 5).1) σ σ) := by
  refine MCW.of htr (by decide) (Nat.le_of_ble_eq_true rfl) ?_
  intro x hX hQ hT
  obtain ⟨fs, hgo⟩ := hg.go
  refine e_aload_n hX 0 iL_mostDrifted_0 rfl rfl ?_
  refine e_callV hX iL_mostDrifted_1 hgo (m_mostDrifted htr hg ) rfl rfl ⟨by decide, by decide, by decide, by decide⟩ (Nat.le_of_ble_eq_true rfl) (fun E9 p9 h9 => ?_) (fun v9 p9 h9 => ?_)
  · obtain ⟨hk, hE, hg9, hx9⟩ := h9
    rcases ox2 hk hE with ⟨hk1, rfl⟩ | ⟨hk1, rfl⟩
    · refine e_catch hX hT [] (0, 4, 5, 27) [(0, 4, 10, 16)] rfl (fun q hq => absurd hq List.not_mem_nil) ⟨by decide, by decide⟩ (by decide) wL_cl_27 wL_ca_xN (fun q => ?_)
      refine e_astore_n hX 1 iL_mostDrifted_5 rfl (by decide) ?_
      refine e_sipush (v := (-1001)) hX iL_mostDrifted_6 (by decide) ?_
      exact e_iret hX hQ iL_mostDrifted_9 rfl (by decide) (by decide) (qP.thr hg9 hx9 hk1 (by decide) (by decide))
    · refine e_catch hX hT [(0, 4, 5, 27)] (0, 4, 10, 16) [] rfl (List.forall_mem_cons.mpr ⟨⟨by decide, _, wL_cl_27, xm_xS, xm_xN, xn_xSxN⟩, fun q hq => absurd hq List.not_mem_nil⟩) ⟨by decide, by decide⟩ (by decide) wL_cl_16 wL_ca_xS (fun q => ?_)
      refine e_astore_n hX 1 iL_mostDrifted_10 rfl (by decide) ?_
      refine e_sipush (v := (-1002)) hX iL_mostDrifted_11 (by decide) ?_
      exact e_iret hX hQ iL_mostDrifted_14 rfl (by decide) (by decide) (qP.thr hg9 hx9 hk1 (by decide) (by decide))
  · obtain ⟨hk, rfl, hg9, hx9⟩ := h9
    exact e_iret hX hQ iL_mostDrifted_4 rfl (by decide) (by decide) (qP.ok hg9 hx9 hk rfl)
theorem l_isInRepair (htr : l.stackTraces = false) (hg : GP θ ph g X σ) (id : Int32) : MCW yL_isInRepair cL_isInRepair 3 (some .int) [(0, 13, 14, 27)] 17 1 6 l θ [.ref g, .int id] ph (qP θ ph g X (k_id σ id) (b2i ((bstN σ).testBit (fnd σ id))) σ σ) := by
  refine MCW.of htr (by decide) (Nat.le_of_ble_eq_true rfl) ?_
  intro x hX hQ hT
  obtain ⟨fs, hgo⟩ := hg.go
  refine e_aload_n hX 0 iL_isInRepair_0 rfl rfl ?_
  refine e_iload_n hX 1 iL_isInRepair_1 rfl rfl ?_
  refine e_callV hX iL_isInRepair_2 hgo (m_isInRepair htr hg id) rfl rfl ⟨by decide, by decide, by decide, by decide⟩ (Nat.le_of_ble_eq_true rfl) (fun E9 p9 h9 => ?_) (fun v9 p9 h9 => ?_)
  · obtain ⟨hk, hE, hg9, hx9⟩ := h9
    obtain ⟨hk1, rfl⟩ := ox1 hk hE
    refine e_catch hX hT [] (0, 13, 14, 27) [] rfl (fun q hq => absurd hq List.not_mem_nil) ⟨by decide, by decide⟩ (by decide) wL_cl_27 wL_ca_xN (fun q => ?_)
    refine e_astore_n hX 2 iL_isInRepair_14 rfl (by decide) ?_
    refine e_sipush (v := (-1001)) hX iL_isInRepair_15 (by decide) ?_
    exact e_iret hX hQ iL_isInRepair_18 rfl (by decide) (by decide) (qP.thr hg9 hx9 hk1 (by decide) (by decide))
  · obtain ⟨hk, rfl, hg9, hx9⟩ := h9
    refine e_if_eq hX iL_isInRepair_5 (fun c5 => ?_) (fun c5 => ?_)
    · refine e_iconst (v := 0) hX iL_isInRepair_12 (by decide) ?_
      exact e_iret hX hQ iL_isInRepair_13 rfl (by decide) (by decide) (qP.ok hg9 hx9 hk c5.symm)
    · refine e_iconst (v := 1) hX iL_isInRepair_8 (by decide) ?_
      refine e_goto hX iL_isInRepair_9 ?_
      exact e_iret hX hQ iL_isInRepair_13 rfl (by decide) (by decide) (qP.ok hg9 hx9 hk (b2i_n1 c5))
theorem l_isBad (htr : l.stackTraces = false) (hg : GP θ ph g X σ) (id : Int32) : MCW yL_isBad cL_isBad 3 (some .int) [(0, 13, 14, 27)] 6 1 6 l θ [.ref g, .int id] ph (qP θ ph g X (k_id σ id) (b2i (a_isBad σ id)) σ σ) := by
  refine MCW.of htr (by decide) (Nat.le_of_ble_eq_true rfl) ?_
  intro x hX hQ hT
  obtain ⟨fs, hgo⟩ := hg.go
  refine e_aload_n hX 0 iL_isBad_0 rfl rfl ?_
  refine e_iload_n hX 1 iL_isBad_1 rfl rfl ?_
  refine e_callV hX iL_isBad_2 hgo (m_isBad htr hg id) rfl rfl ⟨by decide, by decide, by decide, by decide⟩ (Nat.le_of_ble_eq_true rfl) (fun E9 p9 h9 => ?_) (fun v9 p9 h9 => ?_)
  · obtain ⟨hk, hE, hg9, hx9⟩ := h9
    obtain ⟨hk1, rfl⟩ := ox1 hk hE
    refine e_catch hX hT [] (0, 13, 14, 27) [] rfl (fun q hq => absurd hq List.not_mem_nil) ⟨by decide, by decide⟩ (by decide) wL_cl_27 wL_ca_xN (fun q => ?_)
    refine e_astore_n hX 2 iL_isBad_14 rfl (by decide) ?_
    refine e_sipush (v := (-1001)) hX iL_isBad_15 (by decide) ?_
    exact e_iret hX hQ iL_isBad_18 rfl (by decide) (by decide) (qP.thr hg9 hx9 hk1 (by decide) (by decide))
  · obtain ⟨hk, rfl, hg9, hx9⟩ := h9
    refine e_if_eq hX iL_isBad_5 (fun c5 => ?_) (fun c5 => ?_)
    · refine e_iconst (v := 0) hX iL_isBad_12 (by decide) ?_
      exact e_iret hX hQ iL_isBad_13 rfl (by decide) (by decide) (qP.ok hg9 hx9 hk c5.symm)
    · refine e_iconst (v := 1) hX iL_isBad_8 (by decide) ?_
      refine e_goto hX iL_isBad_9 ?_
      exact e_iret hX hQ iL_isBad_13 rfl (by decide) (by decide) (qP.ok hg9 hx9 hk (b2i_n1 c5))
theorem l_conflict (htr : l.stackTraces = false) (hg : GP θ ph g X σ) (id id2 : Int32) : MCW yL_conflict cL_conflict 4 (some .int) [(0, 14, 15, 27), (0, 14, 20, 14)] 6 1 6 l θ [.ref g, .int id, .int id2] ph (qP θ ph g X (k_conf σ id id2) (b2i (a_conflict σ id id2)) σ σ) := by
  refine MCW.of htr (by decide) (Nat.le_of_ble_eq_true rfl) ?_
  intro x hX hQ hT
  obtain ⟨fs, hgo⟩ := hg.go
  refine e_aload_n hX 0 iL_conflict_0 rfl rfl ?_
  refine e_iload_n hX 1 iL_conflict_1 rfl rfl ?_
  refine e_iload_n hX 2 iL_conflict_2 rfl rfl ?_
  refine e_callV hX iL_conflict_3 hgo (m_conflict htr hg id id2) rfl rfl ⟨by decide, by decide, by decide, by decide⟩ (Nat.le_of_ble_eq_true rfl) (fun E9 p9 h9 => ?_) (fun v9 p9 h9 => ?_)
  · obtain ⟨hk, hE, hg9, hx9⟩ := h9
    rcases ox2 hk hE with ⟨hk1, rfl⟩ | ⟨hk1, rfl⟩
    · refine e_catch hX hT [] (0, 14, 15, 27) [(0, 14, 20, 14)] rfl (fun q hq => absurd hq List.not_mem_nil) ⟨by decide, by decide⟩ (by decide) wL_cl_27 wL_ca_xN (fun q => ?_)
      refine e_astore_n hX 3 iL_conflict_15 rfl (by decide) ?_
      refine e_sipush (v := (-1001)) hX iL_conflict_16 (by decide) ?_
      exact e_iret hX hQ iL_conflict_19 rfl (by decide) (by decide) (qP.thr hg9 hx9 hk1 (by decide) (by decide))
    · refine e_catch hX hT [(0, 14, 15, 27)] (0, 14, 20, 14) [] rfl (List.forall_mem_cons.mpr ⟨⟨by decide, _, wL_cl_27, xm_xA, xm_xN, xn_xAxN⟩, fun q hq => absurd hq List.not_mem_nil⟩) ⟨by decide, by decide⟩ (by decide) wL_cl_14 wL_ca_xA (fun q => ?_)
      refine e_astore_n hX 3 iL_conflict_20 rfl (by decide) ?_
      refine e_sipush (v := (-1002)) hX iL_conflict_21 (by decide) ?_
      exact e_iret hX hQ iL_conflict_24 rfl (by decide) (by decide) (qP.thr hg9 hx9 hk1 (by decide) (by decide))
  · obtain ⟨hk, rfl, hg9, hx9⟩ := h9
    refine e_if_eq hX iL_conflict_6 (fun c6 => ?_) (fun c6 => ?_)
    · refine e_iconst (v := 0) hX iL_conflict_13 (by decide) ?_
      exact e_iret hX hQ iL_conflict_14 rfl (by decide) (by decide) (qP.ok hg9 hx9 hk c6.symm)
    · refine e_iconst (v := 1) hX iL_conflict_9 (by decide) ?_
      refine e_goto hX iL_conflict_10 ?_
      exact e_iret hX hQ iL_conflict_14 rfl (by decide) (by decide) (qP.ok hg9 hx9 hk (b2i_n1 c6))
theorem l_groupSize (htr : l.stackTraces = false) (hg : GP θ ph g X σ) (id : Int32) : MCW yL_groupSize cL_groupSize 3 (some .int) [(0, 5, 6, 27)] 6 1 6 l θ [.ref g, .int id] ph (qP θ ph g X (k_id σ id) (nI (popN (rchN σ (fnd σ id)))) σ σ) := by
  refine MCW.of htr (by decide) (Nat.le_of_ble_eq_true rfl) ?_
  intro x hX hQ hT
  obtain ⟨fs, hgo⟩ := hg.go
  refine e_aload_n hX 0 iL_groupSize_0 rfl rfl ?_
  refine e_iload_n hX 1 iL_groupSize_1 rfl rfl ?_
  refine e_callV hX iL_groupSize_2 hgo (m_groupSize htr hg id) rfl rfl ⟨by decide, by decide, by decide, by decide⟩ (Nat.le_of_ble_eq_true rfl) (fun E9 p9 h9 => ?_) (fun v9 p9 h9 => ?_)
  · obtain ⟨hk, hE, hg9, hx9⟩ := h9
    obtain ⟨hk1, rfl⟩ := ox1 hk hE
    refine e_catch hX hT [] (0, 5, 6, 27) [] rfl (fun q hq => absurd hq List.not_mem_nil) ⟨by decide, by decide⟩ (by decide) wL_cl_27 wL_ca_xN (fun q => ?_)
    refine e_astore_n hX 2 iL_groupSize_6 rfl (by decide) ?_
    refine e_sipush (v := (-1001)) hX iL_groupSize_7 (by decide) ?_
    exact e_iret hX hQ iL_groupSize_10 rfl (by decide) (by decide) (qP.thr hg9 hx9 hk1 (by decide) (by decide))
  · obtain ⟨hk, rfl, hg9, hx9⟩ := h9
    exact e_iret hX hQ iL_groupSize_5 rfl (by decide) (by decide) (qP.ok hg9 hx9 hk rfl)
theorem l_closureOf (htr : l.stackTraces = false) (hg : GP θ ph g X σ) (s : Int32) : MCW yL_closureOf cL_closureOf 3 (some .int) [(0, 5, 6, 14)] 6 1 6 l θ [.ref g, .int s] ph (qP θ ph g X (k_set s) (nI (a_clos σ (ix s))) σ σ) := by
  refine MCW.of htr (by decide) (Nat.le_of_ble_eq_true rfl) ?_
  intro x hX hQ hT
  obtain ⟨fs, hgo⟩ := hg.go
  refine e_aload_n hX 0 iL_closureOf_0 rfl rfl ?_
  refine e_iload_n hX 1 iL_closureOf_1 rfl rfl ?_
  refine e_callV hX iL_closureOf_2 hgo (m_closureOf htr hg s) rfl rfl ⟨by decide, by decide, by decide, by decide⟩ (Nat.le_of_ble_eq_true rfl) (fun E9 p9 h9 => ?_) (fun v9 p9 h9 => ?_)
  · obtain ⟨hk, hE, hg9, hx9⟩ := h9
    obtain ⟨hk1, rfl⟩ := ox1 hk hE
    refine e_catch hX hT [] (0, 5, 6, 14) [] rfl (fun q hq => absurd hq List.not_mem_nil) ⟨by decide, by decide⟩ (by decide) wL_cl_14 wL_ca_xA (fun q => ?_)
    refine e_astore_n hX 2 iL_closureOf_6 rfl (by decide) ?_
    refine e_sipush (v := (-1001)) hX iL_closureOf_7 (by decide) ?_
    exact e_iret hX hQ iL_closureOf_10 rfl (by decide) (by decide) (qP.thr hg9 hx9 hk1 (by decide) (by decide))
  · obtain ⟨hk, rfl, hg9, hx9⟩ := h9
    exact e_iret hX hQ iL_closureOf_5 rfl (by decide) (by decide) (qP.ok hg9 hx9 hk rfl)
theorem l_isKey (htr : l.stackTraces = false) (hg : GP θ ph g X σ) (s : Int32) : MCW yL_isKey cL_isKey 3 (some .int) [(0, 13, 14, 14)] 6 1 6 l θ [.ref g, .int s] ph (qP θ ph g X (k_set s) (b2i (keyB s (gN σ) (gV σ))) σ σ) := by
  refine MCW.of htr (by decide) (Nat.le_of_ble_eq_true rfl) ?_
  intro x hX hQ hT
  obtain ⟨fs, hgo⟩ := hg.go
  refine e_aload_n hX 0 iL_isKey_0 rfl rfl ?_
  refine e_iload_n hX 1 iL_isKey_1 rfl rfl ?_
  refine e_callV hX iL_isKey_2 hgo (m_isKey htr hg s) rfl rfl ⟨by decide, by decide, by decide, by decide⟩ (Nat.le_of_ble_eq_true rfl) (fun E9 p9 h9 => ?_) (fun v9 p9 h9 => ?_)
  · obtain ⟨hk, hE, hg9, hx9⟩ := h9
    obtain ⟨hk1, rfl⟩ := ox1 hk hE
    refine e_catch hX hT [] (0, 13, 14, 14) [] rfl (fun q hq => absurd hq List.not_mem_nil) ⟨by decide, by decide⟩ (by decide) wL_cl_14 wL_ca_xA (fun q => ?_)
    refine e_astore_n hX 2 iL_isKey_14 rfl (by decide) ?_
    refine e_sipush (v := (-1001)) hX iL_isKey_15 (by decide) ?_
    exact e_iret hX hQ iL_isKey_18 rfl (by decide) (by decide) (qP.thr hg9 hx9 hk1 (by decide) (by decide))
  · obtain ⟨hk, rfl, hg9, hx9⟩ := h9
    refine e_if_eq hX iL_isKey_5 (fun c5 => ?_) (fun c5 => ?_)
    · refine e_iconst (v := 0) hX iL_isKey_12 (by decide) ?_
      exact e_iret hX hQ iL_isKey_13 rfl (by decide) (by decide) (qP.ok hg9 hx9 hk c5.symm)
    · refine e_iconst (v := 1) hX iL_isKey_8 (by decide) ?_
      refine e_goto hX iL_isKey_9 ?_
      exact e_iret hX hQ iL_isKey_13 rfl (by decide) (by decide) (qP.ok hg9 hx9 hk (b2i_n1 c5))
end WA0
