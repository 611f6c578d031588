/-! the law's calls of the class (printed by gen51.py) -/
section WA1
variable {l : Launch} {θ : e_T} {ph : e_PH} {g : Nat} {X : Nat → Prop} {σ : SG}
theorem l_determines (htr : l.stackTraces = false) (hg : GP θ ph g X σ) (s c : Int32) : MCW yL_determines cL_determines 4 (some .int) [(0, 14, 15, 14), (0, 14, 20, 47)] 6 1 6 l θ [.ref g, .int s, .int c] ph (qP θ ph g X (k_det s c) (b2i (a_det σ s c)) σ σ) := by
  refine MCW.of htr (by decide) (Nat.le_of_ble_eq_true rfl) ?_
  intro x hX hQ hT
  obtain ⟨fs, hgo⟩ := hg.go
  refine e_aload_n hX 0 iL_determines_0 rfl rfl ?_
  refine e_iload_n hX 1 iL_determines_1 rfl rfl ?_
  refine e_iload_n hX 2 iL_determines_2 rfl rfl ?_
  refine e_callV hX iL_determines_3 hgo (m_determines htr hg s c) rfl rfl ⟨by decide, by decide, by decide, by decide⟩ (Nat.le_of_ble_eq_true rfl) (fun E9 p9 h9 => ?_) (fun v9 p9 h9 => ?_)
  · obtain ⟨hk, hE, hg9, hx9⟩ := h9
    rcases ox2 hk hE with ⟨hk1, rfl⟩ | ⟨hk1, rfl⟩
    · refine e_catch hX hT [] (0, 14, 15, 14) [(0, 14, 20, 47)] rfl (fun q hq => absurd hq List.not_mem_nil) ⟨by decide, by decide⟩ (by decide) wL_cl_14 wL_ca_xA (fun q => ?_)
      refine e_astore_n hX 3 iL_determines_15 rfl (by decide) ?_
      refine e_sipush (v := (-1001)) hX iL_determines_16 (by decide) ?_
      exact e_iret hX hQ iL_determines_19 rfl (by decide) (by decide) (qP.thr hg9 hx9 hk1 (by decide) (by decide))
    · refine e_catch hX hT [(0, 14, 15, 14)] (0, 14, 20, 47) [] rfl (List.forall_mem_cons.mpr ⟨⟨by decide, _, wL_cl_14, xm_xB, xm_xA, xn_xBxA⟩, fun q hq => absurd hq List.not_mem_nil⟩) ⟨by decide, by decide⟩ (by decide) wL_cl_47 wL_ca_xB (fun q => ?_)
      refine e_astore_n hX 3 iL_determines_20 rfl (by decide) ?_
      refine e_sipush (v := (-1002)) hX iL_determines_21 (by decide) ?_
      exact e_iret hX hQ iL_determines_24 rfl (by decide) (by decide) (qP.thr hg9 hx9 hk1 (by decide) (by decide))
  · obtain ⟨hk, rfl, hg9, hx9⟩ := h9
    refine e_if_eq hX iL_determines_6 (fun c6 => ?_) (fun c6 => ?_)
    · refine e_iconst (v := 0) hX iL_determines_13 (by decide) ?_
      exact e_iret hX hQ iL_determines_14 rfl (by decide) (by decide) (qP.ok hg9 hx9 hk c6.symm)
    · refine e_iconst (v := 1) hX iL_determines_9 (by decide) ?_
      refine e_goto hX iL_determines_10 ?_
      exact e_iret hX hQ iL_determines_14 rfl (by decide) (by decide) (qP.ok hg9 hx9 hk (b2i_n1 c6))
theorem l_determinesByPairs (htr : l.stackTraces = false) (hg : GP θ ph g X σ) (s c : Int32) : MCW yL_determinesByPairs cL_determinesByPairs 4 (some .int) [(0, 14, 15, 14), (0, 14, 20, 47)] 6 1 6 l θ [.ref g, .int s, .int c] ph (qP θ ph g X (k_det s c) (b2i (a_det σ s c)) σ σ) := by
  refine MCW.of htr (by decide) (Nat.le_of_ble_eq_true rfl) ?_
  intro x hX hQ hT
  obtain ⟨fs, hgo⟩ := hg.go
  refine e_aload_n hX 0 iL_determinesByPairs_0 rfl rfl ?_
  refine e_iload_n hX 1 iL_determinesByPairs_1 rfl rfl ?_
  refine e_iload_n hX 2 iL_determinesByPairs_2 rfl rfl ?_
  refine e_callV hX iL_determinesByPairs_3 hgo (m_determinesP htr hg s c) rfl rfl ⟨by decide, by decide, by decide, by decide⟩ (Nat.le_of_ble_eq_true rfl) (fun E9 p9 h9 => ?_) (fun v9 p9 h9 => ?_)
  · obtain ⟨hk, hE, hg9, hx9⟩ := h9
    rcases ox2 hk hE with ⟨hk1, rfl⟩ | ⟨hk1, rfl⟩
    · refine e_catch hX hT [] (0, 14, 15, 14) [(0, 14, 20, 47)] rfl (fun q hq => absurd hq List.not_mem_nil) ⟨by decide, by decide⟩ (by decide) wL_cl_14 wL_ca_xA (fun q => ?_)
      refine e_astore_n hX 3 iL_determinesByPairs_15 rfl (by decide) ?_
      refine e_sipush (v := (-1001)) hX iL_determinesByPairs_16 (by decide) ?_
      exact e_iret hX hQ iL_determinesByPairs_19 rfl (by decide) (by decide) (qP.thr hg9 hx9 hk1 (by decide) (by decide))
    · refine e_catch hX hT [(0, 14, 15, 14)] (0, 14, 20, 47) [] rfl (List.forall_mem_cons.mpr ⟨⟨by decide, _, wL_cl_14, xm_xB, xm_xA, xn_xBxA⟩, fun q hq => absurd hq List.not_mem_nil⟩) ⟨by decide, by decide⟩ (by decide) wL_cl_47 wL_ca_xB (fun q => ?_)
      refine e_astore_n hX 3 iL_determinesByPairs_20 rfl (by decide) ?_
      refine e_sipush (v := (-1002)) hX iL_determinesByPairs_21 (by decide) ?_
      exact e_iret hX hQ iL_determinesByPairs_24 rfl (by decide) (by decide) (qP.thr hg9 hx9 hk1 (by decide) (by decide))
  · obtain ⟨hk, rfl, hg9, hx9⟩ := h9
    refine e_if_eq hX iL_determinesByPairs_6 (fun c6 => ?_) (fun c6 => ?_)
    · refine e_iconst (v := 0) hX iL_determinesByPairs_13 (by decide) ?_
      exact e_iret hX hQ iL_determinesByPairs_14 rfl (by decide) (by decide) (qP.ok hg9 hx9 hk c6.symm)
    · refine e_iconst (v := 1) hX iL_determinesByPairs_9 (by decide) ?_
      refine e_goto hX iL_determinesByPairs_10 ?_
      exact e_iret hX hQ iL_determinesByPairs_14 rfl (by decide) (by decide) (qP.ok hg9 hx9 hk (b2i_n1 c6))
theorem l_errorOf (htr : l.stackTraces = false) (hg : GP θ ph g X σ) (s c : Int32) : MCW yL_errorOf cL_errorOf 4 (some .int) [(0, 6, 7, 47), (0, 6, 12, 14)] 7 1 6 l θ [.ref g, .int s, .int c] ph (qP θ ph g X (k_err s c) (nI (errN s (ix c) (gN σ) (gV σ))) σ σ) := by
  refine MCW.of htr (by decide) (Nat.le_of_ble_eq_true rfl) ?_
  intro x hX hQ hT
  obtain ⟨fs, hgo⟩ := hg.go
  refine e_aload_n hX 0 iL_errorOf_0 rfl rfl ?_
  refine e_iload_n hX 1 iL_errorOf_1 rfl rfl ?_
  refine e_iload_n hX 2 iL_errorOf_2 rfl rfl ?_
  refine e_callV hX iL_errorOf_3 hgo (m_errorOf htr hg s c) rfl rfl ⟨by decide, by decide, by decide, by decide⟩ (Nat.le_of_ble_eq_true rfl) (fun E9 p9 h9 => ?_) (fun v9 p9 h9 => ?_)
  · obtain ⟨hk, hE, hg9, hx9⟩ := h9
    rcases ox2 hk hE with ⟨hk1, rfl⟩ | ⟨hk1, rfl⟩
    · refine e_catch hX hT [] (0, 6, 7, 47) [(0, 6, 12, 14)] rfl (fun q hq => absurd hq List.not_mem_nil) ⟨by decide, by decide⟩ (by decide) wL_cl_47 wL_ca_xB (fun q => ?_)
      refine e_astore_n hX 3 iL_errorOf_7 rfl (by decide) ?_
      refine e_sipush (v := (-1001)) hX iL_errorOf_8 (by decide) ?_
      exact e_iret hX hQ iL_errorOf_11 rfl (by decide) (by decide) (qP.thr hg9 hx9 hk1 (by decide) (by decide))
    · refine e_catch hX hT [(0, 6, 7, 47)] (0, 6, 12, 14) [] rfl (List.forall_mem_cons.mpr ⟨⟨by decide, _, wL_cl_47, xm_xA, xm_xB, xn_xAxB⟩, fun q hq => absurd hq List.not_mem_nil⟩) ⟨by decide, by decide⟩ (by decide) wL_cl_14 wL_ca_xA (fun q => ?_)
      refine e_astore_n hX 3 iL_errorOf_12 rfl (by decide) ?_
      refine e_sipush (v := (-1002)) hX iL_errorOf_13 (by decide) ?_
      exact e_iret hX hQ iL_errorOf_16 rfl (by decide) (by decide) (qP.thr hg9 hx9 hk1 (by decide) (by decide))
  · obtain ⟨hk, rfl, hg9, hx9⟩ := h9
    exact e_iret hX hQ iL_errorOf_6 rfl (by decide) (by decide) (qP.ok hg9 hx9 hk rfl)
theorem l_minimalCount (htr : l.stackTraces = false) (hg : GP θ ph g X σ) (c : Int32) : MCW yL_minimalCount cL_minimalCount 3 (some .int) [(0, 5, 6, 47)] 7 1 6 l θ [.ref g, .int c] ph (qP θ ph g X (k_col c) (nI (pop32 (minM σ (ix c)))) σ σ) := by
  refine MCW.of htr (by decide) (Nat.le_of_ble_eq_true rfl) ?_
  intro x hX hQ hT
  obtain ⟨fs, hgo⟩ := hg.go
  refine e_aload_n hX 0 iL_minimalCount_0 rfl rfl ?_
  refine e_iload_n hX 1 iL_minimalCount_1 rfl rfl ?_
  refine e_callV hX iL_minimalCount_2 hgo (m_minimalCount htr hg c) rfl rfl ⟨by decide, by decide, by decide, by decide⟩ (Nat.le_of_ble_eq_true rfl) (fun E9 p9 h9 => ?_) (fun v9 p9 h9 => ?_)
  · obtain ⟨hk, hE, hg9, hx9⟩ := h9
    obtain ⟨hk1, rfl⟩ := ox1 hk hE
    refine e_catch hX hT [] (0, 5, 6, 47) [] rfl (fun q hq => absurd hq List.not_mem_nil) ⟨by decide, by decide⟩ (by decide) wL_cl_47 wL_ca_xB (fun q => ?_)
    refine e_astore_n hX 2 iL_minimalCount_6 rfl (by decide) ?_
    refine e_sipush (v := (-1001)) hX iL_minimalCount_7 (by decide) ?_
    exact e_iret hX hQ iL_minimalCount_10 rfl (by decide) (by decide) (qP.thr hg9 hx9 hk1 (by decide) (by decide))
  · obtain ⟨hk, rfl, hg9, hx9⟩ := h9
    exact e_iret hX hQ iL_minimalCount_5 rfl (by decide) (by decide) (qP.ok hg9 hx9 hk rfl)
theorem l_minimalCountByTrying (htr : l.stackTraces = false) (hg : GP θ ph g X σ) (c : Int32) : MCW yL_minimalCountByTrying cL_minimalCountByTrying 3 (some .int) [(0, 5, 6, 47)] 7 1 6 l θ [.ref g, .int c] ph (qP θ ph g X (k_col c) (nI (a_minT σ (ix c))) σ σ) := by
  refine MCW.of htr (by decide) (Nat.le_of_ble_eq_true rfl) ?_
  intro x hX hQ hT
  obtain ⟨fs, hgo⟩ := hg.go
  refine e_aload_n hX 0 iL_minimalCountByTrying_0 rfl rfl ?_
  refine e_iload_n hX 1 iL_minimalCountByTrying_1 rfl rfl ?_
  refine e_callV hX iL_minimalCountByTrying_2 hgo (m_minimalCountT htr hg c) rfl rfl ⟨by decide, by decide, by decide, by decide⟩ (Nat.le_of_ble_eq_true rfl) (fun E9 p9 h9 => ?_) (fun v9 p9 h9 => ?_)
  · obtain ⟨hk, hE, hg9, hx9⟩ := h9
    obtain ⟨hk1, rfl⟩ := ox1 hk hE
    refine e_catch hX hT [] (0, 5, 6, 47) [] rfl (fun q hq => absurd hq List.not_mem_nil) ⟨by decide, by decide⟩ (by decide) wL_cl_47 wL_ca_xB (fun q => ?_)
    refine e_astore_n hX 2 iL_minimalCountByTrying_6 rfl (by decide) ?_
    refine e_sipush (v := (-1001)) hX iL_minimalCountByTrying_7 (by decide) ?_
    exact e_iret hX hQ iL_minimalCountByTrying_10 rfl (by decide) (by decide) (qP.thr hg9 hx9 hk1 (by decide) (by decide))
  · obtain ⟨hk, rfl, hg9, hx9⟩ := h9
    exact e_iret hX hQ iL_minimalCountByTrying_5 rfl (by decide) (by decide) (qP.ok hg9 hx9 hk rfl)
theorem l_minimalAt (htr : l.stackTraces = false) (hg : GP θ ph g X σ) (c q : Int32) : MCW yL_minimalAt cL_minimalAt 4 (some .int) [(0, 6, 7, 47)] 7 1 6 l θ [.ref g, .int c, .int q] ph (qP θ ph g X (k_minAt σ c q) (a_minAt σ c q) σ σ) := by
  refine MCW.of htr (by decide) (Nat.le_of_ble_eq_true rfl) ?_
  intro x hX hQ hT
  obtain ⟨fs, hgo⟩ := hg.go
  refine e_aload_n hX 0 iL_minimalAt_0 rfl rfl ?_
  refine e_iload_n hX 1 iL_minimalAt_1 rfl rfl ?_
  refine e_iload_n hX 2 iL_minimalAt_2 rfl rfl ?_
  refine e_callV hX iL_minimalAt_3 hgo (m_minimalAt htr hg c q) rfl rfl ⟨by decide, by decide, by decide, by decide⟩ (Nat.le_of_ble_eq_true rfl) (fun E9 p9 h9 => ?_) (fun v9 p9 h9 => ?_)
  · obtain ⟨hk, hE, hg9, hx9⟩ := h9
    obtain ⟨hk1, rfl⟩ := ox1 hk hE
    refine e_catch hX hT [] (0, 6, 7, 47) [] rfl (fun q hq => absurd hq List.not_mem_nil) ⟨by decide, by decide⟩ (by decide) wL_cl_47 wL_ca_xB (fun q => ?_)
    refine e_astore_n hX 3 iL_minimalAt_7 rfl (by decide) ?_
    refine e_sipush (v := (-1001)) hX iL_minimalAt_8 (by decide) ?_
    exact e_iret hX hQ iL_minimalAt_11 rfl (by decide) (by decide) (qP.thr hg9 hx9 hk1 (by decide) (by decide))
  · obtain ⟨hk, rfl, hg9, hx9⟩ := h9
    exact e_iret hX hQ iL_minimalAt_6 rfl (by decide) (by decide) (qP.ok hg9 hx9 hk rfl)
theorem l_smallestKey (htr : l.stackTraces = false) (hg : GP θ ph g X σ)  : MCW yL_smallestKey cL_smallestKey 2 (some .int) [(0, 4, 5, 27)] 6 1 6 l θ [.ref g] ph (qP θ ph g X (k_sk σ) (a_sk σ) σ σ) := by
  refine MCW.of htr (by decide) (Nat.le_of_ble_eq_true rfl) ?_
  intro x hX hQ hT
  obtain ⟨fs, hgo⟩ := hg.go
  refine e_aload_n hX 0 iL_smallestKey_0 rfl rfl ?_
  refine e_callV hX iL_smallestKey_1 hgo (m_smallestKey htr hg ) rfl rfl ⟨by decide, by decide, by decide, by decide⟩ (Nat.le_of_ble_eq_true rfl) (fun E9 p9 h9 => ?_) (fun v9 p9 h9 => ?_)
  · obtain ⟨hk, hE, hg9, hx9⟩ := h9
    obtain ⟨hk1, rfl⟩ := ox1 hk hE
    refine e_catch hX hT [] (0, 4, 5, 27) [] rfl (fun q hq => absurd hq List.not_mem_nil) ⟨by decide, by decide⟩ (by decide) wL_cl_27 wL_ca_xN (fun q => ?_)
    refine e_astore_n hX 1 iL_smallestKey_5 rfl (by decide) ?_
    refine e_sipush (v := (-1001)) hX iL_smallestKey_6 (by decide) ?_
    exact e_iret hX hQ iL_smallestKey_9 rfl (by decide) (by decide) (qP.thr hg9 hx9 hk1 (by decide) (by decide))
  · obtain ⟨hk, rfl, hg9, hx9⟩ := h9
    exact e_iret hX hQ iL_smallestKey_4 rfl (by decide) (by decide) (qP.ok hg9 hx9 hk rfl)
theorem l_medianOf (htr : l.stackTraces = false) (hg : GP θ ph g X σ) (c : Int32) : MCW yL_medianOf cL_medianOf 3 (some .int) [(0, 5, 6, 47), (0, 5, 11, 27)] 5 1 6 l θ [.ref g, .int c] ph (qP θ ph g X (k_med σ c) (medN σ (ix c)) σ σ) := by
  refine MCW.of htr (by decide) (Nat.le_of_ble_eq_true rfl) ?_
  intro x hX hQ hT
  obtain ⟨fs, hgo⟩ := hg.go
  refine e_aload_n hX 0 iL_medianOf_0 rfl rfl ?_
  refine e_iload_n hX 1 iL_medianOf_1 rfl rfl ?_
  refine e_callV hX iL_medianOf_2 hgo (m_medianOf htr hg c) rfl rfl ⟨by decide, by decide, by decide, by decide⟩ (Nat.le_of_ble_eq_true rfl) (fun E9 p9 h9 => ?_) (fun v9 p9 h9 => ?_)
  · obtain ⟨hk, hE, hg9, hx9⟩ := h9
    rcases ox2 hk hE with ⟨hk1, rfl⟩ | ⟨hk1, rfl⟩
    · refine e_catch hX hT [] (0, 5, 6, 47) [(0, 5, 11, 27)] rfl (fun q hq => absurd hq List.not_mem_nil) ⟨by decide, by decide⟩ (by decide) wL_cl_47 wL_ca_xB (fun q => ?_)
      refine e_astore_n hX 2 iL_medianOf_6 rfl (by decide) ?_
      refine e_sipush (v := (-1001)) hX iL_medianOf_7 (by decide) ?_
      exact e_iret hX hQ iL_medianOf_10 rfl (by decide) (by decide) (qP.thr hg9 hx9 hk1 (by decide) (by decide))
    · refine e_catch hX hT [(0, 5, 6, 47)] (0, 5, 11, 27) [] rfl (List.forall_mem_cons.mpr ⟨⟨by decide, _, wL_cl_47, xm_xN, xm_xB, xn_xNxB⟩, fun q hq => absurd hq List.not_mem_nil⟩) ⟨by decide, by decide⟩ (by decide) wL_cl_27 wL_ca_xN (fun q => ?_)
      refine e_astore_n hX 2 iL_medianOf_11 rfl (by decide) ?_
      refine e_sipush (v := (-1002)) hX iL_medianOf_12 (by decide) ?_
      exact e_iret hX hQ iL_medianOf_15 rfl (by decide) (by decide) (qP.thr hg9 hx9 hk1 (by decide) (by decide))
  · obtain ⟨hk, rfl, hg9, hx9⟩ := h9
    exact e_iret hX hQ iL_medianOf_5 rfl (by decide) (by decide) (qP.ok hg9 hx9 hk rfl)
theorem l_spreadOf (htr : l.stackTraces = false) (hg : GP θ ph g X σ) (c : Int32) : MCW yL_spreadOf cL_spreadOf 3 (some .int) [(0, 5, 6, 47), (0, 5, 11, 27)] 5 1 6 l θ [.ref g, .int c] ph (qP θ ph g X (k_med σ c) (sprN σ (ix c) (medN σ (ix c))) σ σ) := by
  refine MCW.of htr (by decide) (Nat.le_of_ble_eq_true rfl) ?_
  intro x hX hQ hT
  obtain ⟨fs, hgo⟩ := hg.go
  refine e_aload_n hX 0 iL_spreadOf_0 rfl rfl ?_
  refine e_iload_n hX 1 iL_spreadOf_1 rfl rfl ?_
  refine e_callV hX iL_spreadOf_2 hgo (m_spreadOf htr hg c) rfl rfl ⟨by decide, by decide, by decide, by decide⟩ (Nat.le_of_ble_eq_true rfl) (fun E9 p9 h9 => ?_) (fun v9 p9 h9 => ?_)
  · obtain ⟨hk, hE, hg9, hx9⟩ := h9
    rcases ox2 hk hE with ⟨hk1, rfl⟩ | ⟨hk1, rfl⟩
    · refine e_catch hX hT [] (0, 5, 6, 47) [(0, 5, 11, 27)] rfl (fun q hq => absurd hq List.not_mem_nil) ⟨by decide, by decide⟩ (by decide) wL_cl_47 wL_ca_xB (fun q => ?_)
      refine e_astore_n hX 2 iL_spreadOf_6 rfl (by decide) ?_
      refine e_sipush (v := (-1001)) hX iL_spreadOf_7 (by decide) ?_
      exact e_iret hX hQ iL_spreadOf_10 rfl (by decide) (by decide) (qP.thr hg9 hx9 hk1 (by decide) (by decide))
    · refine e_catch hX hT [(0, 5, 6, 47)] (0, 5, 11, 27) [] rfl (List.forall_mem_cons.mpr ⟨⟨by decide, _, wL_cl_47, xm_xN, xm_xB, xn_xNxB⟩, fun q hq => absurd hq List.not_mem_nil⟩) ⟨by decide, by decide⟩ (by decide) wL_cl_27 wL_ca_xN (fun q => ?_)
      refine e_astore_n hX 2 iL_spreadOf_11 rfl (by decide) ?_
      refine e_sipush (v := (-1002)) hX iL_spreadOf_12 (by decide) ?_
      exact e_iret hX hQ iL_spreadOf_15 rfl (by decide) (by decide) (qP.thr hg9 hx9 hk1 (by decide) (by decide))
  · obtain ⟨hk, rfl, hg9, hx9⟩ := h9
    exact e_iret hX hQ iL_spreadOf_5 rfl (by decide) (by decide) (qP.ok hg9 hx9 hk rfl)
theorem l_outliers (htr : l.stackTraces = false) (hg : GP θ ph g X σ) (c : Int32) : MCW yL_outliers cL_outliers 3 (some .int) [(0, 5, 6, 47)] 5 1 6 l θ [.ref g, .int c] ph (qP θ ph g X (k_col c) (nI (cntB (gN σ) (fun i => a_out σ i (ix c)))) σ σ) := by
  refine MCW.of htr (by decide) (Nat.le_of_ble_eq_true rfl) ?_
  intro x hX hQ hT
  obtain ⟨fs, hgo⟩ := hg.go
  refine e_aload_n hX 0 iL_outliers_0 rfl rfl ?_
  refine e_iload_n hX 1 iL_outliers_1 rfl rfl ?_
  refine e_callV hX iL_outliers_2 hgo (m_outliers htr hg c) rfl rfl ⟨by decide, by decide, by decide, by decide⟩ (Nat.le_of_ble_eq_true rfl) (fun E9 p9 h9 => ?_) (fun v9 p9 h9 => ?_)
  · obtain ⟨hk, hE, hg9, hx9⟩ := h9
    obtain ⟨hk1, rfl⟩ := ox1 hk hE
    refine e_catch hX hT [] (0, 5, 6, 47) [] rfl (fun q hq => absurd hq List.not_mem_nil) ⟨by decide, by decide⟩ (by decide) wL_cl_47 wL_ca_xB (fun q => ?_)
    refine e_astore_n hX 2 iL_outliers_6 rfl (by decide) ?_
    refine e_sipush (v := (-1001)) hX iL_outliers_7 (by decide) ?_
    exact e_iret hX hQ iL_outliers_10 rfl (by decide) (by decide) (qP.thr hg9 hx9 hk1 (by decide) (by decide))
  · obtain ⟨hk, rfl, hg9, hx9⟩ := h9
    exact e_iret hX hQ iL_outliers_5 rfl (by decide) (by decide) (qP.ok hg9 hx9 hk rfl)
theorem l_isOutlier (htr : l.stackTraces = false) (hg : GP θ ph g X σ) (id c : Int32) : MCW yL_isOutlier cL_isOutlier 4 (some .int) [(0, 14, 15, 27), (0, 14, 20, 47)] 6 1 6 l θ [.ref g, .int id, .int c] ph (qP θ ph g X (k_idc σ id c) (b2i (a_out σ (fnd σ id) (ix c))) σ σ) := by
  refine MCW.of htr (by decide) (Nat.le_of_ble_eq_true rfl) ?_
  intro x hX hQ hT
  obtain ⟨fs, hgo⟩ := hg.go
  refine e_aload_n hX 0 iL_isOutlier_0 rfl rfl ?_
  refine e_iload_n hX 1 iL_isOutlier_1 rfl rfl ?_
  refine e_iload_n hX 2 iL_isOutlier_2 rfl rfl ?_
  refine e_callV hX iL_isOutlier_3 hgo (m_isOutlier htr hg id c) rfl rfl ⟨by decide, by decide, by decide, by decide⟩ (Nat.le_of_ble_eq_true rfl) (fun E9 p9 h9 => ?_) (fun v9 p9 h9 => ?_)
  · obtain ⟨hk, hE, hg9, hx9⟩ := h9
    rcases ox2 hk hE with ⟨hk1, rfl⟩ | ⟨hk1, rfl⟩
    · refine e_catch hX hT [] (0, 14, 15, 27) [(0, 14, 20, 47)] rfl (fun q hq => absurd hq List.not_mem_nil) ⟨by decide, by decide⟩ (by decide) wL_cl_27 wL_ca_xN (fun q => ?_)
      refine e_astore_n hX 3 iL_isOutlier_15 rfl (by decide) ?_
      refine e_sipush (v := (-1001)) hX iL_isOutlier_16 (by decide) ?_
      exact e_iret hX hQ iL_isOutlier_19 rfl (by decide) (by decide) (qP.thr hg9 hx9 hk1 (by decide) (by decide))
    · refine e_catch hX hT [(0, 14, 15, 27)] (0, 14, 20, 47) [] rfl (List.forall_mem_cons.mpr ⟨⟨by decide, _, wL_cl_27, xm_xB, xm_xN, xn_xBxN⟩, fun q hq => absurd hq List.not_mem_nil⟩) ⟨by decide, by decide⟩ (by decide) wL_cl_47 wL_ca_xB (fun q => ?_)
      refine e_astore_n hX 3 iL_isOutlier_20 rfl (by decide) ?_
      refine e_sipush (v := (-1002)) hX iL_isOutlier_21 (by decide) ?_
      exact e_iret hX hQ iL_isOutlier_24 rfl (by decide) (by decide) (qP.thr hg9 hx9 hk1 (by decide) (by decide))
  · obtain ⟨hk, rfl, hg9, hx9⟩ := h9
    refine e_if_eq hX iL_isOutlier_6 (fun c6 => ?_) (fun c6 => ?_)
    · refine e_iconst (v := 0) hX iL_isOutlier_13 (by decide) ?_
      exact e_iret hX hQ iL_isOutlier_14 rfl (by decide) (by decide) (qP.ok hg9 hx9 hk c6.symm)
    · refine e_iconst (v := 1) hX iL_isOutlier_9 (by decide) ?_
      refine e_goto hX iL_isOutlier_10 ?_
      exact e_iret hX hQ iL_isOutlier_14 rfl (by decide) (by decide) (qP.ok hg9 hx9 hk (b2i_n1 c6))
theorem l_valueAt (htr : l.stackTraces = false) (hg : GP θ ph g X σ) (id c : Int32) : MCW yL_valueAt cL_valueAt 4 (some .int) [(0, 6, 7, 27), (0, 6, 12, 47)] 6 1 6 l θ [.ref g, .int id, .int c] ph (qP θ ph g X (k_idc σ id c) (a_valueAt σ id c) σ σ) := by
  refine MCW.of htr (by decide) (Nat.le_of_ble_eq_true rfl) ?_
  intro x hX hQ hT
  obtain ⟨fs, hgo⟩ := hg.go
  refine e_aload_n hX 0 iL_valueAt_0 rfl rfl ?_
  refine e_iload_n hX 1 iL_valueAt_1 rfl rfl ?_
  refine e_iload_n hX 2 iL_valueAt_2 rfl rfl ?_
  refine e_callV hX iL_valueAt_3 hgo (m_valueAt htr hg id c) rfl rfl ⟨by decide, by decide, by decide, by decide⟩ (Nat.le_of_ble_eq_true rfl) (fun E9 p9 h9 => ?_) (fun v9 p9 h9 => ?_)
  · obtain ⟨hk, hE, hg9, hx9⟩ := h9
    rcases ox2 hk hE with ⟨hk1, rfl⟩ | ⟨hk1, rfl⟩
    · refine e_catch hX hT [] (0, 6, 7, 27) [(0, 6, 12, 47)] rfl (fun q hq => absurd hq List.not_mem_nil) ⟨by decide, by decide⟩ (by decide) wL_cl_27 wL_ca_xN (fun q => ?_)
      refine e_astore_n hX 3 iL_valueAt_7 rfl (by decide) ?_
      refine e_sipush (v := (-1001)) hX iL_valueAt_8 (by decide) ?_
      exact e_iret hX hQ iL_valueAt_11 rfl (by decide) (by decide) (qP.thr hg9 hx9 hk1 (by decide) (by decide))
    · refine e_catch hX hT [(0, 6, 7, 27)] (0, 6, 12, 47) [] rfl (List.forall_mem_cons.mpr ⟨⟨by decide, _, wL_cl_27, xm_xB, xm_xN, xn_xBxN⟩, fun q hq => absurd hq List.not_mem_nil⟩) ⟨by decide, by decide⟩ (by decide) wL_cl_47 wL_ca_xB (fun q => ?_)
      refine e_astore_n hX 3 iL_valueAt_12 rfl (by decide) ?_
      refine e_sipush (v := (-1002)) hX iL_valueAt_13 (by decide) ?_
      exact e_iret hX hQ iL_valueAt_16 rfl (by decide) (by decide) (qP.thr hg9 hx9 hk1 (by decide) (by decide))
  · obtain ⟨hk, rfl, hg9, hx9⟩ := h9
    exact e_iret hX hQ iL_valueAt_6 rfl (by decide) (by decide) (qP.ok hg9 hx9 hk rfl)
theorem l_addRange (htr : l.stackTraces = false) (hg : GP θ ph g X σ) (c lo hi : Int32) (st : Bool) : MCW yL_addRange cL_addRange 6 (some .int) [(0, 9, 10, 47), (0, 9, 16, 14), (0, 9, 22, 16)] 8 2 26 l θ [.ref g, .int c, .int lo, .int hi, .int (b2i st)] ph (qP θ ph g X (k_rng σ c lo hi) (nI (gK σ)) (s_add σ (0, ix c, lo, hi, st, false)) σ) := by
  refine MCW.of htr (by decide) (Nat.le_of_ble_eq_true rfl) ?_
  intro x hX hQ hT
  obtain ⟨fs, hgo⟩ := hg.go
  refine e_aload_n hX 0 iL_addRange_0 rfl rfl ?_
  refine e_iload_n hX 1 iL_addRange_1 rfl rfl ?_
  refine e_iload_n hX 2 iL_addRange_2 rfl rfl ?_
  refine e_iload_n hX 3 iL_addRange_3 rfl rfl ?_
  refine e_iload hX iL_addRange_4 rfl ?_
  refine e_callV hX iL_addRange_6 hgo (m_addRange htr hg c lo hi st) rfl rfl ⟨by decide, by decide, by decide, by decide⟩ (Nat.le_of_ble_eq_true rfl) (fun E9 p9 h9 => ?_) (fun v9 p9 h9 => ?_)
  · obtain ⟨hk, hE, hg9, hx9⟩ := h9
    rcases ox3 hk hE with ⟨hk1, rfl⟩ | ⟨hk1, rfl⟩ | ⟨hk1, rfl⟩
    · refine e_catch hX hT [] (0, 9, 10, 47) [(0, 9, 16, 14), (0, 9, 22, 16)] rfl (fun q hq => absurd hq List.not_mem_nil) ⟨by decide, by decide⟩ (by decide) wL_cl_47 wL_ca_xB (fun q => ?_)
      refine e_astore hX iL_addRange_10 (by decide) ?_
      refine e_sipush (v := (-1001)) hX iL_addRange_12 (by decide) ?_
      exact e_iret hX hQ iL_addRange_15 rfl (by decide) (by decide) (qP.thr hg9 hx9 hk1 (by decide) (by decide))
    · refine e_catch hX hT [(0, 9, 10, 47)] (0, 9, 16, 14) [(0, 9, 22, 16)] rfl (List.forall_mem_cons.mpr ⟨⟨by decide, _, wL_cl_47, xm_xA, xm_xB, xn_xAxB⟩, fun q hq => absurd hq List.not_mem_nil⟩) ⟨by decide, by decide⟩ (by decide) wL_cl_14 wL_ca_xA (fun q => ?_)
      refine e_astore hX iL_addRange_16 (by decide) ?_
      refine e_sipush (v := (-1002)) hX iL_addRange_18 (by decide) ?_
      exact e_iret hX hQ iL_addRange_21 rfl (by decide) (by decide) (qP.thr hg9 hx9 hk1 (by decide) (by decide))
    · refine e_catch hX hT [(0, 9, 10, 47), (0, 9, 16, 14)] (0, 9, 22, 16) [] rfl (List.forall_mem_cons.mpr ⟨⟨by decide, _, wL_cl_47, xm_xS, xm_xB, xn_xSxB⟩, (List.forall_mem_cons.mpr ⟨⟨by decide, _, wL_cl_14, xm_xS, xm_xA, xn_xSxA⟩, fun q hq => absurd hq List.not_mem_nil⟩)⟩) ⟨by decide, by decide⟩ (by decide) wL_cl_16 wL_ca_xS (fun q => ?_)
      refine e_astore hX iL_addRange_22 (by decide) ?_
      refine e_sipush (v := (-1003)) hX iL_addRange_24 (by decide) ?_
      exact e_iret hX hQ iL_addRange_27 rfl (by decide) (by decide) (qP.thr hg9 hx9 hk1 (by decide) (by decide))
  · obtain ⟨hk, rfl, hg9, hx9⟩ := h9
    exact e_iret hX hQ iL_addRange_9 rfl (by decide) (by decide) (qP.ok hg9 hx9 hk rfl)
end WA1
