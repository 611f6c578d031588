/-! the law's calls of the class (printed by gen51.py) -/
section WA2
variable {l : Launch} {θ : e_T} {ph : e_PH} {g : Nat} {X : Nat → Prop} {σ : SG}
theorem l_addRequired (htr : l.stackTraces = false) (hg : GP θ ph g X σ) (c : Int32) (st : Bool) : MCW yL_addRequired cL_addRequired 4 (some .int) [(0, 6, 7, 47), (0, 6, 12, 16)] 8 2 26 l θ [.ref g, .int c, .int (b2i st)] ph (qP θ ph g X (k_req σ c) (nI (gK σ)) (s_add σ (1, ix c, 0, 0, st, false)) σ) := by
  refine MCW.of htr (by decide) (Nat.le_of_ble_eq_true rfl) ?_
  intro x hX hQ hT
  obtain ⟨fs, hgo⟩ := hg.go
  refine e_aload_n hX 0 iL_addRequired_0 rfl rfl ?_
  refine e_iload_n hX 1 iL_addRequired_1 rfl rfl ?_
  refine e_iload_n hX 2 iL_addRequired_2 rfl rfl ?_
  refine e_callV hX iL_addRequired_3 hgo (m_addRequired htr hg c st) rfl rfl ⟨by decide, by decide, by decide, by decide⟩ (Nat.le_of_ble_eq_true rfl) (fun E9 p9 h9 => ?_) (fun v9 p9 h9 => ?_)
  · obtain ⟨hk, hE, hg9, hx9⟩ := h9
    rcases ox2 hk hE with ⟨hk1, rfl⟩ | ⟨hk1, rfl⟩
    · refine e_catch hX hT [] (0, 6, 7, 47) [(0, 6, 12, 16)] rfl (fun q hq => absurd hq List.not_mem_nil) ⟨by decide, by decide⟩ (by decide) wL_cl_47 wL_ca_xB (fun q => ?_)
      refine e_astore_n hX 3 iL_addRequired_7 rfl (by decide) ?_
      refine e_sipush (v := (-1001)) hX iL_addRequired_8 (by decide) ?_
      exact e_iret hX hQ iL_addRequired_11 rfl (by decide) (by decide) (qP.thr hg9 hx9 hk1 (by decide) (by decide))
    · refine e_catch hX hT [(0, 6, 7, 47)] (0, 6, 12, 16) [] rfl (List.forall_mem_cons.mpr ⟨⟨by decide, _, wL_cl_47, xm_xS, xm_xB, xn_xSxB⟩, fun q hq => absurd hq List.not_mem_nil⟩) ⟨by decide, by decide⟩ (by decide) wL_cl_16 wL_ca_xS (fun q => ?_)
      refine e_astore_n hX 3 iL_addRequired_12 rfl (by decide) ?_
      refine e_sipush (v := (-1002)) hX iL_addRequired_13 (by decide) ?_
      exact e_iret hX hQ iL_addRequired_16 rfl (by decide) (by decide) (qP.thr hg9 hx9 hk1 (by decide) (by decide))
  · obtain ⟨hk, rfl, hg9, hx9⟩ := h9
    exact e_iret hX hQ iL_addRequired_6 rfl (by decide) (by decide) (qP.ok hg9 hx9 hk rfl)
theorem l_addOrder (htr : l.stackTraces = false) (hg : GP θ ph g X σ) (c d : Int32) (st : Bool) : MCW yL_addOrder cL_addOrder 5 (some .int) [(0, 7, 8, 47), (0, 7, 14, 14), (0, 7, 20, 16)] 8 2 26 l θ [.ref g, .int c, .int d, .int (b2i st)] ph (qP θ ph g X (k_ord σ c d) (nI (gK σ)) (s_add σ (2, ix c, d, 0, st, false)) σ) := by
  refine MCW.of htr (by decide) (Nat.le_of_ble_eq_true rfl) ?_
  intro x hX hQ hT
  obtain ⟨fs, hgo⟩ := hg.go
  refine e_aload_n hX 0 iL_addOrder_0 rfl rfl ?_
  refine e_iload_n hX 1 iL_addOrder_1 rfl rfl ?_
  refine e_iload_n hX 2 iL_addOrder_2 rfl rfl ?_
  refine e_iload_n hX 3 iL_addOrder_3 rfl rfl ?_
  refine e_callV hX iL_addOrder_4 hgo (m_addOrder htr hg c d st) rfl rfl ⟨by decide, by decide, by decide, by decide⟩ (Nat.le_of_ble_eq_true rfl) (fun E9 p9 h9 => ?_) (fun v9 p9 h9 => ?_)
  · obtain ⟨hk, hE, hg9, hx9⟩ := h9
    rcases ox3 hk hE with ⟨hk1, rfl⟩ | ⟨hk1, rfl⟩ | ⟨hk1, rfl⟩
    · refine e_catch hX hT [] (0, 7, 8, 47) [(0, 7, 14, 14), (0, 7, 20, 16)] rfl (fun q hq => absurd hq List.not_mem_nil) ⟨by decide, by decide⟩ (by decide) wL_cl_47 wL_ca_xB (fun q => ?_)
      refine e_astore hX iL_addOrder_8 (by decide) ?_
      refine e_sipush (v := (-1001)) hX iL_addOrder_10 (by decide) ?_
      exact e_iret hX hQ iL_addOrder_13 rfl (by decide) (by decide) (qP.thr hg9 hx9 hk1 (by decide) (by decide))
    · refine e_catch hX hT [(0, 7, 8, 47)] (0, 7, 14, 14) [(0, 7, 20, 16)] rfl (List.forall_mem_cons.mpr ⟨⟨by decide, _, wL_cl_47, xm_xA, xm_xB, xn_xAxB⟩, fun q hq => absurd hq List.not_mem_nil⟩) ⟨by decide, by decide⟩ (by decide) wL_cl_14 wL_ca_xA (fun q => ?_)
      refine e_astore hX iL_addOrder_14 (by decide) ?_
      refine e_sipush (v := (-1002)) hX iL_addOrder_16 (by decide) ?_
      exact e_iret hX hQ iL_addOrder_19 rfl (by decide) (by decide) (qP.thr hg9 hx9 hk1 (by decide) (by decide))
    · refine e_catch hX hT [(0, 7, 8, 47), (0, 7, 14, 14)] (0, 7, 20, 16) [] rfl (List.forall_mem_cons.mpr ⟨⟨by decide, _, wL_cl_47, xm_xS, xm_xB, xn_xSxB⟩, (List.forall_mem_cons.mpr ⟨⟨by decide, _, wL_cl_14, xm_xS, xm_xA, xn_xSxA⟩, fun q hq => absurd hq List.not_mem_nil⟩)⟩) ⟨by decide, by decide⟩ (by decide) wL_cl_16 wL_ca_xS (fun q => ?_)
      refine e_astore hX iL_addOrder_20 (by decide) ?_
      refine e_sipush (v := (-1003)) hX iL_addOrder_22 (by decide) ?_
      exact e_iret hX hQ iL_addOrder_25 rfl (by decide) (by decide) (qP.thr hg9 hx9 hk1 (by decide) (by decide))
  · obtain ⟨hk, rfl, hg9, hx9⟩ := h9
    exact e_iret hX hQ iL_addOrder_7 rfl (by decide) (by decide) (qP.ok hg9 hx9 hk rfl)
theorem l_addUnique (htr : l.stackTraces = false) (hg : GP θ ph g X σ) (c : Int32) (st : Bool) : MCW yL_addUnique cL_addUnique 4 (some .int) [(0, 6, 7, 47), (0, 6, 12, 16)] 8 2 26 l θ [.ref g, .int c, .int (b2i st)] ph (qP θ ph g X (k_req σ c) (nI (gK σ)) (s_add σ (3, ix c, 0, 0, st, false)) σ) := by
  refine MCW.of htr (by decide) (Nat.le_of_ble_eq_true rfl) ?_
  intro x hX hQ hT
  obtain ⟨fs, hgo⟩ := hg.go
  refine e_aload_n hX 0 iL_addUnique_0 rfl rfl ?_
  refine e_iload_n hX 1 iL_addUnique_1 rfl rfl ?_
  refine e_iload_n hX 2 iL_addUnique_2 rfl rfl ?_
  refine e_callV hX iL_addUnique_3 hgo (m_addUnique htr hg c st) rfl rfl ⟨by decide, by decide, by decide, by decide⟩ (Nat.le_of_ble_eq_true rfl) (fun E9 p9 h9 => ?_) (fun v9 p9 h9 => ?_)
  · obtain ⟨hk, hE, hg9, hx9⟩ := h9
    rcases ox2 hk hE with ⟨hk1, rfl⟩ | ⟨hk1, rfl⟩
    · refine e_catch hX hT [] (0, 6, 7, 47) [(0, 6, 12, 16)] rfl (fun q hq => absurd hq List.not_mem_nil) ⟨by decide, by decide⟩ (by decide) wL_cl_47 wL_ca_xB (fun q => ?_)
      refine e_astore_n hX 3 iL_addUnique_7 rfl (by decide) ?_
      refine e_sipush (v := (-1001)) hX iL_addUnique_8 (by decide) ?_
      exact e_iret hX hQ iL_addUnique_11 rfl (by decide) (by decide) (qP.thr hg9 hx9 hk1 (by decide) (by decide))
    · refine e_catch hX hT [(0, 6, 7, 47)] (0, 6, 12, 16) [] rfl (List.forall_mem_cons.mpr ⟨⟨by decide, _, wL_cl_47, xm_xS, xm_xB, xn_xSxB⟩, fun q hq => absurd hq List.not_mem_nil⟩) ⟨by decide, by decide⟩ (by decide) wL_cl_16 wL_ca_xS (fun q => ?_)
      refine e_astore_n hX 3 iL_addUnique_12 rfl (by decide) ?_
      refine e_sipush (v := (-1002)) hX iL_addUnique_13 (by decide) ?_
      exact e_iret hX hQ iL_addUnique_16 rfl (by decide) (by decide) (qP.thr hg9 hx9 hk1 (by decide) (by decide))
  · obtain ⟨hk, rfl, hg9, hx9⟩ := h9
    exact e_iret hX hQ iL_addUnique_6 rfl (by decide) (by decide) (qP.ok hg9 hx9 hk rfl)
theorem l_addDependency (htr : l.stackTraces = false) (hg : GP θ ph g X σ) (s c : Int32) (st : Bool) : MCW yL_addDependency cL_addDependency 5 (some .int) [(0, 7, 8, 47), (0, 7, 14, 14), (0, 7, 20, 16)] 8 2 26 l θ [.ref g, .int s, .int c, .int (b2i st)] ph (qP θ ph g X (k_dep σ s c) (nI (gK σ)) (s_add σ (4, ix c, s, 0, st, false)) σ) := by
  refine MCW.of htr (by decide) (Nat.le_of_ble_eq_true rfl) ?_
  intro x hX hQ hT
  obtain ⟨fs, hgo⟩ := hg.go
  refine e_aload_n hX 0 iL_addDependency_0 rfl rfl ?_
  refine e_iload_n hX 1 iL_addDependency_1 rfl rfl ?_
  refine e_iload_n hX 2 iL_addDependency_2 rfl rfl ?_
  refine e_iload_n hX 3 iL_addDependency_3 rfl rfl ?_
  refine e_callV hX iL_addDependency_4 hgo (m_addDependency htr hg s c st) rfl rfl ⟨by decide, by decide, by decide, by decide⟩ (Nat.le_of_ble_eq_true rfl) (fun E9 p9 h9 => ?_) (fun v9 p9 h9 => ?_)
  · obtain ⟨hk, hE, hg9, hx9⟩ := h9
    rcases ox3 hk hE with ⟨hk1, rfl⟩ | ⟨hk1, rfl⟩ | ⟨hk1, rfl⟩
    · refine e_catch hX hT [] (0, 7, 8, 47) [(0, 7, 14, 14), (0, 7, 20, 16)] rfl (fun q hq => absurd hq List.not_mem_nil) ⟨by decide, by decide⟩ (by decide) wL_cl_47 wL_ca_xB (fun q => ?_)
      refine e_astore hX iL_addDependency_8 (by decide) ?_
      refine e_sipush (v := (-1001)) hX iL_addDependency_10 (by decide) ?_
      exact e_iret hX hQ iL_addDependency_13 rfl (by decide) (by decide) (qP.thr hg9 hx9 hk1 (by decide) (by decide))
    · refine e_catch hX hT [(0, 7, 8, 47)] (0, 7, 14, 14) [(0, 7, 20, 16)] rfl (List.forall_mem_cons.mpr ⟨⟨by decide, _, wL_cl_47, xm_xA, xm_xB, xn_xAxB⟩, fun q hq => absurd hq List.not_mem_nil⟩) ⟨by decide, by decide⟩ (by decide) wL_cl_14 wL_ca_xA (fun q => ?_)
      refine e_astore hX iL_addDependency_14 (by decide) ?_
      refine e_sipush (v := (-1002)) hX iL_addDependency_16 (by decide) ?_
      exact e_iret hX hQ iL_addDependency_19 rfl (by decide) (by decide) (qP.thr hg9 hx9 hk1 (by decide) (by decide))
    · refine e_catch hX hT [(0, 7, 8, 47), (0, 7, 14, 14)] (0, 7, 20, 16) [] rfl (List.forall_mem_cons.mpr ⟨⟨by decide, _, wL_cl_47, xm_xS, xm_xB, xn_xSxB⟩, (List.forall_mem_cons.mpr ⟨⟨by decide, _, wL_cl_14, xm_xS, xm_xA, xn_xSxA⟩, fun q hq => absurd hq List.not_mem_nil⟩)⟩) ⟨by decide, by decide⟩ (by decide) wL_cl_16 wL_ca_xS (fun q => ?_)
      refine e_astore hX iL_addDependency_20 (by decide) ?_
      refine e_sipush (v := (-1003)) hX iL_addDependency_22 (by decide) ?_
      exact e_iret hX hQ iL_addDependency_25 rfl (by decide) (by decide) (qP.thr hg9 hx9 hk1 (by decide) (by decide))
  · obtain ⟨hk, rfl, hg9, hx9⟩ := h9
    exact e_iret hX hQ iL_addDependency_7 rfl (by decide) (by decide) (qP.ok hg9 hx9 hk rfl)
theorem l_stage (htr : l.stackTraces = false) (hg : GP θ ph g X σ) (a1 a2 a3 a4 a5 : Int32) : MCW yL_stage cL_stage 7 (some .int) [(0, 11, 12, 14), (0, 11, 18, 16)] 7 3 22 l θ [.ref g, .int a1, .int a2, .int a3, .int a4, .int a5] ph (qP θ ph g X (k_stg σ a1 a2 a3 a4 a5) (nI (gM σ + 1)) (s_stg σ (five a1 a2 a3 a4 a5)) σ) := by
  refine MCW.of htr (by decide) (Nat.le_of_ble_eq_true rfl) ?_
  intro x hX hQ hT
  obtain ⟨fs, hgo⟩ := hg.go
  refine e_aload_n hX 0 iL_stage_0 rfl rfl ?_
  refine e_iload_n hX 1 iL_stage_1 rfl rfl ?_
  refine e_iload_n hX 2 iL_stage_2 rfl rfl ?_
  refine e_iload_n hX 3 iL_stage_3 rfl rfl ?_
  refine e_iload hX iL_stage_4 rfl ?_
  refine e_iload hX iL_stage_6 rfl ?_
  refine e_callV hX iL_stage_8 hgo (m_stage htr hg a1 a2 a3 a4 a5) rfl rfl ⟨by decide, by decide, by decide, by decide⟩ (Nat.le_of_ble_eq_true rfl) (fun E9 p9 h9 => ?_) (fun v9 p9 h9 => ?_)
  · obtain ⟨hk, hE, hg9, hx9⟩ := h9
    rcases ox2 hk hE with ⟨hk1, rfl⟩ | ⟨hk1, rfl⟩
    · refine e_catch hX hT [] (0, 11, 12, 14) [(0, 11, 18, 16)] rfl (fun q hq => absurd hq List.not_mem_nil) ⟨by decide, by decide⟩ (by decide) wL_cl_14 wL_ca_xA (fun q => ?_)
      refine e_astore hX iL_stage_12 (by decide) ?_
      refine e_sipush (v := (-1001)) hX iL_stage_14 (by decide) ?_
      exact e_iret hX hQ iL_stage_17 rfl (by decide) (by decide) (qP.thr hg9 hx9 hk1 (by decide) (by decide))
    · refine e_catch hX hT [(0, 11, 12, 14)] (0, 11, 18, 16) [] rfl (List.forall_mem_cons.mpr ⟨⟨by decide, _, wL_cl_14, xm_xS, xm_xA, xn_xSxA⟩, fun q hq => absurd hq List.not_mem_nil⟩) ⟨by decide, by decide⟩ (by decide) wL_cl_16 wL_ca_xS (fun q => ?_)
      refine e_astore hX iL_stage_18 (by decide) ?_
      refine e_sipush (v := (-1002)) hX iL_stage_20 (by decide) ?_
      exact e_iret hX hQ iL_stage_23 rfl (by decide) (by decide) (qP.thr hg9 hx9 hk1 (by decide) (by decide))
  · obtain ⟨hk, rfl, hg9, hx9⟩ := h9
    exact e_iret hX hQ iL_stage_11 rfl (by decide) (by decide) (qP.ok hg9 hx9 hk rfl)
theorem l_commit (htr : l.stackTraces = false) (hg : GP θ ph g X σ)  : MCW yL_commit cL_commit 2 (some .int) [(0, 4, 5, 16), (0, 4, 10, 22)] 7 10 120 l θ [.ref g] ph (qP θ ph g X (k_com σ) (nI (gN σ + gM σ)) (s_commit σ) (s_commit σ)) := by
  refine MCW.of htr (by decide) (Nat.le_of_ble_eq_true rfl) ?_
  intro x hX hQ hT
  obtain ⟨fs, hgo⟩ := hg.go
  refine e_aload_n hX 0 iL_commit_0 rfl rfl ?_
  refine e_callV hX iL_commit_1 hgo (m_commit htr hg ) rfl rfl ⟨by decide, by decide, by decide, by decide⟩ (Nat.le_of_ble_eq_true rfl) (fun E9 p9 h9 => ?_) (fun v9 p9 h9 => ?_)
  · obtain ⟨hk, hE, hg9, hx9⟩ := h9
    rcases ox2 hk hE with ⟨hk1, rfl⟩ | ⟨hk1, rfl⟩
    · refine e_catch hX hT [] (0, 4, 5, 16) [(0, 4, 10, 22)] rfl (fun q hq => absurd hq List.not_mem_nil) ⟨by decide, by decide⟩ (by decide) wL_cl_16 wL_ca_xS (fun q => ?_)
      refine e_astore_n hX 1 iL_commit_5 rfl (by decide) ?_
      refine e_sipush (v := (-1001)) hX iL_commit_6 (by decide) ?_
      exact e_iret hX hQ iL_commit_9 rfl (by decide) (by decide) (qP.thr hg9 hx9 hk1 (by decide) (by decide))
    · refine e_catch hX hT [(0, 4, 5, 16)] (0, 4, 10, 22) [] rfl (List.forall_mem_cons.mpr ⟨⟨by decide, _, wL_cl_16, xm_xU, xm_xS, xn_xUxS⟩, fun q hq => absurd hq List.not_mem_nil⟩) ⟨by decide, by decide⟩ (by decide) wL_cl_22 wL_ca_xU (fun q => ?_)
      refine e_astore_n hX 1 iL_commit_10 rfl (by decide) ?_
      refine e_sipush (v := (-1002)) hX iL_commit_11 (by decide) ?_
      exact e_iret hX hQ iL_commit_14 rfl (by decide) (by decide) (qP.thr hg9 hx9 hk1 (by decide) (by decide))
  · obtain ⟨hk, rfl, hg9, hx9⟩ := h9
    exact e_iret hX hQ iL_commit_4 rfl (by decide) (by decide) (qP.ok hg9 hx9 hk rfl)
theorem l_rejectedOther (htr : l.stackTraces = false) (hg : GP θ ph g X σ)  : MCW yL_rejectedOther cL_rejectedOther 2 (some .int) [(0, 4, 5, 27)] 2 1 6 l θ [.ref g] ph (qP θ ph g X (k_rejO σ) (gJ σ).2.2.1 σ σ) := by
  refine MCW.of htr (by decide) (Nat.le_of_ble_eq_true rfl) ?_
  intro x hX hQ hT
  obtain ⟨fs, hgo⟩ := hg.go
  refine e_aload_n hX 0 iL_rejectedOther_0 rfl rfl ?_
  refine e_callV hX iL_rejectedOther_1 hgo (m_rejectedOther htr hg ) rfl rfl ⟨by decide, by decide, by decide, by decide⟩ (Nat.le_of_ble_eq_true rfl) (fun E9 p9 h9 => ?_) (fun v9 p9 h9 => ?_)
  · obtain ⟨hk, hE, hg9, hx9⟩ := h9
    obtain ⟨hk1, rfl⟩ := ox1 hk hE
    refine e_catch hX hT [] (0, 4, 5, 27) [] rfl (fun q hq => absurd hq List.not_mem_nil) ⟨by decide, by decide⟩ (by decide) wL_cl_27 wL_ca_xN (fun q => ?_)
    refine e_astore_n hX 1 iL_rejectedOther_5 rfl (by decide) ?_
    refine e_sipush (v := (-1001)) hX iL_rejectedOther_6 (by decide) ?_
    exact e_iret hX hQ iL_rejectedOther_9 rfl (by decide) (by decide) (qP.thr hg9 hx9 hk1 (by decide) (by decide))
  · obtain ⟨hk, rfl, hg9, hx9⟩ := h9
    exact e_iret hX hQ iL_rejectedOther_4 rfl (by decide) (by decide) (qP.ok hg9 hx9 hk rfl)
theorem l_rejectedRow (htr : l.stackTraces = false) (hg : GP θ ph g X σ)  : MCW yL_rejectedRow cL_rejectedRow 2 (some .int) [(0, 4, 5, 27)] 2 1 6 l θ [.ref g] ph (qP θ ph g X (k_rej σ) (gJ σ).1 σ σ) := by
  refine MCW.of htr (by decide) (Nat.le_of_ble_eq_true rfl) ?_
  intro x hX hQ hT
  obtain ⟨fs, hgo⟩ := hg.go
  refine e_aload_n hX 0 iL_rejectedRow_0 rfl rfl ?_
  refine e_callV hX iL_rejectedRow_1 hgo (m_rejectedRow htr hg ) rfl rfl ⟨by decide, by decide, by decide, by decide⟩ (Nat.le_of_ble_eq_true rfl) (fun E9 p9 h9 => ?_) (fun v9 p9 h9 => ?_)
  · obtain ⟨hk, hE, hg9, hx9⟩ := h9
    obtain ⟨hk1, rfl⟩ := ox1 hk hE
    refine e_catch hX hT [] (0, 4, 5, 27) [] rfl (fun q hq => absurd hq List.not_mem_nil) ⟨by decide, by decide⟩ (by decide) wL_cl_27 wL_ca_xN (fun q => ?_)
    refine e_astore_n hX 1 iL_rejectedRow_5 rfl (by decide) ?_
    refine e_sipush (v := (-1001)) hX iL_rejectedRow_6 (by decide) ?_
    exact e_iret hX hQ iL_rejectedRow_9 rfl (by decide) (by decide) (qP.thr hg9 hx9 hk1 (by decide) (by decide))
  · obtain ⟨hk, rfl, hg9, hx9⟩ := h9
    exact e_iret hX hQ iL_rejectedRow_4 rfl (by decide) (by decide) (qP.ok hg9 hx9 hk rfl)
theorem l_rejectedRule (htr : l.stackTraces = false) (hg : GP θ ph g X σ)  : MCW yL_rejectedRule cL_rejectedRule 2 (some .int) [(0, 4, 5, 27)] 2 1 6 l θ [.ref g] ph (qP θ ph g X (k_rej σ) (gJ σ).2.1 σ σ) := by
  refine MCW.of htr (by decide) (Nat.le_of_ble_eq_true rfl) ?_
  intro x hX hQ hT
  obtain ⟨fs, hgo⟩ := hg.go
  refine e_aload_n hX 0 iL_rejectedRule_0 rfl rfl ?_
  refine e_callV hX iL_rejectedRule_1 hgo (m_rejectedRule htr hg ) rfl rfl ⟨by decide, by decide, by decide, by decide⟩ (Nat.le_of_ble_eq_true rfl) (fun E9 p9 h9 => ?_) (fun v9 p9 h9 => ?_)
  · obtain ⟨hk, hE, hg9, hx9⟩ := h9
    obtain ⟨hk1, rfl⟩ := ox1 hk hE
    refine e_catch hX hT [] (0, 4, 5, 27) [] rfl (fun q hq => absurd hq List.not_mem_nil) ⟨by decide, by decide⟩ (by decide) wL_cl_27 wL_ca_xN (fun q => ?_)
    refine e_astore_n hX 1 iL_rejectedRule_5 rfl (by decide) ?_
    refine e_sipush (v := (-1001)) hX iL_rejectedRule_6 (by decide) ?_
    exact e_iret hX hQ iL_rejectedRule_9 rfl (by decide) (by decide) (qP.thr hg9 hx9 hk1 (by decide) (by decide))
  · obtain ⟨hk, rfl, hg9, hx9⟩ := h9
    exact e_iret hX hQ iL_rejectedRule_4 rfl (by decide) (by decide) (qP.ok hg9 hx9 hk rfl)
theorem l_isOtherStaged (htr : l.stackTraces = false) (hg : GP θ ph g X σ)  : MCW yL_isOtherStaged cL_isOtherStaged 2 (some .int) [(0, 12, 13, 27)] 2 1 6 l θ [.ref g] ph (qP θ ph g X (k_rejO σ) (b2i (gJ σ).2.2.2) σ σ) := by
  refine MCW.of htr (by decide) (Nat.le_of_ble_eq_true rfl) ?_
  intro x hX hQ hT
  obtain ⟨fs, hgo⟩ := hg.go
  refine e_aload_n hX 0 iL_isOtherStaged_0 rfl rfl ?_
  refine e_callV hX iL_isOtherStaged_1 hgo (m_isOtherStaged htr hg ) rfl rfl ⟨by decide, by decide, by decide, by decide⟩ (Nat.le_of_ble_eq_true rfl) (fun E9 p9 h9 => ?_) (fun v9 p9 h9 => ?_)
  · obtain ⟨hk, hE, hg9, hx9⟩ := h9
    obtain ⟨hk1, rfl⟩ := ox1 hk hE
    refine e_catch hX hT [] (0, 12, 13, 27) [] rfl (fun q hq => absurd hq List.not_mem_nil) ⟨by decide, by decide⟩ (by decide) wL_cl_27 wL_ca_xN (fun q => ?_)
    refine e_astore_n hX 1 iL_isOtherStaged_13 rfl (by decide) ?_
    refine e_sipush (v := (-1001)) hX iL_isOtherStaged_14 (by decide) ?_
    exact e_iret hX hQ iL_isOtherStaged_17 rfl (by decide) (by decide) (qP.thr hg9 hx9 hk1 (by decide) (by decide))
  · obtain ⟨hk, rfl, hg9, hx9⟩ := h9
    refine e_if_eq hX iL_isOtherStaged_4 (fun c4 => ?_) (fun c4 => ?_)
    · refine e_iconst (v := 0) hX iL_isOtherStaged_11 (by decide) ?_
      exact e_iret hX hQ iL_isOtherStaged_12 rfl (by decide) (by decide) (qP.ok hg9 hx9 hk c4.symm)
    · refine e_iconst (v := 1) hX iL_isOtherStaged_7 (by decide) ?_
      refine e_goto hX iL_isOtherStaged_8 ?_
      exact e_iret hX hQ iL_isOtherStaged_12 rfl (by decide) (by decide) (qP.ok hg9 hx9 hk (b2i_n1 c4))
end WA2
