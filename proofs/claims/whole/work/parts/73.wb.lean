/-! the law's calls of the class that give a long (printed by gen71.py) -/
section WA1
variable {l : Launch} {θ : e_T} {ph : e_PH} {g : Nat} {X : Nat → Prop} {σ : SG} {o : Nat}
theorem l_addUnique (htr : l.stackTraces = false) (hg : GP θ ph g X σ) (hXo : X o) {f0 : Nat → Int64} (ho : ph o = some (e_L θ 1 f0)) (c : Int32) (st : Bool) : MCW yL_addUnique cL_addUnique 5 (some .int) [(0, 10, 13, 46), (0, 10, 17, 15)] 8 2 26 l θ [.ref g, .int c, .int (b2i st), .ref o] ph (uP θ ph g X o (k_req σ c) (Int32.toInt64 (nI (gK σ))) (s_add σ (3, ix c, 0, 0, st, false)) σ) := by
  refine MCW.of htr (by decide) (Nat.le_of_ble_eq_true rfl) ?_
  intro x hX hQ hT
  obtain ⟨fs, hgo⟩ := hg.go
  refine e_aload_n hX 3 iL_addUnique_0 rfl rfl ?_
  refine e_iconst (v := 0) hX iL_addUnique_1 (by decide) ?_
  refine e_aload_n hX 0 iL_addUnique_2 rfl rfl ?_
  refine e_iload_n hX 1 iL_addUnique_3 rfl rfl ?_
  refine e_iload_n hX 2 iL_addUnique_4 rfl rfl ?_
  refine e_callV hX iL_addUnique_5 hgo (m_addUnique htr hg c st) rfl rfl ⟨by decide, by decide, by decide, by decide⟩ (Nat.le_of_ble_eq_true rfl) (fun E9 p9 h9 => ?_) (fun v9 p9 h9 => ?_)
  · obtain ⟨hk, hE, hg9, hx9⟩ := h9
    rcases ox2 hk hE with ⟨hk1, rfl⟩ | ⟨hk1, rfl⟩
    · refine e_catch hX hT [] (0, 10, 13, 46) [(0, 10, 17, 15)] rfl (fun q hq => absurd hq List.not_mem_nil) ⟨by decide, by decide⟩ (by decide) wL_cl_46 wL_ca_xB (fun q => ?_)
      refine e_astore hX iL_addUnique_13 (by decide) ?_
      refine e_iconst (v := 1) hX iL_addUnique_15 (by decide) ?_
      exact e_iret hX hQ iL_addUnique_16 rfl (by decide) (by decide) (uP.thr hg9 hx9 ho hXo (by rw [hk1]; decide) (by rw [hk1]; rfl))
    · refine e_catch hX hT [(0, 10, 13, 46)] (0, 10, 17, 15) [] rfl (List.forall_mem_cons.mpr ⟨⟨by decide, _, wL_cl_46, xm_xS, xm_xB, xn_xSxB⟩, fun q hq => absurd hq List.not_mem_nil⟩) ⟨by decide, by decide⟩ (by decide) wL_cl_15 wL_ca_xS (fun q => ?_)
      refine e_astore hX iL_addUnique_17 (by decide) ?_
      refine e_iconst (v := 2) hX iL_addUnique_19 (by decide) ?_
      exact e_iret hX hQ iL_addUnique_20 rfl (by decide) (by decide) (uP.thr hg9 hx9 ho hXo (by rw [hk1]; decide) (by rw [hk1]; rfl))
  · obtain ⟨hk, rfl, hg9, hx9⟩ := h9
    refine e_i2l hX iL_addUnique_8 ?_
    refine e_last hX 0 iL_addUnique_9 (hx9 _ _ hXo ho) rfl (by decide) (by decide) ?_
    refine e_goto hX iL_addUnique_10 ?_
    refine e_iconst (v := 0) hX iL_addUnique_21 (by decide) ?_
    exact e_iret hX hQ iL_addUnique_22 rfl (by decide) (by decide) (uP.ok hg9 hx9 hXo (hx9 _ _ hXo ho) hk rfl)
theorem l_addDependency (htr : l.stackTraces = false) (hg : GP θ ph g X σ) (hXo : X o) {f0 : Nat → Int64} (ho : ph o = some (e_L θ 1 f0)) (s c : Int32) (st : Bool) : MCW yL_addDependency cL_addDependency 6 (some .int) [(0, 12, 15, 46), (0, 12, 19, 13), (0, 12, 23, 15)] 8 2 26 l θ [.ref g, .int s, .int c, .int (b2i st), .ref o] ph (uP θ ph g X o (k_dep σ s c) (Int32.toInt64 (nI (gK σ))) (s_add σ (4, ix c, s, 0, st, false)) σ) := by
  refine MCW.of htr (by decide) (Nat.le_of_ble_eq_true rfl) ?_
  intro x hX hQ hT
  obtain ⟨fs, hgo⟩ := hg.go
  refine e_aload hX iL_addDependency_0 rfl ?_
  refine e_iconst (v := 0) hX iL_addDependency_2 (by decide) ?_
  refine e_aload_n hX 0 iL_addDependency_3 rfl rfl ?_
  refine e_iload_n hX 1 iL_addDependency_4 rfl rfl ?_
  refine e_iload_n hX 2 iL_addDependency_5 rfl rfl ?_
  refine e_iload_n hX 3 iL_addDependency_6 rfl rfl ?_
  refine e_callV hX iL_addDependency_7 hgo (m_addDependency htr hg s c st) rfl rfl ⟨by decide, by decide, by decide, by decide⟩ (Nat.le_of_ble_eq_true rfl) (fun E9 p9 h9 => ?_) (fun v9 p9 h9 => ?_)
  · obtain ⟨hk, hE, hg9, hx9⟩ := h9
    rcases ox3 hk hE with ⟨hk1, rfl⟩ | ⟨hk1, rfl⟩ | ⟨hk1, rfl⟩
    · refine e_catch hX hT [] (0, 12, 15, 46) [(0, 12, 19, 13), (0, 12, 23, 15)] rfl (fun q hq => absurd hq List.not_mem_nil) ⟨by decide, by decide⟩ (by decide) wL_cl_46 wL_ca_xB (fun q => ?_)
      refine e_astore hX iL_addDependency_15 (by decide) ?_
      refine e_iconst (v := 1) hX iL_addDependency_17 (by decide) ?_
      exact e_iret hX hQ iL_addDependency_18 rfl (by decide) (by decide) (uP.thr hg9 hx9 ho hXo (by rw [hk1]; decide) (by rw [hk1]; rfl))
    · refine e_catch hX hT [(0, 12, 15, 46)] (0, 12, 19, 13) [(0, 12, 23, 15)] rfl (List.forall_mem_cons.mpr ⟨⟨by decide, _, wL_cl_46, xm_xA, xm_xB, xn_xAxB⟩, fun q hq => absurd hq List.not_mem_nil⟩) ⟨by decide, by decide⟩ (by decide) wL_cl_13 wL_ca_xA (fun q => ?_)
      refine e_astore hX iL_addDependency_19 (by decide) ?_
      refine e_iconst (v := 2) hX iL_addDependency_21 (by decide) ?_
      exact e_iret hX hQ iL_addDependency_22 rfl (by decide) (by decide) (uP.thr hg9 hx9 ho hXo (by rw [hk1]; decide) (by rw [hk1]; rfl))
    · refine e_catch hX hT [(0, 12, 15, 46), (0, 12, 19, 13)] (0, 12, 23, 15) [] rfl (List.forall_mem_cons.mpr ⟨⟨by decide, _, wL_cl_46, xm_xS, xm_xB, xn_xSxB⟩, (List.forall_mem_cons.mpr ⟨⟨by decide, _, wL_cl_13, xm_xS, xm_xA, xn_xSxA⟩, fun q hq => absurd hq List.not_mem_nil⟩)⟩) ⟨by decide, by decide⟩ (by decide) wL_cl_15 wL_ca_xS (fun q => ?_)
      refine e_astore hX iL_addDependency_23 (by decide) ?_
      refine e_iconst (v := 3) hX iL_addDependency_25 (by decide) ?_
      exact e_iret hX hQ iL_addDependency_26 rfl (by decide) (by decide) (uP.thr hg9 hx9 ho hXo (by rw [hk1]; decide) (by rw [hk1]; rfl))
  · obtain ⟨hk, rfl, hg9, hx9⟩ := h9
    refine e_i2l hX iL_addDependency_10 ?_
    refine e_last hX 0 iL_addDependency_11 (hx9 _ _ hXo ho) rfl (by decide) (by decide) ?_
    refine e_goto hX iL_addDependency_12 ?_
    refine e_iconst (v := 0) hX iL_addDependency_27 (by decide) ?_
    exact e_iret hX hQ iL_addDependency_28 rfl (by decide) (by decide) (uP.ok hg9 hx9 hXo (hx9 _ _ hXo ho) hk rfl)
theorem l_dropRule (htr : l.stackTraces = false) (hg : GP θ ph g X σ) (hXo : X o) {f0 : Nat → Int64} (ho : ph o = some (e_L θ 1 f0)) (q : Int32) : MCW yL_dropRule cL_dropRule 4 (some .int) [(0, 9, 12, 46), (0, 9, 15, 15)] 5 1 6 l θ [.ref g, .int q, .ref o] ph (uP θ ph g X o (k_rule σ q) (Int32.toInt64 (nI (a_drop (s_drop σ (ix q))))) (s_drop σ (ix q)) σ) := by
  refine MCW.of htr (by decide) (Nat.le_of_ble_eq_true rfl) ?_
  intro x hX hQ hT
  obtain ⟨fs, hgo⟩ := hg.go
  refine e_aload_n hX 2 iL_dropRule_0 rfl rfl ?_
  refine e_iconst (v := 0) hX iL_dropRule_1 (by decide) ?_
  refine e_aload_n hX 0 iL_dropRule_2 rfl rfl ?_
  refine e_iload_n hX 1 iL_dropRule_3 rfl rfl ?_
  refine e_callV hX iL_dropRule_4 hgo (m_dropRule htr hg q) rfl rfl ⟨by decide, by decide, by decide, by decide⟩ (Nat.le_of_ble_eq_true rfl) (fun E9 p9 h9 => ?_) (fun v9 p9 h9 => ?_)
  · obtain ⟨hk, hE, hg9, hx9⟩ := h9
    rcases ox2 hk hE with ⟨hk1, rfl⟩ | ⟨hk1, rfl⟩
    · refine e_catch hX hT [] (0, 9, 12, 46) [(0, 9, 15, 15)] rfl (fun q hq => absurd hq List.not_mem_nil) ⟨by decide, by decide⟩ (by decide) wL_cl_46 wL_ca_xB (fun q => ?_)
      refine e_astore_n hX 3 iL_dropRule_12 rfl (by decide) ?_
      refine e_iconst (v := 1) hX iL_dropRule_13 (by decide) ?_
      exact e_iret hX hQ iL_dropRule_14 rfl (by decide) (by decide) (uP.thr hg9 hx9 ho hXo (by rw [hk1]; decide) (by rw [hk1]; rfl))
    · refine e_catch hX hT [(0, 9, 12, 46)] (0, 9, 15, 15) [] rfl (List.forall_mem_cons.mpr ⟨⟨by decide, _, wL_cl_46, xm_xS, xm_xB, xn_xSxB⟩, fun q hq => absurd hq List.not_mem_nil⟩) ⟨by decide, by decide⟩ (by decide) wL_cl_15 wL_ca_xS (fun q => ?_)
      refine e_astore_n hX 3 iL_dropRule_15 rfl (by decide) ?_
      refine e_iconst (v := 2) hX iL_dropRule_16 (by decide) ?_
      exact e_iret hX hQ iL_dropRule_17 rfl (by decide) (by decide) (uP.thr hg9 hx9 ho hXo (by rw [hk1]; decide) (by rw [hk1]; rfl))
  · obtain ⟨hk, rfl, hg9, hx9⟩ := h9
    refine e_i2l hX iL_dropRule_7 ?_
    refine e_last hX 0 iL_dropRule_8 (hx9 _ _ hXo ho) rfl (by decide) (by decide) ?_
    refine e_goto hX iL_dropRule_9 ?_
    refine e_iconst (v := 0) hX iL_dropRule_18 (by decide) ?_
    exact e_iret hX hQ iL_dropRule_19 rfl (by decide) (by decide) (uP.ok hg9 hx9 hXo (hx9 _ _ hXo ho) hk rfl)
theorem l_violations (htr : l.stackTraces = false) (hg : GP θ ph g X σ) (hXo : X o) {f0 : Nat → Int64} (ho : ph o = some (e_L θ 1 f0)) (q : Int32) : MCW yL_violations cL_violations 4 (some .int) [(0, 9, 12, 46), (0, 9, 15, 15)] 5 1 6 l θ [.ref g, .int q, .ref o] ph (uP θ ph g X o (k_rule σ q) (Int32.toInt64 (nI (a_violations σ q))) σ σ) := by
  refine MCW.of htr (by decide) (Nat.le_of_ble_eq_true rfl) ?_
  intro x hX hQ hT
  obtain ⟨fs, hgo⟩ := hg.go
  refine e_aload_n hX 2 iL_violations_0 rfl rfl ?_
  refine e_iconst (v := 0) hX iL_violations_1 (by decide) ?_
  refine e_aload_n hX 0 iL_violations_2 rfl rfl ?_
  refine e_iload_n hX 1 iL_violations_3 rfl rfl ?_
  refine e_callV hX iL_violations_4 hgo (m_violations htr hg q) rfl rfl ⟨by decide, by decide, by decide, by decide⟩ (Nat.le_of_ble_eq_true rfl) (fun E9 p9 h9 => ?_) (fun v9 p9 h9 => ?_)
  · obtain ⟨hk, hE, hg9, hx9⟩ := h9
    rcases ox2 hk hE with ⟨hk1, rfl⟩ | ⟨hk1, rfl⟩
    · refine e_catch hX hT [] (0, 9, 12, 46) [(0, 9, 15, 15)] rfl (fun q hq => absurd hq List.not_mem_nil) ⟨by decide, by decide⟩ (by decide) wL_cl_46 wL_ca_xB (fun q => ?_)
      refine e_astore_n hX 3 iL_violations_12 rfl (by decide) ?_
      refine e_iconst (v := 1) hX iL_violations_13 (by decide) ?_
      exact e_iret hX hQ iL_violations_14 rfl (by decide) (by decide) (uP.thr hg9 hx9 ho hXo (by rw [hk1]; decide) (by rw [hk1]; rfl))
    · refine e_catch hX hT [(0, 9, 12, 46)] (0, 9, 15, 15) [] rfl (List.forall_mem_cons.mpr ⟨⟨by decide, _, wL_cl_46, xm_xS, xm_xB, xn_xSxB⟩, fun q hq => absurd hq List.not_mem_nil⟩) ⟨by decide, by decide⟩ (by decide) wL_cl_15 wL_ca_xS (fun q => ?_)
      refine e_astore_n hX 3 iL_violations_15 rfl (by decide) ?_
      refine e_iconst (v := 2) hX iL_violations_16 (by decide) ?_
      exact e_iret hX hQ iL_violations_17 rfl (by decide) (by decide) (uP.thr hg9 hx9 ho hXo (by rw [hk1]; decide) (by rw [hk1]; rfl))
  · obtain ⟨hk, rfl, hg9, hx9⟩ := h9
    refine e_i2l hX iL_violations_7 ?_
    refine e_last hX 0 iL_violations_8 (hx9 _ _ hXo ho) rfl (by decide) (by decide) ?_
    refine e_goto hX iL_violations_9 ?_
    refine e_iconst (v := 0) hX iL_violations_18 (by decide) ?_
    exact e_iret hX hQ iL_violations_19 rfl (by decide) (by decide) (uP.ok hg9 hx9 hXo (hx9 _ _ hXo ho) hk rfl)
theorem l_isBad (htr : l.stackTraces = false) (hg : GP θ ph g X σ) (hXo : X o) {f0 : Nat → Int64} (ho : ph o = some (e_L θ 1 f0)) (id : Int32) : MCW yL_isBad cL_isBad 4 (some .int) [(0, 16, 19, 26)] 6 1 6 l θ [.ref g, .int id, .ref o] ph (uP θ ph g X o (k_id σ id) (bL (a_isBad σ id)) σ σ) := by
  refine MCW.of htr (by decide) (Nat.le_of_ble_eq_true rfl) ?_
  intro x hX hQ hT
  obtain ⟨fs, hgo⟩ := hg.go
  refine e_aload_n hX 2 iL_isBad_0 rfl rfl ?_
  refine e_iconst (v := 0) hX iL_isBad_1 (by decide) ?_
  refine e_aload_n hX 0 iL_isBad_2 rfl rfl ?_
  refine e_iload_n hX 1 iL_isBad_3 rfl rfl ?_
  refine e_callV hX iL_isBad_4 hgo (m_isBad htr hg id) rfl rfl ⟨by decide, by decide, by decide, by decide⟩ (Nat.le_of_ble_eq_true rfl) (fun E9 p9 h9 => ?_) (fun v9 p9 h9 => ?_)
  · obtain ⟨hk, hE, hg9, hx9⟩ := h9
    obtain ⟨hk1, rfl⟩ := ox1 hk hE
    refine e_catch hX hT [] (0, 16, 19, 26) [] rfl (fun q hq => absurd hq List.not_mem_nil) ⟨by decide, by decide⟩ (by decide) wL_cl_26 wL_ca_xN (fun q => ?_)
    refine e_astore_n hX 3 iL_isBad_19 rfl (by decide) ?_
    refine e_iconst (v := 1) hX iL_isBad_20 (by decide) ?_
    exact e_iret hX hQ iL_isBad_21 rfl (by decide) (by decide) (uP.thr hg9 hx9 ho hXo (by rw [hk1]; decide) (by rw [hk1]; rfl))
  · obtain ⟨hk, rfl, hg9, hx9⟩ := h9
    refine e_if_eq hX iL_isBad_7 (fun c7 => ?_) (fun c7 => ?_)
    · refine e_lconst (v := 0) hX iL_isBad_14 (by decide) ?_
      refine e_last hX 0 iL_isBad_15 (hx9 _ _ hXo ho) rfl (by decide) (by decide) ?_
      refine e_goto hX iL_isBad_16 ?_
      refine e_iconst (v := 0) hX iL_isBad_22 (by decide) ?_
      exact e_iret hX hQ iL_isBad_23 rfl (by decide) (by decide) (uP.ok hg9 hx9 hXo (hx9 _ _ hXo ho) hk (bL_f (b2i_0.mp c7)))
    · refine e_lconst (v := 1) hX iL_isBad_10 (by decide) ?_
      refine e_goto hX iL_isBad_11 ?_
      refine e_last hX 0 iL_isBad_15 (hx9 _ _ hXo ho) rfl (by decide) (by decide) ?_
      refine e_goto hX iL_isBad_16 ?_
      refine e_iconst (v := 0) hX iL_isBad_22 (by decide) ?_
      exact e_iret hX hQ iL_isBad_23 rfl (by decide) (by decide) (uP.ok hg9 hx9 hXo (hx9 _ _ hXo ho) hk (bL_t (b2i_n0.mp c7)))
theorem l_conflict (htr : l.stackTraces = false) (hg : GP θ ph g X σ) (hXo : X o) {f0 : Nat → Int64} (ho : ph o = some (e_L θ 1 f0)) (id id2 : Int32) : MCW yL_conflict cL_conflict 5 (some .int) [(0, 17, 20, 26), (0, 17, 24, 13)] 6 1 6 l θ [.ref g, .int id, .int id2, .ref o] ph (uP θ ph g X o (k_conf σ id id2) (bL (a_conflict σ id id2)) σ σ) := by
  refine MCW.of htr (by decide) (Nat.le_of_ble_eq_true rfl) ?_
  intro x hX hQ hT
  obtain ⟨fs, hgo⟩ := hg.go
  refine e_aload_n hX 3 iL_conflict_0 rfl rfl ?_
  refine e_iconst (v := 0) hX iL_conflict_1 (by decide) ?_
  refine e_aload_n hX 0 iL_conflict_2 rfl rfl ?_
  refine e_iload_n hX 1 iL_conflict_3 rfl rfl ?_
  refine e_iload_n hX 2 iL_conflict_4 rfl rfl ?_
  refine e_callV hX iL_conflict_5 hgo (m_conflict htr hg id id2) rfl rfl ⟨by decide, by decide, by decide, by decide⟩ (Nat.le_of_ble_eq_true rfl) (fun E9 p9 h9 => ?_) (fun v9 p9 h9 => ?_)
  · obtain ⟨hk, hE, hg9, hx9⟩ := h9
    rcases ox2 hk hE with ⟨hk1, rfl⟩ | ⟨hk1, rfl⟩
    · refine e_catch hX hT [] (0, 17, 20, 26) [(0, 17, 24, 13)] rfl (fun q hq => absurd hq List.not_mem_nil) ⟨by decide, by decide⟩ (by decide) wL_cl_26 wL_ca_xN (fun q => ?_)
      refine e_astore hX iL_conflict_20 (by decide) ?_
      refine e_iconst (v := 1) hX iL_conflict_22 (by decide) ?_
      exact e_iret hX hQ iL_conflict_23 rfl (by decide) (by decide) (uP.thr hg9 hx9 ho hXo (by rw [hk1]; decide) (by rw [hk1]; rfl))
    · refine e_catch hX hT [(0, 17, 20, 26)] (0, 17, 24, 13) [] rfl (List.forall_mem_cons.mpr ⟨⟨by decide, _, wL_cl_26, xm_xA, xm_xN, xn_xAxN⟩, fun q hq => absurd hq List.not_mem_nil⟩) ⟨by decide, by decide⟩ (by decide) wL_cl_13 wL_ca_xA (fun q => ?_)
      refine e_astore hX iL_conflict_24 (by decide) ?_
      refine e_iconst (v := 2) hX iL_conflict_26 (by decide) ?_
      exact e_iret hX hQ iL_conflict_27 rfl (by decide) (by decide) (uP.thr hg9 hx9 ho hXo (by rw [hk1]; decide) (by rw [hk1]; rfl))
  · obtain ⟨hk, rfl, hg9, hx9⟩ := h9
    refine e_if_eq hX iL_conflict_8 (fun c8 => ?_) (fun c8 => ?_)
    · refine e_lconst (v := 0) hX iL_conflict_15 (by decide) ?_
      refine e_last hX 0 iL_conflict_16 (hx9 _ _ hXo ho) rfl (by decide) (by decide) ?_
      refine e_goto hX iL_conflict_17 ?_
      refine e_iconst (v := 0) hX iL_conflict_28 (by decide) ?_
      exact e_iret hX hQ iL_conflict_29 rfl (by decide) (by decide) (uP.ok hg9 hx9 hXo (hx9 _ _ hXo ho) hk (bL_f (b2i_0.mp c8)))
    · refine e_lconst (v := 1) hX iL_conflict_11 (by decide) ?_
      refine e_goto hX iL_conflict_12 ?_
      refine e_last hX 0 iL_conflict_16 (hx9 _ _ hXo ho) rfl (by decide) (by decide) ?_
      refine e_goto hX iL_conflict_17 ?_
      refine e_iconst (v := 0) hX iL_conflict_28 (by decide) ?_
      exact e_iret hX hQ iL_conflict_29 rfl (by decide) (by decide) (uP.ok hg9 hx9 hXo (hx9 _ _ hXo ho) hk (bL_t (b2i_n0.mp c8)))
theorem l_groupSize (htr : l.stackTraces = false) (hg : GP θ ph g X σ) (hXo : X o) {f0 : Nat → Int64} (ho : ph o = some (e_L θ 1 f0)) (id : Int32) : MCW yL_groupSize cL_groupSize 4 (some .int) [(0, 9, 12, 26)] 6 1 6 l θ [.ref g, .int id, .ref o] ph (uP θ ph g X o (k_id σ id) (Int32.toInt64 (nI (popN (rchN σ (fnd σ id))))) σ σ) := by
  refine MCW.of htr (by decide) (Nat.le_of_ble_eq_true rfl) ?_
  intro x hX hQ hT
  obtain ⟨fs, hgo⟩ := hg.go
  refine e_aload_n hX 2 iL_groupSize_0 rfl rfl ?_
  refine e_iconst (v := 0) hX iL_groupSize_1 (by decide) ?_
  refine e_aload_n hX 0 iL_groupSize_2 rfl rfl ?_
  refine e_iload_n hX 1 iL_groupSize_3 rfl rfl ?_
  refine e_callV hX iL_groupSize_4 hgo (m_groupSize htr hg id) rfl rfl ⟨by decide, by decide, by decide, by decide⟩ (Nat.le_of_ble_eq_true rfl) (fun E9 p9 h9 => ?_) (fun v9 p9 h9 => ?_)
  · obtain ⟨hk, hE, hg9, hx9⟩ := h9
    obtain ⟨hk1, rfl⟩ := ox1 hk hE
    refine e_catch hX hT [] (0, 9, 12, 26) [] rfl (fun q hq => absurd hq List.not_mem_nil) ⟨by decide, by decide⟩ (by decide) wL_cl_26 wL_ca_xN (fun q => ?_)
    refine e_astore_n hX 3 iL_groupSize_12 rfl (by decide) ?_
    refine e_iconst (v := 1) hX iL_groupSize_13 (by decide) ?_
    exact e_iret hX hQ iL_groupSize_14 rfl (by decide) (by decide) (uP.thr hg9 hx9 ho hXo (by rw [hk1]; decide) (by rw [hk1]; rfl))
  · obtain ⟨hk, rfl, hg9, hx9⟩ := h9
    refine e_i2l hX iL_groupSize_7 ?_
    refine e_last hX 0 iL_groupSize_8 (hx9 _ _ hXo ho) rfl (by decide) (by decide) ?_
    refine e_goto hX iL_groupSize_9 ?_
    refine e_iconst (v := 0) hX iL_groupSize_15 (by decide) ?_
    exact e_iret hX hQ iL_groupSize_16 rfl (by decide) (by decide) (uP.ok hg9 hx9 hXo (hx9 _ _ hXo ho) hk rfl)
theorem l_isInRepair (htr : l.stackTraces = false) (hg : GP θ ph g X σ) (hXo : X o) {f0 : Nat → Int64} (ho : ph o = some (e_L θ 1 f0)) (id : Int32) : MCW yL_isInRepair cL_isInRepair 4 (some .int) [(0, 16, 19, 26)] 17 1 6 l θ [.ref g, .int id, .ref o] ph (uP θ ph g X o (k_id σ id) (bL ((bstN σ).testBit (fnd σ id))) σ σ) := by
  refine MCW.of htr (by decide) (Nat.le_of_ble_eq_true rfl) ?_
  intro x hX hQ hT
  obtain ⟨fs, hgo⟩ := hg.go
  refine e_aload_n hX 2 iL_isInRepair_0 rfl rfl ?_
  refine e_iconst (v := 0) hX iL_isInRepair_1 (by decide) ?_
  refine e_aload_n hX 0 iL_isInRepair_2 rfl rfl ?_
  refine e_iload_n hX 1 iL_isInRepair_3 rfl rfl ?_
  refine e_callV hX iL_isInRepair_4 hgo (m_isInRepair htr hg id) rfl rfl ⟨by decide, by decide, by decide, by decide⟩ (Nat.le_of_ble_eq_true rfl) (fun E9 p9 h9 => ?_) (fun v9 p9 h9 => ?_)
  · obtain ⟨hk, hE, hg9, hx9⟩ := h9
    obtain ⟨hk1, rfl⟩ := ox1 hk hE
    refine e_catch hX hT [] (0, 16, 19, 26) [] rfl (fun q hq => absurd hq List.not_mem_nil) ⟨by decide, by decide⟩ (by decide) wL_cl_26 wL_ca_xN (fun q => ?_)
    refine e_astore_n hX 3 iL_isInRepair_19 rfl (by decide) ?_
    refine e_iconst (v := 1) hX iL_isInRepair_20 (by decide) ?_
    exact e_iret hX hQ iL_isInRepair_21 rfl (by decide) (by decide) (uP.thr hg9 hx9 ho hXo (by rw [hk1]; decide) (by rw [hk1]; rfl))
  · obtain ⟨hk, rfl, hg9, hx9⟩ := h9
    refine e_if_eq hX iL_isInRepair_7 (fun c7 => ?_) (fun c7 => ?_)
    · refine e_lconst (v := 0) hX iL_isInRepair_14 (by decide) ?_
      refine e_last hX 0 iL_isInRepair_15 (hx9 _ _ hXo ho) rfl (by decide) (by decide) ?_
      refine e_goto hX iL_isInRepair_16 ?_
      refine e_iconst (v := 0) hX iL_isInRepair_22 (by decide) ?_
      exact e_iret hX hQ iL_isInRepair_23 rfl (by decide) (by decide) (uP.ok hg9 hx9 hXo (hx9 _ _ hXo ho) hk (bL_f (b2i_0.mp c7)))
    · refine e_lconst (v := 1) hX iL_isInRepair_10 (by decide) ?_
      refine e_goto hX iL_isInRepair_11 ?_
      refine e_last hX 0 iL_isInRepair_15 (hx9 _ _ hXo ho) rfl (by decide) (by decide) ?_
      refine e_goto hX iL_isInRepair_16 ?_
      refine e_iconst (v := 0) hX iL_isInRepair_22 (by decide) ?_
      exact e_iret hX hQ iL_isInRepair_23 rfl (by decide) (by decide) (uP.ok hg9 hx9 hXo (hx9 _ _ hXo ho) hk (bL_t (b2i_n0.mp c7)))
theorem l_determines (htr : l.stackTraces = false) (hg : GP θ ph g X σ) (hXo : X o) {f0 : Nat → Int64} (ho : ph o = some (e_L θ 1 f0)) (s c : Int32) : MCW yL_determines cL_determines 5 (some .int) [(0, 17, 20, 13), (0, 17, 24, 46)] 6 1 6 l θ [.ref g, .int s, .int c, .ref o] ph (uP θ ph g X o (k_det s c) (bL (a_det σ s c)) σ σ) := by
  refine MCW.of htr (by decide) (Nat.le_of_ble_eq_true rfl) ?_
  intro x hX hQ hT
  obtain ⟨fs, hgo⟩ := hg.go
  refine e_aload_n hX 3 iL_determines_0 rfl rfl ?_
  refine e_iconst (v := 0) hX iL_determines_1 (by decide) ?_
  refine e_aload_n hX 0 iL_determines_2 rfl rfl ?_
  refine e_iload_n hX 1 iL_determines_3 rfl rfl ?_
  refine e_iload_n hX 2 iL_determines_4 rfl rfl ?_
  refine e_callV hX iL_determines_5 hgo (m_determines htr hg s c) rfl rfl ⟨by decide, by decide, by decide, by decide⟩ (Nat.le_of_ble_eq_true rfl) (fun E9 p9 h9 => ?_) (fun v9 p9 h9 => ?_)
  · obtain ⟨hk, hE, hg9, hx9⟩ := h9
    rcases ox2 hk hE with ⟨hk1, rfl⟩ | ⟨hk1, rfl⟩
    · refine e_catch hX hT [] (0, 17, 20, 13) [(0, 17, 24, 46)] rfl (fun q hq => absurd hq List.not_mem_nil) ⟨by decide, by decide⟩ (by decide) wL_cl_13 wL_ca_xA (fun q => ?_)
      refine e_astore hX iL_determines_20 (by decide) ?_
      refine e_iconst (v := 1) hX iL_determines_22 (by decide) ?_
      exact e_iret hX hQ iL_determines_23 rfl (by decide) (by decide) (uP.thr hg9 hx9 ho hXo (by rw [hk1]; decide) (by rw [hk1]; rfl))
    · refine e_catch hX hT [(0, 17, 20, 13)] (0, 17, 24, 46) [] rfl (List.forall_mem_cons.mpr ⟨⟨by decide, _, wL_cl_13, xm_xB, xm_xA, xn_xBxA⟩, fun q hq => absurd hq List.not_mem_nil⟩) ⟨by decide, by decide⟩ (by decide) wL_cl_46 wL_ca_xB (fun q => ?_)
      refine e_astore hX iL_determines_24 (by decide) ?_
      refine e_iconst (v := 2) hX iL_determines_26 (by decide) ?_
      exact e_iret hX hQ iL_determines_27 rfl (by decide) (by decide) (uP.thr hg9 hx9 ho hXo (by rw [hk1]; decide) (by rw [hk1]; rfl))
  · obtain ⟨hk, rfl, hg9, hx9⟩ := h9
    refine e_if_eq hX iL_determines_8 (fun c8 => ?_) (fun c8 => ?_)
    · refine e_lconst (v := 0) hX iL_determines_15 (by decide) ?_
      refine e_last hX 0 iL_determines_16 (hx9 _ _ hXo ho) rfl (by decide) (by decide) ?_
      refine e_goto hX iL_determines_17 ?_
      refine e_iconst (v := 0) hX iL_determines_28 (by decide) ?_
      exact e_iret hX hQ iL_determines_29 rfl (by decide) (by decide) (uP.ok hg9 hx9 hXo (hx9 _ _ hXo ho) hk (bL_f (b2i_0.mp c8)))
    · refine e_lconst (v := 1) hX iL_determines_11 (by decide) ?_
      refine e_goto hX iL_determines_12 ?_
      refine e_last hX 0 iL_determines_16 (hx9 _ _ hXo ho) rfl (by decide) (by decide) ?_
      refine e_goto hX iL_determines_17 ?_
      refine e_iconst (v := 0) hX iL_determines_28 (by decide) ?_
      exact e_iret hX hQ iL_determines_29 rfl (by decide) (by decide) (uP.ok hg9 hx9 hXo (hx9 _ _ hXo ho) hk (bL_t (b2i_n0.mp c8)))
theorem l_determinesByPairs (htr : l.stackTraces = false) (hg : GP θ ph g X σ) (hXo : X o) {f0 : Nat → Int64} (ho : ph o = some (e_L θ 1 f0)) (s c : Int32) : MCW yL_determinesByPairs cL_determinesByPairs 5 (some .int) [(0, 17, 20, 13), (0, 17, 24, 46)] 6 1 6 l θ [.ref g, .int s, .int c, .ref o] ph (uP θ ph g X o (k_det s c) (bL (a_det σ s c)) σ σ) := by
  refine MCW.of htr (by decide) (Nat.le_of_ble_eq_true rfl) ?_
  intro x hX hQ hT
  obtain ⟨fs, hgo⟩ := hg.go
  refine e_aload_n hX 3 iL_determinesByPairs_0 rfl rfl ?_
  refine e_iconst (v := 0) hX iL_determinesByPairs_1 (by decide) ?_
  refine e_aload_n hX 0 iL_determinesByPairs_2 rfl rfl ?_
  refine e_iload_n hX 1 iL_determinesByPairs_3 rfl rfl ?_
  refine e_iload_n hX 2 iL_determinesByPairs_4 rfl rfl ?_
  refine e_callV hX iL_determinesByPairs_5 hgo (m_determinesP htr hg s c) rfl rfl ⟨by decide, by decide, by decide, by decide⟩ (Nat.le_of_ble_eq_true rfl) (fun E9 p9 h9 => ?_) (fun v9 p9 h9 => ?_)
  · obtain ⟨hk, hE, hg9, hx9⟩ := h9
    rcases ox2 hk hE with ⟨hk1, rfl⟩ | ⟨hk1, rfl⟩
    · refine e_catch hX hT [] (0, 17, 20, 13) [(0, 17, 24, 46)] rfl (fun q hq => absurd hq List.not_mem_nil) ⟨by decide, by decide⟩ (by decide) wL_cl_13 wL_ca_xA (fun q => ?_)
      refine e_astore hX iL_determinesByPairs_20 (by decide) ?_
      refine e_iconst (v := 1) hX iL_determinesByPairs_22 (by decide) ?_
      exact e_iret hX hQ iL_determinesByPairs_23 rfl (by decide) (by decide) (uP.thr hg9 hx9 ho hXo (by rw [hk1]; decide) (by rw [hk1]; rfl))
    · refine e_catch hX hT [(0, 17, 20, 13)] (0, 17, 24, 46) [] rfl (List.forall_mem_cons.mpr ⟨⟨by decide, _, wL_cl_13, xm_xB, xm_xA, xn_xBxA⟩, fun q hq => absurd hq List.not_mem_nil⟩) ⟨by decide, by decide⟩ (by decide) wL_cl_46 wL_ca_xB (fun q => ?_)
      refine e_astore hX iL_determinesByPairs_24 (by decide) ?_
      refine e_iconst (v := 2) hX iL_determinesByPairs_26 (by decide) ?_
      exact e_iret hX hQ iL_determinesByPairs_27 rfl (by decide) (by decide) (uP.thr hg9 hx9 ho hXo (by rw [hk1]; decide) (by rw [hk1]; rfl))
  · obtain ⟨hk, rfl, hg9, hx9⟩ := h9
    refine e_if_eq hX iL_determinesByPairs_8 (fun c8 => ?_) (fun c8 => ?_)
    · refine e_lconst (v := 0) hX iL_determinesByPairs_15 (by decide) ?_
      refine e_last hX 0 iL_determinesByPairs_16 (hx9 _ _ hXo ho) rfl (by decide) (by decide) ?_
      refine e_goto hX iL_determinesByPairs_17 ?_
      refine e_iconst (v := 0) hX iL_determinesByPairs_28 (by decide) ?_
      exact e_iret hX hQ iL_determinesByPairs_29 rfl (by decide) (by decide) (uP.ok hg9 hx9 hXo (hx9 _ _ hXo ho) hk (bL_f (b2i_0.mp c8)))
    · refine e_lconst (v := 1) hX iL_determinesByPairs_11 (by decide) ?_
      refine e_goto hX iL_determinesByPairs_12 ?_
      refine e_last hX 0 iL_determinesByPairs_16 (hx9 _ _ hXo ho) rfl (by decide) (by decide) ?_
      refine e_goto hX iL_determinesByPairs_17 ?_
      refine e_iconst (v := 0) hX iL_determinesByPairs_28 (by decide) ?_
      exact e_iret hX hQ iL_determinesByPairs_29 rfl (by decide) (by decide) (uP.ok hg9 hx9 hXo (hx9 _ _ hXo ho) hk (bL_t (b2i_n0.mp c8)))
theorem l_minimalCount (htr : l.stackTraces = false) (hg : GP θ ph g X σ) (hXo : X o) {f0 : Nat → Int64} (ho : ph o = some (e_L θ 1 f0)) (c : Int32) : MCW yL_minimalCount cL_minimalCount 4 (some .int) [(0, 9, 12, 46)] 7 1 6 l θ [.ref g, .int c, .ref o] ph (uP θ ph g X o (k_col c) (Int32.toInt64 (nI (pop32 (minM σ (ix c))))) σ σ) := by
  refine MCW.of htr (by decide) (Nat.le_of_ble_eq_true rfl) ?_
  intro x hX hQ hT
  obtain ⟨fs, hgo⟩ := hg.go
  refine e_aload_n hX 2 iL_minimalCount_0 rfl rfl ?_
  refine e_iconst (v := 0) hX iL_minimalCount_1 (by decide) ?_
  refine e_aload_n hX 0 iL_minimalCount_2 rfl rfl ?_
  refine e_iload_n hX 1 iL_minimalCount_3 rfl rfl ?_
  refine e_callV hX iL_minimalCount_4 hgo (m_minimalCount htr hg c) rfl rfl ⟨by decide, by decide, by decide, by decide⟩ (Nat.le_of_ble_eq_true rfl) (fun E9 p9 h9 => ?_) (fun v9 p9 h9 => ?_)
  · obtain ⟨hk, hE, hg9, hx9⟩ := h9
    obtain ⟨hk1, rfl⟩ := ox1 hk hE
    refine e_catch hX hT [] (0, 9, 12, 46) [] rfl (fun q hq => absurd hq List.not_mem_nil) ⟨by decide, by decide⟩ (by decide) wL_cl_46 wL_ca_xB (fun q => ?_)
    refine e_astore_n hX 3 iL_minimalCount_12 rfl (by decide) ?_
    refine e_iconst (v := 1) hX iL_minimalCount_13 (by decide) ?_
    exact e_iret hX hQ iL_minimalCount_14 rfl (by decide) (by decide) (uP.thr hg9 hx9 ho hXo (by rw [hk1]; decide) (by rw [hk1]; rfl))
  · obtain ⟨hk, rfl, hg9, hx9⟩ := h9
    refine e_i2l hX iL_minimalCount_7 ?_
    refine e_last hX 0 iL_minimalCount_8 (hx9 _ _ hXo ho) rfl (by decide) (by decide) ?_
    refine e_goto hX iL_minimalCount_9 ?_
    refine e_iconst (v := 0) hX iL_minimalCount_15 (by decide) ?_
    exact e_iret hX hQ iL_minimalCount_16 rfl (by decide) (by decide) (uP.ok hg9 hx9 hXo (hx9 _ _ hXo ho) hk rfl)
theorem l_minimalCountByTrying (htr : l.stackTraces = false) (hg : GP θ ph g X σ) (hXo : X o) {f0 : Nat → Int64} (ho : ph o = some (e_L θ 1 f0)) (c : Int32) : MCW yL_minimalCountByTrying cL_minimalCountByTrying 4 (some .int) [(0, 9, 12, 46)] 7 1 6 l θ [.ref g, .int c, .ref o] ph (uP θ ph g X o (k_col c) (Int32.toInt64 (nI (a_minT σ (ix c)))) σ σ) := by
  refine MCW.of htr (by decide) (Nat.le_of_ble_eq_true rfl) ?_
  intro x hX hQ hT
  obtain ⟨fs, hgo⟩ := hg.go
  refine e_aload_n hX 2 iL_minimalCountByTrying_0 rfl rfl ?_
  refine e_iconst (v := 0) hX iL_minimalCountByTrying_1 (by decide) ?_
  refine e_aload_n hX 0 iL_minimalCountByTrying_2 rfl rfl ?_
  refine e_iload_n hX 1 iL_minimalCountByTrying_3 rfl rfl ?_
  refine e_callV hX iL_minimalCountByTrying_4 hgo (m_minimalCountT htr hg c) rfl rfl ⟨by decide, by decide, by decide, by decide⟩ (Nat.le_of_ble_eq_true rfl) (fun E9 p9 h9 => ?_) (fun v9 p9 h9 => ?_)
  · obtain ⟨hk, hE, hg9, hx9⟩ := h9
    obtain ⟨hk1, rfl⟩ := ox1 hk hE
    refine e_catch hX hT [] (0, 9, 12, 46) [] rfl (fun q hq => absurd hq List.not_mem_nil) ⟨by decide, by decide⟩ (by decide) wL_cl_46 wL_ca_xB (fun q => ?_)
    refine e_astore_n hX 3 iL_minimalCountByTrying_12 rfl (by decide) ?_
    refine e_iconst (v := 1) hX iL_minimalCountByTrying_13 (by decide) ?_
    exact e_iret hX hQ iL_minimalCountByTrying_14 rfl (by decide) (by decide) (uP.thr hg9 hx9 ho hXo (by rw [hk1]; decide) (by rw [hk1]; rfl))
  · obtain ⟨hk, rfl, hg9, hx9⟩ := h9
    refine e_i2l hX iL_minimalCountByTrying_7 ?_
    refine e_last hX 0 iL_minimalCountByTrying_8 (hx9 _ _ hXo ho) rfl (by decide) (by decide) ?_
    refine e_goto hX iL_minimalCountByTrying_9 ?_
    refine e_iconst (v := 0) hX iL_minimalCountByTrying_15 (by decide) ?_
    exact e_iret hX hQ iL_minimalCountByTrying_16 rfl (by decide) (by decide) (uP.ok hg9 hx9 hXo (hx9 _ _ hXo ho) hk rfl)
theorem l_minimalAt (htr : l.stackTraces = false) (hg : GP θ ph g X σ) (hXo : X o) {f0 : Nat → Int64} (ho : ph o = some (e_L θ 1 f0)) (c q : Int32) : MCW yL_minimalAt cL_minimalAt 5 (some .int) [(0, 10, 13, 46)] 7 1 6 l θ [.ref g, .int c, .int q, .ref o] ph (uP θ ph g X o (k_minAt σ c q) (Int32.toInt64 (a_minAt σ c q)) σ σ) := by
  refine MCW.of htr (by decide) (Nat.le_of_ble_eq_true rfl) ?_
  intro x hX hQ hT
  obtain ⟨fs, hgo⟩ := hg.go
  refine e_aload_n hX 3 iL_minimalAt_0 rfl rfl ?_
  refine e_iconst (v := 0) hX iL_minimalAt_1 (by decide) ?_
  refine e_aload_n hX 0 iL_minimalAt_2 rfl rfl ?_
  refine e_iload_n hX 1 iL_minimalAt_3 rfl rfl ?_
  refine e_iload_n hX 2 iL_minimalAt_4 rfl rfl ?_
  refine e_callV hX iL_minimalAt_5 hgo (m_minimalAt htr hg c q) rfl rfl ⟨by decide, by decide, by decide, by decide⟩ (Nat.le_of_ble_eq_true rfl) (fun E9 p9 h9 => ?_) (fun v9 p9 h9 => ?_)
  · obtain ⟨hk, hE, hg9, hx9⟩ := h9
    obtain ⟨hk1, rfl⟩ := ox1 hk hE
    refine e_catch hX hT [] (0, 10, 13, 46) [] rfl (fun q hq => absurd hq List.not_mem_nil) ⟨by decide, by decide⟩ (by decide) wL_cl_46 wL_ca_xB (fun q => ?_)
    refine e_astore hX iL_minimalAt_13 (by decide) ?_
    refine e_iconst (v := 1) hX iL_minimalAt_15 (by decide) ?_
    exact e_iret hX hQ iL_minimalAt_16 rfl (by decide) (by decide) (uP.thr hg9 hx9 ho hXo (by rw [hk1]; decide) (by rw [hk1]; rfl))
  · obtain ⟨hk, rfl, hg9, hx9⟩ := h9
    refine e_i2l hX iL_minimalAt_8 ?_
    refine e_last hX 0 iL_minimalAt_9 (hx9 _ _ hXo ho) rfl (by decide) (by decide) ?_
    refine e_goto hX iL_minimalAt_10 ?_
    refine e_iconst (v := 0) hX iL_minimalAt_17 (by decide) ?_
    exact e_iret hX hQ iL_minimalAt_18 rfl (by decide) (by decide) (uP.ok hg9 hx9 hXo (hx9 _ _ hXo ho) hk rfl)
end WA1
