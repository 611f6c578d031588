/-! the law's calls of the class that give a long (printed by gen71.py) -/
section WA2
variable {l : Launch} {θ : e_T} {ph : e_PH} {g : Nat} {X : Nat → Prop} {σ : SG} {o : Nat}
theorem l_closureOf (htr : l.stackTraces = false) (hg : GP θ ph g X σ) (hXo : X o) {f0 : Nat → Int64} (ho : ph o = some (e_L θ 1 f0)) (s : Int32) : MCW yL_closureOf cL_closureOf 4 (some .int) [(0, 9, 12, 13)] 6 1 6 l θ [.ref g, .int s, .ref o] ph (uP θ ph g X o (k_set s) (Int32.toInt64 (nI (a_clos σ (ix s)))) σ σ) := by
  refine MCW.of htr (by decide) (Nat.le_of_ble_eq_true rfl) ?_
  intro x hX hQ hT
  obtain ⟨fs, hgo⟩ := hg.go
  refine e_aload_n hX 2 iL_closureOf_0 rfl rfl ?_
  refine e_iconst (v := 0) hX iL_closureOf_1 (by decide) ?_
  refine e_aload_n hX 0 iL_closureOf_2 rfl rfl ?_
  refine e_iload_n hX 1 iL_closureOf_3 rfl rfl ?_
  refine e_callV hX iL_closureOf_4 hgo (m_closureOf htr hg s) rfl rfl ⟨by decide, by decide, by decide, by decide⟩ (Nat.le_of_ble_eq_true rfl) (fun E9 p9 h9 => ?_) (fun v9 p9 h9 => ?_)
  · obtain ⟨hk, hE, hg9, hx9⟩ := h9
    obtain ⟨hk1, rfl⟩ := ox1 hk hE
    refine e_catch hX hT [] (0, 9, 12, 13) [] rfl (fun q hq => absurd hq List.not_mem_nil) ⟨by decide, by decide⟩ (by decide) wL_cl_13 wL_ca_xA (fun q => ?_)
    refine e_astore_n hX 3 iL_closureOf_12 rfl (by decide) ?_
    refine e_iconst (v := 1) hX iL_closureOf_13 (by decide) ?_
    exact e_iret hX hQ iL_closureOf_14 rfl (by decide) (by decide) (uP.thr hg9 hx9 ho hXo (by rw [hk1]; decide) (by rw [hk1]; rfl))
  · obtain ⟨hk, rfl, hg9, hx9⟩ := h9
    refine e_i2l hX iL_closureOf_7 ?_
    refine e_last hX 0 iL_closureOf_8 (hx9 _ _ hXo ho) rfl (by decide) (by decide) ?_
    refine e_goto hX iL_closureOf_9 ?_
    refine e_iconst (v := 0) hX iL_closureOf_15 (by decide) ?_
    exact e_iret hX hQ iL_closureOf_16 rfl (by decide) (by decide) (uP.ok hg9 hx9 hXo (hx9 _ _ hXo ho) hk rfl)
theorem l_isKey (htr : l.stackTraces = false) (hg : GP θ ph g X σ) (hXo : X o) {f0 : Nat → Int64} (ho : ph o = some (e_L θ 1 f0)) (s : Int32) : MCW yL_isKey cL_isKey 4 (some .int) [(0, 16, 19, 13)] 6 1 6 l θ [.ref g, .int s, .ref o] ph (uP θ ph g X o (k_set s) (bL (keyB s (gN σ) (gV σ))) σ σ) := by
  refine MCW.of htr (by decide) (Nat.le_of_ble_eq_true rfl) ?_
  intro x hX hQ hT
  obtain ⟨fs, hgo⟩ := hg.go
  refine e_aload_n hX 2 iL_isKey_0 rfl rfl ?_
  refine e_iconst (v := 0) hX iL_isKey_1 (by decide) ?_
  refine e_aload_n hX 0 iL_isKey_2 rfl rfl ?_
  refine e_iload_n hX 1 iL_isKey_3 rfl rfl ?_
  refine e_callV hX iL_isKey_4 hgo (m_isKey htr hg s) rfl rfl ⟨by decide, by decide, by decide, by decide⟩ (Nat.le_of_ble_eq_true rfl) (fun E9 p9 h9 => ?_) (fun v9 p9 h9 => ?_)
  · obtain ⟨hk, hE, hg9, hx9⟩ := h9
    obtain ⟨hk1, rfl⟩ := ox1 hk hE
    refine e_catch hX hT [] (0, 16, 19, 13) [] rfl (fun q hq => absurd hq List.not_mem_nil) ⟨by decide, by decide⟩ (by decide) wL_cl_13 wL_ca_xA (fun q => ?_)
    refine e_astore_n hX 3 iL_isKey_19 rfl (by decide) ?_
    refine e_iconst (v := 1) hX iL_isKey_20 (by decide) ?_
    exact e_iret hX hQ iL_isKey_21 rfl (by decide) (by decide) (uP.thr hg9 hx9 ho hXo (by rw [hk1]; decide) (by rw [hk1]; rfl))
  · obtain ⟨hk, rfl, hg9, hx9⟩ := h9
    refine e_if_eq hX iL_isKey_7 (fun c7 => ?_) (fun c7 => ?_)
    · refine e_lconst (v := 0) hX iL_isKey_14 (by decide) ?_
      refine e_last hX 0 iL_isKey_15 (hx9 _ _ hXo ho) rfl (by decide) (by decide) ?_
      refine e_goto hX iL_isKey_16 ?_
      refine e_iconst (v := 0) hX iL_isKey_22 (by decide) ?_
      exact e_iret hX hQ iL_isKey_23 rfl (by decide) (by decide) (uP.ok hg9 hx9 hXo (hx9 _ _ hXo ho) hk (bL_f (b2i_0.mp c7)))
    · refine e_lconst (v := 1) hX iL_isKey_10 (by decide) ?_
      refine e_goto hX iL_isKey_11 ?_
      refine e_last hX 0 iL_isKey_15 (hx9 _ _ hXo ho) rfl (by decide) (by decide) ?_
      refine e_goto hX iL_isKey_16 ?_
      refine e_iconst (v := 0) hX iL_isKey_22 (by decide) ?_
      exact e_iret hX hQ iL_isKey_23 rfl (by decide) (by decide) (uP.ok hg9 hx9 hXo (hx9 _ _ hXo ho) hk (bL_t (b2i_n0.mp c7)))
theorem l_smallestKey (htr : l.stackTraces = false) (hg : GP θ ph g X σ) (hXo : X o) {f0 : Nat → Int64} (ho : ph o = some (e_L θ 1 f0))  : MCW yL_smallestKey cL_smallestKey 3 (some .int) [(0, 8, 11, 26)] 6 1 6 l θ [.ref g, .ref o] ph (uP θ ph g X o (k_sk σ) (Int32.toInt64 (a_sk σ)) σ σ) := by
  refine MCW.of htr (by decide) (Nat.le_of_ble_eq_true rfl) ?_
  intro x hX hQ hT
  obtain ⟨fs, hgo⟩ := hg.go
  refine e_aload_n hX 1 iL_smallestKey_0 rfl rfl ?_
  refine e_iconst (v := 0) hX iL_smallestKey_1 (by decide) ?_
  refine e_aload_n hX 0 iL_smallestKey_2 rfl rfl ?_
  refine e_callV hX iL_smallestKey_3 hgo (m_smallestKey htr hg ) rfl rfl ⟨by decide, by decide, by decide, by decide⟩ (Nat.le_of_ble_eq_true rfl) (fun E9 p9 h9 => ?_) (fun v9 p9 h9 => ?_)
  · obtain ⟨hk, hE, hg9, hx9⟩ := h9
    obtain ⟨hk1, rfl⟩ := ox1 hk hE
    refine e_catch hX hT [] (0, 8, 11, 26) [] rfl (fun q hq => absurd hq List.not_mem_nil) ⟨by decide, by decide⟩ (by decide) wL_cl_26 wL_ca_xN (fun q => ?_)
    refine e_astore_n hX 2 iL_smallestKey_11 rfl (by decide) ?_
    refine e_iconst (v := 1) hX iL_smallestKey_12 (by decide) ?_
    exact e_iret hX hQ iL_smallestKey_13 rfl (by decide) (by decide) (uP.thr hg9 hx9 ho hXo (by rw [hk1]; decide) (by rw [hk1]; rfl))
  · obtain ⟨hk, rfl, hg9, hx9⟩ := h9
    refine e_i2l hX iL_smallestKey_6 ?_
    refine e_last hX 0 iL_smallestKey_7 (hx9 _ _ hXo ho) rfl (by decide) (by decide) ?_
    refine e_goto hX iL_smallestKey_8 ?_
    refine e_iconst (v := 0) hX iL_smallestKey_14 (by decide) ?_
    exact e_iret hX hQ iL_smallestKey_15 rfl (by decide) (by decide) (uP.ok hg9 hx9 hXo (hx9 _ _ hXo ho) hk rfl)
theorem l_errorOf (htr : l.stackTraces = false) (hg : GP θ ph g X σ) (hXo : X o) {f0 : Nat → Int64} (ho : ph o = some (e_L θ 1 f0)) (s c : Int32) : MCW yL_errorOf cL_errorOf 5 (some .int) [(0, 10, 13, 46), (0, 10, 17, 13)] 7 1 6 l θ [.ref g, .int s, .int c, .ref o] ph (uP θ ph g X o (k_err s c) (Int32.toInt64 (nI (errN s (ix c) (gN σ) (gV σ)))) σ σ) := by
  refine MCW.of htr (by decide) (Nat.le_of_ble_eq_true rfl) ?_
  intro x hX hQ hT
  obtain ⟨fs, hgo⟩ := hg.go
  refine e_aload_n hX 3 iL_errorOf_0 rfl rfl ?_
  refine e_iconst (v := 0) hX iL_errorOf_1 (by decide) ?_
  refine e_aload_n hX 0 iL_errorOf_2 rfl rfl ?_
  refine e_iload_n hX 1 iL_errorOf_3 rfl rfl ?_
  refine e_iload_n hX 2 iL_errorOf_4 rfl rfl ?_
  refine e_callV hX iL_errorOf_5 hgo (m_errorOf htr hg s c) rfl rfl ⟨by decide, by decide, by decide, by decide⟩ (Nat.le_of_ble_eq_true rfl) (fun E9 p9 h9 => ?_) (fun v9 p9 h9 => ?_)
  · obtain ⟨hk, hE, hg9, hx9⟩ := h9
    rcases ox2 hk hE with ⟨hk1, rfl⟩ | ⟨hk1, rfl⟩
    · refine e_catch hX hT [] (0, 10, 13, 46) [(0, 10, 17, 13)] rfl (fun q hq => absurd hq List.not_mem_nil) ⟨by decide, by decide⟩ (by decide) wL_cl_46 wL_ca_xB (fun q => ?_)
      refine e_astore hX iL_errorOf_13 (by decide) ?_
      refine e_iconst (v := 1) hX iL_errorOf_15 (by decide) ?_
      exact e_iret hX hQ iL_errorOf_16 rfl (by decide) (by decide) (uP.thr hg9 hx9 ho hXo (by rw [hk1]; decide) (by rw [hk1]; rfl))
    · refine e_catch hX hT [(0, 10, 13, 46)] (0, 10, 17, 13) [] rfl (List.forall_mem_cons.mpr ⟨⟨by decide, _, wL_cl_46, xm_xA, xm_xB, xn_xAxB⟩, fun q hq => absurd hq List.not_mem_nil⟩) ⟨by decide, by decide⟩ (by decide) wL_cl_13 wL_ca_xA (fun q => ?_)
      refine e_astore hX iL_errorOf_17 (by decide) ?_
      refine e_iconst (v := 2) hX iL_errorOf_19 (by decide) ?_
      exact e_iret hX hQ iL_errorOf_20 rfl (by decide) (by decide) (uP.thr hg9 hx9 ho hXo (by rw [hk1]; decide) (by rw [hk1]; rfl))
  · obtain ⟨hk, rfl, hg9, hx9⟩ := h9
    refine e_i2l hX iL_errorOf_8 ?_
    refine e_last hX 0 iL_errorOf_9 (hx9 _ _ hXo ho) rfl (by decide) (by decide) ?_
    refine e_goto hX iL_errorOf_10 ?_
    refine e_iconst (v := 0) hX iL_errorOf_21 (by decide) ?_
    exact e_iret hX hQ iL_errorOf_22 rfl (by decide) (by decide) (uP.ok hg9 hx9 hXo (hx9 _ _ hXo ho) hk rfl)
theorem l_setFactor (htr : l.stackTraces = false) (hg : GP θ ph g X σ) (hXo : X o) {f0 : Nat → Int64} (ho : ph o = some (e_L θ 1 f0)) (f : Int32) : MCW yL_setFactor cL_setFactor 4 (some .int) [(0, 9, 12, 13)] 2 1 6 l θ [.ref g, .int f, .ref o] ph (uP θ ph g X o (k_fac f) (Int32.toInt64 (gF σ)) (s_fac σ f) σ) := by
  refine MCW.of htr (by decide) (Nat.le_of_ble_eq_true rfl) ?_
  intro x hX hQ hT
  obtain ⟨fs, hgo⟩ := hg.go
  refine e_aload_n hX 2 iL_setFactor_0 rfl rfl ?_
  refine e_iconst (v := 0) hX iL_setFactor_1 (by decide) ?_
  refine e_aload_n hX 0 iL_setFactor_2 rfl rfl ?_
  refine e_iload_n hX 1 iL_setFactor_3 rfl rfl ?_
  refine e_callV hX iL_setFactor_4 hgo (m_setFactor htr hg f) rfl rfl ⟨by decide, by decide, by decide, by decide⟩ (Nat.le_of_ble_eq_true rfl) (fun E9 p9 h9 => ?_) (fun v9 p9 h9 => ?_)
  · obtain ⟨hk, hE, hg9, hx9⟩ := h9
    obtain ⟨hk1, rfl⟩ := ox1 hk hE
    refine e_catch hX hT [] (0, 9, 12, 13) [] rfl (fun q hq => absurd hq List.not_mem_nil) ⟨by decide, by decide⟩ (by decide) wL_cl_13 wL_ca_xA (fun q => ?_)
    refine e_astore_n hX 3 iL_setFactor_12 rfl (by decide) ?_
    refine e_iconst (v := 1) hX iL_setFactor_13 (by decide) ?_
    exact e_iret hX hQ iL_setFactor_14 rfl (by decide) (by decide) (uP.thr hg9 hx9 ho hXo (by rw [hk1]; decide) (by rw [hk1]; rfl))
  · obtain ⟨hk, rfl, hg9, hx9⟩ := h9
    refine e_i2l hX iL_setFactor_7 ?_
    refine e_last hX 0 iL_setFactor_8 (hx9 _ _ hXo ho) rfl (by decide) (by decide) ?_
    refine e_goto hX iL_setFactor_9 ?_
    refine e_iconst (v := 0) hX iL_setFactor_15 (by decide) ?_
    exact e_iret hX hQ iL_setFactor_16 rfl (by decide) (by decide) (uP.ok hg9 hx9 hXo (hx9 _ _ hXo ho) hk rfl)
theorem l_medianOf (htr : l.stackTraces = false) (hg : GP θ ph g X σ) (hXo : X o) {f0 : Nat → Int64} (ho : ph o = some (e_L θ 1 f0)) (c : Int32) : MCW yL_medianOf cL_medianOf 4 (some .int) [(0, 9, 12, 46), (0, 9, 15, 26)] 5 1 6 l θ [.ref g, .int c, .ref o] ph (uP θ ph g X o (k_med σ c) (Int32.toInt64 (medN σ (ix c))) σ σ) := by
  refine MCW.of htr (by decide) (Nat.le_of_ble_eq_true rfl) ?_
  intro x hX hQ hT
  obtain ⟨fs, hgo⟩ := hg.go
  refine e_aload_n hX 2 iL_medianOf_0 rfl rfl ?_
  refine e_iconst (v := 0) hX iL_medianOf_1 (by decide) ?_
  refine e_aload_n hX 0 iL_medianOf_2 rfl rfl ?_
  refine e_iload_n hX 1 iL_medianOf_3 rfl rfl ?_
  refine e_callV hX iL_medianOf_4 hgo (m_medianOf htr hg c) rfl rfl ⟨by decide, by decide, by decide, by decide⟩ (Nat.le_of_ble_eq_true rfl) (fun E9 p9 h9 => ?_) (fun v9 p9 h9 => ?_)
  · obtain ⟨hk, hE, hg9, hx9⟩ := h9
    rcases ox2 hk hE with ⟨hk1, rfl⟩ | ⟨hk1, rfl⟩
    · refine e_catch hX hT [] (0, 9, 12, 46) [(0, 9, 15, 26)] rfl (fun q hq => absurd hq List.not_mem_nil) ⟨by decide, by decide⟩ (by decide) wL_cl_46 wL_ca_xB (fun q => ?_)
      refine e_astore_n hX 3 iL_medianOf_12 rfl (by decide) ?_
      refine e_iconst (v := 1) hX iL_medianOf_13 (by decide) ?_
      exact e_iret hX hQ iL_medianOf_14 rfl (by decide) (by decide) (uP.thr hg9 hx9 ho hXo (by rw [hk1]; decide) (by rw [hk1]; rfl))
    · refine e_catch hX hT [(0, 9, 12, 46)] (0, 9, 15, 26) [] rfl (List.forall_mem_cons.mpr ⟨⟨by decide, _, wL_cl_46, xm_xN, xm_xB, xn_xNxB⟩, fun q hq => absurd hq List.not_mem_nil⟩) ⟨by decide, by decide⟩ (by decide) wL_cl_26 wL_ca_xN (fun q => ?_)
      refine e_astore_n hX 3 iL_medianOf_15 rfl (by decide) ?_
      refine e_iconst (v := 2) hX iL_medianOf_16 (by decide) ?_
      exact e_iret hX hQ iL_medianOf_17 rfl (by decide) (by decide) (uP.thr hg9 hx9 ho hXo (by rw [hk1]; decide) (by rw [hk1]; rfl))
  · obtain ⟨hk, rfl, hg9, hx9⟩ := h9
    refine e_i2l hX iL_medianOf_7 ?_
    refine e_last hX 0 iL_medianOf_8 (hx9 _ _ hXo ho) rfl (by decide) (by decide) ?_
    refine e_goto hX iL_medianOf_9 ?_
    refine e_iconst (v := 0) hX iL_medianOf_18 (by decide) ?_
    exact e_iret hX hQ iL_medianOf_19 rfl (by decide) (by decide) (uP.ok hg9 hx9 hXo (hx9 _ _ hXo ho) hk rfl)
theorem l_spreadOf (htr : l.stackTraces = false) (hg : GP θ ph g X σ) (hXo : X o) {f0 : Nat → Int64} (ho : ph o = some (e_L θ 1 f0)) (c : Int32) : MCW yL_spreadOf cL_spreadOf 4 (some .int) [(0, 9, 12, 46), (0, 9, 15, 26)] 5 1 6 l θ [.ref g, .int c, .ref o] ph (uP θ ph g X o (k_med σ c) (Int32.toInt64 (sprN σ (ix c) (medN σ (ix c)))) σ σ) := by
  refine MCW.of htr (by decide) (Nat.le_of_ble_eq_true rfl) ?_
  intro x hX hQ hT
  obtain ⟨fs, hgo⟩ := hg.go
  refine e_aload_n hX 2 iL_spreadOf_0 rfl rfl ?_
  refine e_iconst (v := 0) hX iL_spreadOf_1 (by decide) ?_
  refine e_aload_n hX 0 iL_spreadOf_2 rfl rfl ?_
  refine e_iload_n hX 1 iL_spreadOf_3 rfl rfl ?_
  refine e_callV hX iL_spreadOf_4 hgo (m_spreadOf htr hg c) rfl rfl ⟨by decide, by decide, by decide, by decide⟩ (Nat.le_of_ble_eq_true rfl) (fun E9 p9 h9 => ?_) (fun v9 p9 h9 => ?_)
  · obtain ⟨hk, hE, hg9, hx9⟩ := h9
    rcases ox2 hk hE with ⟨hk1, rfl⟩ | ⟨hk1, rfl⟩
    · refine e_catch hX hT [] (0, 9, 12, 46) [(0, 9, 15, 26)] rfl (fun q hq => absurd hq List.not_mem_nil) ⟨by decide, by decide⟩ (by decide) wL_cl_46 wL_ca_xB (fun q => ?_)
      refine e_astore_n hX 3 iL_spreadOf_12 rfl (by decide) ?_
      refine e_iconst (v := 1) hX iL_spreadOf_13 (by decide) ?_
      exact e_iret hX hQ iL_spreadOf_14 rfl (by decide) (by decide) (uP.thr hg9 hx9 ho hXo (by rw [hk1]; decide) (by rw [hk1]; rfl))
    · refine e_catch hX hT [(0, 9, 12, 46)] (0, 9, 15, 26) [] rfl (List.forall_mem_cons.mpr ⟨⟨by decide, _, wL_cl_46, xm_xN, xm_xB, xn_xNxB⟩, fun q hq => absurd hq List.not_mem_nil⟩) ⟨by decide, by decide⟩ (by decide) wL_cl_26 wL_ca_xN (fun q => ?_)
      refine e_astore_n hX 3 iL_spreadOf_15 rfl (by decide) ?_
      refine e_iconst (v := 2) hX iL_spreadOf_16 (by decide) ?_
      exact e_iret hX hQ iL_spreadOf_17 rfl (by decide) (by decide) (uP.thr hg9 hx9 ho hXo (by rw [hk1]; decide) (by rw [hk1]; rfl))
  · obtain ⟨hk, rfl, hg9, hx9⟩ := h9
    refine e_i2l hX iL_spreadOf_7 ?_
    refine e_last hX 0 iL_spreadOf_8 (hx9 _ _ hXo ho) rfl (by decide) (by decide) ?_
    refine e_goto hX iL_spreadOf_9 ?_
    refine e_iconst (v := 0) hX iL_spreadOf_18 (by decide) ?_
    exact e_iret hX hQ iL_spreadOf_19 rfl (by decide) (by decide) (uP.ok hg9 hx9 hXo (hx9 _ _ hXo ho) hk rfl)
theorem l_isOutlier (htr : l.stackTraces = false) (hg : GP θ ph g X σ) (hXo : X o) {f0 : Nat → Int64} (ho : ph o = some (e_L θ 1 f0)) (id c : Int32) : MCW yL_isOutlier cL_isOutlier 5 (some .int) [(0, 17, 20, 26), (0, 17, 24, 46)] 6 1 6 l θ [.ref g, .int id, .int c, .ref o] ph (uP θ ph g X o (k_idc σ id c) (bL (a_out σ (fnd σ id) (ix c))) σ σ) := by
  refine MCW.of htr (by decide) (Nat.le_of_ble_eq_true rfl) ?_
  intro x hX hQ hT
  obtain ⟨fs, hgo⟩ := hg.go
  refine e_aload_n hX 3 iL_isOutlier_0 rfl rfl ?_
  refine e_iconst (v := 0) hX iL_isOutlier_1 (by decide) ?_
  refine e_aload_n hX 0 iL_isOutlier_2 rfl rfl ?_
  refine e_iload_n hX 1 iL_isOutlier_3 rfl rfl ?_
  refine e_iload_n hX 2 iL_isOutlier_4 rfl rfl ?_
  refine e_callV hX iL_isOutlier_5 hgo (m_isOutlier htr hg id c) rfl rfl ⟨by decide, by decide, by decide, by decide⟩ (Nat.le_of_ble_eq_true rfl) (fun E9 p9 h9 => ?_) (fun v9 p9 h9 => ?_)
  · obtain ⟨hk, hE, hg9, hx9⟩ := h9
    rcases ox2 hk hE with ⟨hk1, rfl⟩ | ⟨hk1, rfl⟩
    · refine e_catch hX hT [] (0, 17, 20, 26) [(0, 17, 24, 46)] rfl (fun q hq => absurd hq List.not_mem_nil) ⟨by decide, by decide⟩ (by decide) wL_cl_26 wL_ca_xN (fun q => ?_)
      refine e_astore hX iL_isOutlier_20 (by decide) ?_
      refine e_iconst (v := 1) hX iL_isOutlier_22 (by decide) ?_
      exact e_iret hX hQ iL_isOutlier_23 rfl (by decide) (by decide) (uP.thr hg9 hx9 ho hXo (by rw [hk1]; decide) (by rw [hk1]; rfl))
    · refine e_catch hX hT [(0, 17, 20, 26)] (0, 17, 24, 46) [] rfl (List.forall_mem_cons.mpr ⟨⟨by decide, _, wL_cl_26, xm_xB, xm_xN, xn_xBxN⟩, fun q hq => absurd hq List.not_mem_nil⟩) ⟨by decide, by decide⟩ (by decide) wL_cl_46 wL_ca_xB (fun q => ?_)
      refine e_astore hX iL_isOutlier_24 (by decide) ?_
      refine e_iconst (v := 2) hX iL_isOutlier_26 (by decide) ?_
      exact e_iret hX hQ iL_isOutlier_27 rfl (by decide) (by decide) (uP.thr hg9 hx9 ho hXo (by rw [hk1]; decide) (by rw [hk1]; rfl))
  · obtain ⟨hk, rfl, hg9, hx9⟩ := h9
    refine e_if_eq hX iL_isOutlier_8 (fun c8 => ?_) (fun c8 => ?_)
    · refine e_lconst (v := 0) hX iL_isOutlier_15 (by decide) ?_
      refine e_last hX 0 iL_isOutlier_16 (hx9 _ _ hXo ho) rfl (by decide) (by decide) ?_
      refine e_goto hX iL_isOutlier_17 ?_
      refine e_iconst (v := 0) hX iL_isOutlier_28 (by decide) ?_
      exact e_iret hX hQ iL_isOutlier_29 rfl (by decide) (by decide) (uP.ok hg9 hx9 hXo (hx9 _ _ hXo ho) hk (bL_f (b2i_0.mp c8)))
    · refine e_lconst (v := 1) hX iL_isOutlier_11 (by decide) ?_
      refine e_goto hX iL_isOutlier_12 ?_
      refine e_last hX 0 iL_isOutlier_16 (hx9 _ _ hXo ho) rfl (by decide) (by decide) ?_
      refine e_goto hX iL_isOutlier_17 ?_
      refine e_iconst (v := 0) hX iL_isOutlier_28 (by decide) ?_
      exact e_iret hX hQ iL_isOutlier_29 rfl (by decide) (by decide) (uP.ok hg9 hx9 hXo (hx9 _ _ hXo ho) hk (bL_t (b2i_n0.mp c8)))
theorem l_outliers (htr : l.stackTraces = false) (hg : GP θ ph g X σ) (hXo : X o) {f0 : Nat → Int64} (ho : ph o = some (e_L θ 1 f0)) (c : Int32) : MCW yL_outliers cL_outliers 4 (some .int) [(0, 9, 12, 46)] 5 1 6 l θ [.ref g, .int c, .ref o] ph (uP θ ph g X o (k_col c) (Int32.toInt64 (nI (cntB (gN σ) (fun i => a_out σ i (ix c))))) σ σ) := by
  refine MCW.of htr (by decide) (Nat.le_of_ble_eq_true rfl) ?_
  intro x hX hQ hT
  obtain ⟨fs, hgo⟩ := hg.go
  refine e_aload_n hX 2 iL_outliers_0 rfl rfl ?_
  refine e_iconst (v := 0) hX iL_outliers_1 (by decide) ?_
  refine e_aload_n hX 0 iL_outliers_2 rfl rfl ?_
  refine e_iload_n hX 1 iL_outliers_3 rfl rfl ?_
  refine e_callV hX iL_outliers_4 hgo (m_outliers htr hg c) rfl rfl ⟨by decide, by decide, by decide, by decide⟩ (Nat.le_of_ble_eq_true rfl) (fun E9 p9 h9 => ?_) (fun v9 p9 h9 => ?_)
  · obtain ⟨hk, hE, hg9, hx9⟩ := h9
    obtain ⟨hk1, rfl⟩ := ox1 hk hE
    refine e_catch hX hT [] (0, 9, 12, 46) [] rfl (fun q hq => absurd hq List.not_mem_nil) ⟨by decide, by decide⟩ (by decide) wL_cl_46 wL_ca_xB (fun q => ?_)
    refine e_astore_n hX 3 iL_outliers_12 rfl (by decide) ?_
    refine e_iconst (v := 1) hX iL_outliers_13 (by decide) ?_
    exact e_iret hX hQ iL_outliers_14 rfl (by decide) (by decide) (uP.thr hg9 hx9 ho hXo (by rw [hk1]; decide) (by rw [hk1]; rfl))
  · obtain ⟨hk, rfl, hg9, hx9⟩ := h9
    refine e_i2l hX iL_outliers_7 ?_
    refine e_last hX 0 iL_outliers_8 (hx9 _ _ hXo ho) rfl (by decide) (by decide) ?_
    refine e_goto hX iL_outliers_9 ?_
    refine e_iconst (v := 0) hX iL_outliers_15 (by decide) ?_
    exact e_iret hX hQ iL_outliers_16 rfl (by decide) (by decide) (uP.ok hg9 hx9 hXo (hx9 _ _ hXo ho) hk rfl)
theorem l_saveProfile (htr : l.stackTraces = false) (hg : GP θ ph g X σ) (hXo : X o) {f0 : Nat → Int64} (ho : ph o = some (e_L θ 1 f0))  : MCW yL_saveProfile cL_saveProfile 3 (some .int) [(0, 8, 11, 15)] 5 1 6 l θ [.ref g, .ref o] ph (uP θ ph g X o (k_save σ) (Int32.toInt64 (nI (gN σ))) (s_save σ) σ) := by
  refine MCW.of htr (by decide) (Nat.le_of_ble_eq_true rfl) ?_
  intro x hX hQ hT
  obtain ⟨fs, hgo⟩ := hg.go
  refine e_aload_n hX 1 iL_saveProfile_0 rfl rfl ?_
  refine e_iconst (v := 0) hX iL_saveProfile_1 (by decide) ?_
  refine e_aload_n hX 0 iL_saveProfile_2 rfl rfl ?_
  refine e_callV hX iL_saveProfile_3 hgo (m_saveProfile htr hg ) rfl rfl ⟨by decide, by decide, by decide, by decide⟩ (Nat.le_of_ble_eq_true rfl) (fun E9 p9 h9 => ?_) (fun v9 p9 h9 => ?_)
  · obtain ⟨hk, hE, hg9, hx9⟩ := h9
    obtain ⟨hk1, rfl⟩ := ox1 hk hE
    refine e_catch hX hT [] (0, 8, 11, 15) [] rfl (fun q hq => absurd hq List.not_mem_nil) ⟨by decide, by decide⟩ (by decide) wL_cl_15 wL_ca_xS (fun q => ?_)
    refine e_astore_n hX 2 iL_saveProfile_11 rfl (by decide) ?_
    refine e_iconst (v := 1) hX iL_saveProfile_12 (by decide) ?_
    exact e_iret hX hQ iL_saveProfile_13 rfl (by decide) (by decide) (uP.thr hg9 hx9 ho hXo (by rw [hk1]; decide) (by rw [hk1]; rfl))
  · obtain ⟨hk, rfl, hg9, hx9⟩ := h9
    refine e_i2l hX iL_saveProfile_6 ?_
    refine e_last hX 0 iL_saveProfile_7 (hx9 _ _ hXo ho) rfl (by decide) (by decide) ?_
    refine e_goto hX iL_saveProfile_8 ?_
    refine e_iconst (v := 0) hX iL_saveProfile_14 (by decide) ?_
    exact e_iret hX hQ iL_saveProfile_15 rfl (by decide) (by decide) (uP.ok hg9 hx9 hXo (hx9 _ _ hXo ho) hk rfl)
theorem l_drift (htr : l.stackTraces = false) (hg : GP θ ph g X σ) (hXo : X o) {f0 : Nat → Int64} (ho : ph o = some (e_L θ 1 f0)) (c : Int32) : MCW yL_drift cL_drift 4 (some .int) [(0, 9, 12, 46), (0, 9, 15, 26), (0, 9, 18, 15)] 6 1 6 l θ [.ref g, .int c, .ref o] ph (uP θ ph g X o (k_drift σ c) (Int32.toInt64 (drfN σ (ix c))) σ σ) := by
  refine MCW.of htr (by decide) (Nat.le_of_ble_eq_true rfl) ?_
  intro x hX hQ hT
  obtain ⟨fs, hgo⟩ := hg.go
  refine e_aload_n hX 2 iL_drift_0 rfl rfl ?_
  refine e_iconst (v := 0) hX iL_drift_1 (by decide) ?_
  refine e_aload_n hX 0 iL_drift_2 rfl rfl ?_
  refine e_iload_n hX 1 iL_drift_3 rfl rfl ?_
  refine e_callV hX iL_drift_4 hgo (m_drift htr hg c) rfl rfl ⟨by decide, by decide, by decide, by decide⟩ (Nat.le_of_ble_eq_true rfl) (fun E9 p9 h9 => ?_) (fun v9 p9 h9 => ?_)
  · obtain ⟨hk, hE, hg9, hx9⟩ := h9
    rcases ox3 hk hE with ⟨hk1, rfl⟩ | ⟨hk1, rfl⟩ | ⟨hk1, rfl⟩
    · refine e_catch hX hT [] (0, 9, 12, 46) [(0, 9, 15, 26), (0, 9, 18, 15)] rfl (fun q hq => absurd hq List.not_mem_nil) ⟨by decide, by decide⟩ (by decide) wL_cl_46 wL_ca_xB (fun q => ?_)
      refine e_astore_n hX 3 iL_drift_12 rfl (by decide) ?_
      refine e_iconst (v := 1) hX iL_drift_13 (by decide) ?_
      exact e_iret hX hQ iL_drift_14 rfl (by decide) (by decide) (uP.thr hg9 hx9 ho hXo (by rw [hk1]; decide) (by rw [hk1]; rfl))
    · refine e_catch hX hT [(0, 9, 12, 46)] (0, 9, 15, 26) [(0, 9, 18, 15)] rfl (List.forall_mem_cons.mpr ⟨⟨by decide, _, wL_cl_46, xm_xN, xm_xB, xn_xNxB⟩, fun q hq => absurd hq List.not_mem_nil⟩) ⟨by decide, by decide⟩ (by decide) wL_cl_26 wL_ca_xN (fun q => ?_)
      refine e_astore_n hX 3 iL_drift_15 rfl (by decide) ?_
      refine e_iconst (v := 2) hX iL_drift_16 (by decide) ?_
      exact e_iret hX hQ iL_drift_17 rfl (by decide) (by decide) (uP.thr hg9 hx9 ho hXo (by rw [hk1]; decide) (by rw [hk1]; rfl))
    · refine e_catch hX hT [(0, 9, 12, 46), (0, 9, 15, 26)] (0, 9, 18, 15) [] rfl (List.forall_mem_cons.mpr ⟨⟨by decide, _, wL_cl_46, xm_xS, xm_xB, xn_xSxB⟩, (List.forall_mem_cons.mpr ⟨⟨by decide, _, wL_cl_26, xm_xS, xm_xN, xn_xSxN⟩, fun q hq => absurd hq List.not_mem_nil⟩)⟩) ⟨by decide, by decide⟩ (by decide) wL_cl_15 wL_ca_xS (fun q => ?_)
      refine e_astore_n hX 3 iL_drift_18 rfl (by decide) ?_
      refine e_iconst (v := 3) hX iL_drift_19 (by decide) ?_
      exact e_iret hX hQ iL_drift_20 rfl (by decide) (by decide) (uP.thr hg9 hx9 ho hXo (by rw [hk1]; decide) (by rw [hk1]; rfl))
  · obtain ⟨hk, rfl, hg9, hx9⟩ := h9
    refine e_i2l hX iL_drift_7 ?_
    refine e_last hX 0 iL_drift_8 (hx9 _ _ hXo ho) rfl (by decide) (by decide) ?_
    refine e_goto hX iL_drift_9 ?_
    refine e_iconst (v := 0) hX iL_drift_21 (by decide) ?_
    exact e_iret hX hQ iL_drift_22 rfl (by decide) (by decide) (uP.ok hg9 hx9 hXo (hx9 _ _ hXo ho) hk rfl)
theorem l_mostDrifted (htr : l.stackTraces = false) (hg : GP θ ph g X σ) (hXo : X o) {f0 : Nat → Int64} (ho : ph o = some (e_L θ 1 f0))  : MCW yL_mostDrifted cL_mostDrifted 3 (some .int) [(0, 8, 11, 26), (0, 8, 14, 15)] 6 1 6 l θ [.ref g, .ref o] ph (uP θ ph g X o (k_most σ) (Int32.toInt64 (nI (mstG (drfN σ) 5).1)) σ σ) := by
  refine MCW.of htr (by decide) (Nat.le_of_ble_eq_true rfl) ?_
  intro x hX hQ hT
  obtain ⟨fs, hgo⟩ := hg.go
  refine e_aload_n hX 1 iL_mostDrifted_0 rfl rfl ?_
  refine e_iconst (v := 0) hX iL_mostDrifted_1 (by decide) ?_
  refine e_aload_n hX 0 iL_mostDrifted_2 rfl rfl ?_
  refine e_callV hX iL_mostDrifted_3 hgo (m_mostDrifted htr hg ) rfl rfl ⟨by decide, by decide, by decide, by decide⟩ (Nat.le_of_ble_eq_true rfl) (fun E9 p9 h9 => ?_) (fun v9 p9 h9 => ?_)
  · obtain ⟨hk, hE, hg9, hx9⟩ := h9
    rcases ox2 hk hE with ⟨hk1, rfl⟩ | ⟨hk1, rfl⟩
    · refine e_catch hX hT [] (0, 8, 11, 26) [(0, 8, 14, 15)] rfl (fun q hq => absurd hq List.not_mem_nil) ⟨by decide, by decide⟩ (by decide) wL_cl_26 wL_ca_xN (fun q => ?_)
      refine e_astore_n hX 2 iL_mostDrifted_11 rfl (by decide) ?_
      refine e_iconst (v := 1) hX iL_mostDrifted_12 (by decide) ?_
      exact e_iret hX hQ iL_mostDrifted_13 rfl (by decide) (by decide) (uP.thr hg9 hx9 ho hXo (by rw [hk1]; decide) (by rw [hk1]; rfl))
    · refine e_catch hX hT [(0, 8, 11, 26)] (0, 8, 14, 15) [] rfl (List.forall_mem_cons.mpr ⟨⟨by decide, _, wL_cl_26, xm_xS, xm_xN, xn_xSxN⟩, fun q hq => absurd hq List.not_mem_nil⟩) ⟨by decide, by decide⟩ (by decide) wL_cl_15 wL_ca_xS (fun q => ?_)
      refine e_astore_n hX 2 iL_mostDrifted_14 rfl (by decide) ?_
      refine e_iconst (v := 2) hX iL_mostDrifted_15 (by decide) ?_
      exact e_iret hX hQ iL_mostDrifted_16 rfl (by decide) (by decide) (uP.thr hg9 hx9 ho hXo (by rw [hk1]; decide) (by rw [hk1]; rfl))
  · obtain ⟨hk, rfl, hg9, hx9⟩ := h9
    refine e_i2l hX iL_mostDrifted_6 ?_
    refine e_last hX 0 iL_mostDrifted_7 (hx9 _ _ hXo ho) rfl (by decide) (by decide) ?_
    refine e_goto hX iL_mostDrifted_8 ?_
    refine e_iconst (v := 0) hX iL_mostDrifted_17 (by decide) ?_
    exact e_iret hX hQ iL_mostDrifted_18 rfl (by decide) (by decide) (uP.ok hg9 hx9 hXo (hx9 _ _ hXo ho) hk rfl)
end WA2
