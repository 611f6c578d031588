/-! the law's calls of the class that give a double -/
section WD
variable {l : Launch} {θ : e_T} {ph : e_PH} {g : Nat} {X : Nat → Prop} {σ : SG} {o : Nat}
theorem l_meanOf (htr : l.stackTraces = false) (hg : GP θ ph g X σ) (hXo : X o) {f0 : Nat → UInt64} (ho : ph o = some (e_D θ 1 f0)) (c : Int32) : MCW yL_meanOf cL_meanOf 4 (some .int) [(0, 8, 11, 46), (0, 8, 14, 148)] 5 1 6 l θ [.ref g, .int c, .ref o] ph (uD θ ph g X o (k_med σ c) (a_mean σ (ix c)) σ) := by
  refine MCW.of htr (by decide) (Nat.le_of_ble_eq_true rfl) ?_
  intro x hX hQ hT
  obtain ⟨fs, hgo⟩ := hg.go
  refine e_aload_n hX 2 iL_meanOf_0 rfl rfl ?_
  refine e_iconst (v := 0) hX iL_meanOf_1 (by decide) ?_
  refine e_aload_n hX 0 iL_meanOf_2 rfl rfl ?_
  refine e_iload_n hX 1 iL_meanOf_3 rfl rfl ?_
  refine e_callV hX iL_meanOf_4 hgo (m_meanOf htr hg c) rfl rfl ⟨by decide, by decide, by decide, by decide⟩ (Nat.le_of_ble_eq_true rfl) (fun E9 p9 h9 => ?_) (fun v9 p9 h9 => ?_)
  · obtain ⟨hk, hE, hg9, hx9⟩ := h9
    rcases ox2 hk hE with ⟨hk1, rfl⟩ | ⟨hk1, rfl⟩
    · refine e_catch hX hT [] (0, 8, 11, 46) [(0, 8, 14, 148)] rfl (fun q hq => absurd hq List.not_mem_nil) ⟨by decide, by decide⟩ (by decide) wL_cl_46 wL_ca_xB (fun q => ?_)
      refine e_astore_n hX 3 iL_meanOf_11 rfl (by decide) ?_
      refine e_iconst (v := 1) hX iL_meanOf_12 (by decide) ?_
      exact e_iret hX hQ iL_meanOf_13 rfl (by decide) (by decide) (uD.thr hg9 hx9 ho hXo (by rw [hk1]; decide) (by rw [hk1]; rfl))
    · refine e_catch hX hT [(0, 8, 11, 46)] (0, 8, 14, 148) [] rfl (List.forall_mem_cons.mpr ⟨⟨by decide, _, wL_cl_46, xm_xR, xm_xB, xn_xRxB⟩, fun q hq => absurd hq List.not_mem_nil⟩) ⟨by decide, by decide⟩ (by decide) wL_cl_148 wL_ca_xR (fun q => ?_)
      refine e_astore_n hX 3 iL_meanOf_14 rfl (by decide) ?_
      refine e_iconst (v := 2) hX iL_meanOf_15 (by decide) ?_
      exact e_iret hX hQ iL_meanOf_16 rfl (by decide) (by decide) (uD.thr hg9 hx9 ho hXo (by rw [hk1]; decide) (by rw [hk1]; rfl))
  · obtain ⟨hk, rfl, hg9, hx9⟩ := h9
    refine e_dast hX 0 iL_meanOf_7 (hx9 _ _ hXo ho) rfl (by decide) (by decide) ?_
    refine e_goto hX iL_meanOf_8 ?_
    refine e_iconst (v := 0) hX iL_meanOf_17 (by decide) ?_
    exact e_iret hX hQ iL_meanOf_18 rfl (by decide) (by decide) (uD.ok hg9 hx9 hXo (hx9 _ _ hXo ho) hk rfl)
theorem l_missingShare (htr : l.stackTraces = false) (hg : GP θ ph g X σ) (hXo : X o) {f0 : Nat → UInt64} (ho : ph o = some (e_D θ 1 f0)) (c : Int32) : MCW yL_missingShare cL_missingShare 4 (some .int) [(0, 9, 12, 46), (0, 9, 15, 148)] 5 1 6 l θ [.ref g, .int c, .ref o] ph (uD θ ph g X o (k_share σ c) (FP.f2d (a_share σ (ix c))) σ) := by
  have hn := hg.ok.1
  refine MCW.of htr (by decide) (Nat.le_of_ble_eq_true rfl) ?_
  intro x hX hQ hT
  obtain ⟨fs, hgo⟩ := hg.go
  refine e_aload_n hX 2 iL_missingShare_0 rfl rfl ?_
  refine e_iconst (v := 0) hX iL_missingShare_1 (by decide) ?_
  refine e_aload_n hX 0 iL_missingShare_2 rfl rfl ?_
  refine e_iload_n hX 1 iL_missingShare_3 rfl rfl ?_
  refine e_callV hX iL_missingShare_4 hgo (m_missingShare htr hg c) rfl rfl ⟨by decide, by decide, by decide, by decide⟩ (Nat.le_of_ble_eq_true rfl) (fun E9 p9 h9 => ?_) (fun v9 p9 h9 => ?_)
  · obtain ⟨hk, hE, hg9, hx9⟩ := h9
    rcases ox2 hk hE with ⟨hk1, rfl⟩ | ⟨hk1, rfl⟩
    · refine e_catch hX hT [] (0, 9, 12, 46) [(0, 9, 15, 148)] rfl (fun q hq => absurd hq List.not_mem_nil) ⟨by decide, by decide⟩ (by decide) wL_cl_46 wL_ca_xB (fun q => ?_)
      refine e_astore_n hX 3 iL_missingShare_12 rfl (by decide) ?_
      refine e_iconst (v := 1) hX iL_missingShare_13 (by decide) ?_
      exact e_iret hX hQ iL_missingShare_14 rfl (by decide) (by decide) (uD.thr hg9 hx9 ho hXo (by rw [hk1]; decide) (by rw [hk1]; rfl))
    · refine e_catch hX hT [(0, 9, 12, 46)] (0, 9, 15, 148) [] rfl (List.forall_mem_cons.mpr ⟨⟨by decide, _, wL_cl_46, xm_xR, xm_xB, xn_xRxB⟩, fun q hq => absurd hq List.not_mem_nil⟩) ⟨by decide, by decide⟩ (by decide) wL_cl_148 wL_ca_xR (fun q => ?_)
      refine e_astore_n hX 3 iL_missingShare_15 rfl (by decide) ?_
      refine e_iconst (v := 2) hX iL_missingShare_16 (by decide) ?_
      exact e_iret hX hQ iL_missingShare_17 rfl (by decide) (by decide) (uD.thr hg9 hx9 ho hXo (by rw [hk1]; decide) (by rw [hk1]; rfl))
  · obtain ⟨hk, rfl, hg9, hx9⟩ := h9
    have h0 : ¬ gN σ = 0 := fun e => by
      unfold k_share at hk
      split at hk
      · first | cases hk | (rw [if_pos e] at hk; cases hk)
      · cases hk
    refine e_f2d hX iL_missingShare_7 (fd_ok (k := gN σ - prsN σ (ix c)) (by omega) (by omega) h0) ?_
    refine e_dast hX 0 iL_missingShare_8 (hx9 _ _ hXo ho) rfl (by decide) (by decide) ?_
    refine e_goto hX iL_missingShare_9 ?_
    refine e_iconst (v := 0) hX iL_missingShare_18 (by decide) ?_
    exact e_iret hX hQ iL_missingShare_19 rfl (by decide) (by decide) (uD.ok hg9 hx9 hXo (hx9 _ _ hXo ho) hk rfl)
end WD
