theorem c_value {l : Launch} (htr : l.stackTraces = false) {θ : e_T} {ph : e_PH} {q w : Nat} {v : Nat → Int32} {id : Int32} (hr : rowAt θ ph q w v id) (c : Nat) (hc : c < 5) : MC yX7_value cX7_value 2 (some .int) 0 0 0 l θ [.ref q, .int (nI c)] ph (fun r p => r = some (.int (v c)) ∧ p = ph) (fun _ _ => False) := by
  obtain ⟨h1, h2⟩ := hr
  refine MC.of htr (by decide) (Nat.le_of_ble_eq_true rfl) ?_
  intro x hX hQ hT
  refine e_iload_n hX 1 iX7_value_0 rfl rfl ?_
  refine e_if_lt hX iX7_value_1 (fun c1 => ?_) (fun c1 => ?_)
  · exact absurd c1 (nI_pos (by omega))
  · refine e_iload_n hX 1 iX7_value_4 rfl rfl ?_
    refine e_aload_n hX 0 iX7_value_5 rfl rfl ?_
    refine e_get hX iX7_value_6 (by assumption) rfl ?_
    refine e_lenI hX iX7_value_9 h2 ?_
    refine e_icmp_ge hX iX7_value_10 (fun c10 => ?_) (fun c10 => ?_)
    · exact absurd c10 (nI_ge hc (by decide))
    · refine e_aload_n hX 0 iX7_value_13 rfl rfl ?_
      refine e_get hX iX7_value_14 (by assumption) rfl ?_
      refine e_iload_n hX 1 iX7_value_17 rfl rfl ?_
      refine e_iald hX c iX7_value_18 h2 rfl hc (by decide) ?_
      refine e_goto hX iX7_value_19 ?_
      exact e_iret hX hQ iX7_value_24 rfl (by decide) (by decide) ⟨rfl, rfl⟩
theorem c_put {l : Launch} (htr : l.stackTraces = false) {θ : e_T} {ph : e_PH} {q w : Nat} {v : Nat → Int32} {id : Int32} (hr : rowAt θ ph q w v id) (c : Nat) (hc : c < 5) (y : Int32) : MC yX7_put cX7_put 3 none 0 0 0 l θ [.ref q, .int (nI c), .int y] ph (fun r p => r = none ∧ p = e_up ph w (e_I θ 5 (upd v c y))) (fun _ _ => False) := by
  obtain ⟨h1, h2⟩ := hr
  refine MC.of htr (by decide) (Nat.le_of_ble_eq_true rfl) ?_
  intro x hX hQ hT
  refine e_iload_n hX 1 iX7_put_0 rfl rfl ?_
  refine e_if_lt hX iX7_put_1 (fun c1 => ?_) (fun c1 => ?_)
  · exact absurd c1 (nI_pos (by omega))
  · refine e_iload_n hX 1 iX7_put_4 rfl rfl ?_
    refine e_aload_n hX 0 iX7_put_5 rfl rfl ?_
    refine e_get hX iX7_put_6 (by assumption) rfl ?_
    refine e_lenI hX iX7_put_9 h2 ?_
    refine e_icmp_ge hX iX7_put_10 (fun c10 => ?_) (fun c10 => ?_)
    · exact absurd c10 (nI_ge hc (by decide))
    · refine e_aload_n hX 0 iX7_put_13 rfl rfl ?_
      refine e_get hX iX7_put_14 (by assumption) rfl ?_
      refine e_iload_n hX 1 iX7_put_17 rfl rfl ?_
      refine e_iload_n hX 2 iX7_put_18 rfl rfl ?_
      refine e_iast hX c iX7_put_19 h2 rfl hc (by decide) ?_
      exact e_vret hX hQ iX7_put_20 rfl (by decide) (by decide) ⟨rfl, rfl⟩
theorem c_isPresent {l : Launch} (htr : l.stackTraces = false) {θ : e_T} {ph : e_PH} {q w : Nat} {v : Nat → Int32} {id : Int32} (hr : rowAt θ ph q w v id) (c : Nat) (hc : c < 5) : MC yX7_isPresent cX7_isPresent 2 (some .boolean) 0 0 0 l θ [.ref q, .int (nI c)] ph (fun r p => r = some (.int (b2i (pres (v c)))) ∧ p = ph) (fun _ _ => False) := by
  obtain ⟨h1, h2⟩ := hr
  refine MC.of htr (by decide) (Nat.le_of_ble_eq_true rfl) ?_
  intro x hX hQ hT
  refine e_iload_n hX 1 iX7_isPresent_0 rfl rfl ?_
  refine e_if_lt hX iX7_isPresent_1 (fun c1 => ?_) (fun c1 => ?_)
  · exact absurd c1 (nI_pos (by omega))
  · refine e_iload_n hX 1 iX7_isPresent_4 rfl rfl ?_
    refine e_aload_n hX 0 iX7_isPresent_5 rfl rfl ?_
    refine e_get hX iX7_isPresent_6 (by assumption) rfl ?_
    refine e_lenI hX iX7_isPresent_9 h2 ?_
    refine e_icmp_ge hX iX7_isPresent_10 (fun c10 => ?_) (fun c10 => ?_)
    · exact absurd c10 (nI_ge hc (by decide))
    · refine e_aload_n hX 0 iX7_isPresent_13 rfl rfl ?_
      refine e_get hX iX7_isPresent_14 (by assumption) rfl ?_
      refine e_iload_n hX 1 iX7_isPresent_17 rfl rfl ?_
      refine e_iald hX c iX7_isPresent_18 h2 rfl hc (by decide) ?_
      refine e_bipush (v := 100) hX iX7_isPresent_19 (by decide) ?_
      refine e_icmp_eq hX iX7_isPresent_21 (fun c21 => ?_) (fun c21 => ?_)
      · refine e_iconst (v := 0) hX iX7_isPresent_28 (by decide) ?_
        exact e_zret hX hQ iX7_isPresent_29 rfl nar_0 (by decide) (by decide) ⟨by rw [show pres (v c) = false by unfold pres; rw [c21]; rfl]; rfl, rfl⟩
      · refine e_iconst (v := 1) hX iX7_isPresent_24 (by decide) ?_
        refine e_goto hX iX7_isPresent_25 ?_
        exact e_zret hX hQ iX7_isPresent_29 rfl nar_1 (by decide) (by decide) ⟨by rw [show pres (v c) = true by unfold pres; exact decide_eq_true c21]; rfl, rfl⟩
theorem c_isEqualIn {l : Launch} (htr : l.stackTraces = false) {θ : e_T} {ph : e_PH} {q w q' w' : Nat} {v v' : Nat → Int32} {id id' : Int32} (hr : rowAt θ ph q w v id) (hr' : rowAt θ ph q' w' v' id') (s : Int32) : MC yX7_isEqualIn cX7_isEqualIn 4 (some .boolean) 0 0 0 l θ [.ref q, .int s, .ref q'] ph (fun r p => r = some (.int (b2i (eqIn s v v'))) ∧ p = ph) (fun _ _ => False) := by
  obtain ⟨h1, h2⟩ := hr
  obtain ⟨h1', h2'⟩ := hr'
  refine MC.of htr (by decide) (Nat.le_of_ble_eq_true rfl) ?_
  intro x hX hQ hT
  have loop : ∀ (g i : Nat), 6 - i < g → i ≤ 5 → (∀ c, c < i → sb s c = true → v c = v' c) → EJ θ x 2 [(0, .ref q), (1, .int s), (2, .ref q'), (3, .int (nI i))] [] ph 0 0 := by
    intro g
    induction g with
    | zero => intro i hg; omega
    | succ g ih =>
      intro i hg hi hinv
      refine e_iload_n hX 3 iX7_isEqualIn_2 rfl rfl ?_
      refine e_aload_n hX 0 iX7_isEqualIn_3 rfl rfl ?_
      refine e_get hX iX7_isEqualIn_4 h1 rfl ?_
      refine e_lenI hX iX7_isEqualIn_7 h2 ?_
      refine e_icmp_ge hX iX7_isEqualIn_8 (fun c8 => ?_) (fun c8 => ?_)
      · refine e_iconst (v := 1) hX iX7_isEqualIn_52 (by decide) ?_
        have hi5 : i = 5 := by
          rcases Nat.lt_or_ge i 5 with h | h
          · exact absurd c8 (nI_ge h (by decide))
          · omega
        subst hi5
        exact e_zret hX hQ iX7_isEqualIn_53 rfl nar_1 (by decide) (by decide) ⟨by rw [eqIn_t.mpr hinv]; rfl, rfl⟩
      · have hi5 : i < 5 := by
          rcases Nat.lt_or_ge i 5 with h | h
          · exact h
          · exact absurd (nI_le h (by omega)) c8
        refine e_iload_n hX 3 iX7_isEqualIn_11 rfl rfl ?_
        refine e_aload_n hX 2 iX7_isEqualIn_12 rfl rfl ?_
        refine e_get hX iX7_isEqualIn_13 h1' rfl ?_
        refine e_lenI hX iX7_isEqualIn_16 h2' ?_
        refine e_icmp_ge hX iX7_isEqualIn_17 (fun c17 => ?_) (fun c17 => ?_)
        · exact absurd c17 c8
        · refine e_iload_n hX 1 iX7_isEqualIn_20 rfl rfl ?_
          refine e_iload_n hX 3 iX7_isEqualIn_21 rfl rfl ?_
          refine e_ishr hX iX7_isEqualIn_22 ?_
          refine e_iconst (v := 1) hX iX7_isEqualIn_23 (by decide) ?_
          refine e_iand hX iX7_isEqualIn_24 ?_
          refine e_iconst (v := 1) hX iX7_isEqualIn_25 (by decide) ?_
          refine e_icmp_ne hX iX7_isEqualIn_26 (fun c26 => ?_) (fun c26 => ?_)
          · refine e_iinc hX iX7_isEqualIn_46 rfl (by first | exact nI_inc _ | rfl) (by decide) ?_
            refine e_goto hX iX7_isEqualIn_49 ?_
            refine e_loc [0, 1, 2, 3] ?_
            exact ih (i + 1) (by omega) (by omega) (fun c hc hs => by
              rcases Nat.lt_or_ge c i with h | h
              · exact hinv c h hs
              · have : c = i := by omega
                subst this
                exact absurd (sb_1.mpr hs) c26)
          · refine e_aload_n hX 0 iX7_isEqualIn_29 rfl rfl ?_
            refine e_get hX iX7_isEqualIn_30 h1 rfl ?_
            refine e_iload_n hX 3 iX7_isEqualIn_33 rfl rfl ?_
            refine e_iald hX i iX7_isEqualIn_34 h2 rfl hi5 (by decide) ?_
            refine e_aload_n hX 2 iX7_isEqualIn_35 rfl rfl ?_
            refine e_get hX iX7_isEqualIn_36 h1' rfl ?_
            refine e_iload_n hX 3 iX7_isEqualIn_39 rfl rfl ?_
            refine e_iald hX i iX7_isEqualIn_40 h2' rfl hi5 (by decide) ?_
            refine e_icmp_eq hX iX7_isEqualIn_41 (fun c41 => ?_) (fun c41 => ?_)
            · refine e_iinc hX iX7_isEqualIn_46 rfl (by first | exact nI_inc _ | rfl) (by decide) ?_
              refine e_goto hX iX7_isEqualIn_49 ?_
              refine e_loc [0, 1, 2, 3] ?_
              exact ih (i + 1) (by omega) (by omega) (fun c hc hs => by
                rcases Nat.lt_or_ge c i with h | h
                · exact hinv c h hs
                · have : c = i := by omega
                  subst this
                  exact c41)
            · refine e_iconst (v := 0) hX iX7_isEqualIn_44 (by decide) ?_
              exact e_zret hX hQ iX7_isEqualIn_45 rfl nar_0 (by decide) (by decide) ⟨by rw [eqIn_f hi5 (sb_1.mp c26) c41]; rfl, rfl⟩
  refine e_iconst (v := 0) hX iX7_isEqualIn_0 (by decide) ?_
  refine e_istore_n hX 3 iX7_isEqualIn_1 rfl (by decide) ?_
  exact loop 7 0 (by omega) (by omega) (fun c hc => absurd hc (Nat.not_lt_zero c))
theorem c_distance {l : Launch} (htr : l.stackTraces = false) {θ : e_T} {ph : e_PH} {q w : Nat} {v : Nat → Int32} {id : Int32} (hr : rowAt θ ph q w v id) (c : Nat) (hc : c < 5) (m : Int32) : MC yX7_distance cX7_distance 3 (some .int) 1 0 0 l θ [.ref q, .int (nI c), .int m] ph (fun r p => r = some (.int (dist (v c) m)) ∧ p = ph) (fun _ _ => False) := by
  refine MC.of htr (by decide) (Nat.le_of_ble_eq_true rfl) ?_
  intro x hX hQ hT
  refine e_aload_n hX 0 iX7_distance_0 rfl rfl ?_
  refine e_iload_n hX 1 iX7_distance_1 rfl rfl ?_
  refine e_callV hX iX7_distance_2 hr.1 (As := [.int (nI c)]) (c_value htr hr c hc) rfl rfl ⟨by decide, by decide, by decide, by decide⟩ (Nat.le_of_ble_eq_true rfl) (fun _ _ h => h.elim) (fun v9 ph9 hv9 => ?_)
  obtain ⟨rfl, rfl⟩ := hv9
  refine e_iload_n hX 2 iX7_distance_5 rfl rfl ?_
  refine e_isub hX iX7_distance_6 ?_
  refine e_abs hX iX7_distance_7 mlRX7_23 ⟨by decide, Nat.le_of_ble_eq_true rfl, by decide, by decide⟩ ?_
  exact e_iret hX hQ iX7_distance_10 rfl (by decide) (by decide) ⟨rfl, rfl⟩
