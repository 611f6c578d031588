abbrev xA : String := "java/lang/IllegalArgumentException"
abbrev xS : String := "java/lang/IllegalStateException"
abbrev xB : String := "java/lang/IndexOutOfBoundsException"
abbrev xN : String := "java/util/NoSuchElementException"
abbrev xU : String := "java/lang/UnsupportedOperationException"
def okVB (x : Int32) : Bool := (decide (-99 ≤ x) && decide (x ≤ 99)) || decide (x = 100)
theorem okVB_t {x : Int32} : okVB x = true ↔ okV x := by
  unfold okVB okV
  rw [Bool.or_eq_true, Bool.and_eq_true, decide_eq_true_eq, decide_eq_true_eq, decide_eq_true_eq]
def colOk (x : Int32) : Prop := ∃ c, c < 5 ∧ x = nI c
def setOk (x : Int32) : Prop := ∃ s, s < 32 ∧ x = nI s
theorem lowG_n {P : Nat → Bool} : ∀ (g j : Nat), j ≤ lowG P g j ∧ lowG P g j ≤ j + g ∧ (lowG P g j < j + g → P (lowG P g j) = true) ∧ ∀ i, j ≤ i → i < lowG P g j → P i = false
  | 0, j => ⟨Nat.le_refl _, Nat.le_refl _, fun h => absurd h (Nat.lt_irrefl _), fun i h1 h2 => absurd h2 (Nat.not_lt.mpr h1)⟩
  | g + 1, j => by
    unfold lowG
    by_cases c : P j = true
    · rw [if_pos c]
      exact ⟨Nat.le_refl _, by omega, fun _ => c, fun i h1 h2 => absurd h2 (Nat.not_lt.mpr h1)⟩
    · rw [if_neg c]
      have h1 := lowG_n (P := P) g (j + 1)
      refine ⟨by omega, by omega, fun h => h1.2.2.1 (by omega), fun i h2 h3 => ?_⟩
      by_cases e : i = j
      · rw [e]; simpa using c
      · exact h1.2.2.2 i (by omega) h3
/-- where an id stands, n if nowhere -/
def fndN (n : Nat) (f : Nat → Int32) (id : Int32) : Nat := lowG (fun i => decide (f i = id)) n 0
theorem fndN_le {n : Nat} {f : Nat → Int32} {id : Int32} : fndN n f id ≤ n := by have := (lowG_n (P := fun i => decide (f i = id)) n 0).2.1; unfold fndN; omega
theorem fndN_eq {n : Nat} {f : Nat → Int32} {id : Int32} (h : fndN n f id < n) : f (fndN n f id) = id := of_decide_eq_true ((lowG_n (P := fun i => decide (f i = id)) n 0).2.2.1 (by unfold fndN at h; omega))
theorem fndN_no {n : Nat} {f : Nat → Int32} {id : Int32} {i : Nat} (h : i < fndN n f id) : ¬ f i = id := of_decide_eq_false ((lowG_n (P := fun i => decide (f i = id)) n 0).2.2.2 i (Nat.zero_le i) h)
theorem fndN_u {n : Nat} {f : Nat → Int32} {id : Int32} {i : Nat} (hi : i < n) (h : f i = id) (h2 : ∀ j, j < i → ¬ f j = id) : fndN n f id = i := by
  rcases Nat.lt_trichotomy (fndN n f id) i with c | c | c
  · exact absurd (fndN_eq (by omega)) (h2 _ c)
  · exact c
  · exact absurd h (fndN_no c)
theorem c_isValue {l : Launch} (htr : l.stackTraces = false) {θ : e_T} {ph : e_PH} (y : Int32) : MC yX11_isValue cX11_isValue 1 (some .boolean) 0 0 0 l θ [.int y] ph (fun z p => z = some (.int (b2i (okVB y))) ∧ p = ph) (fun _ _ => False) := by
  refine MC.of htr (by decide) (Nat.le_of_ble_eq_true rfl) ?_
  intro x hX hQ hT
  have yes : okV y → EJ θ x 18 [(0, .int y)] [] ph 0 0 := by
    intro h
    refine e_iconst (v := 1) hX iX11_isValue_18 (by decide) ?_
    refine e_goto hX iX11_isValue_19 ?_
    exact e_zret hX hQ iX11_isValue_23 rfl nar_1 (by decide) (by decide) ⟨by rw [okVB_t.mpr h]; rfl, rfl⟩
  have no : (y = 100 → False) → ((-99 ≤ y ∧ y ≤ 99) → False) → EJ θ x 12 [(0, .int y)] [] ph 0 0 := by
    intro h1 h2
    refine e_iload_n hX 0 iX11_isValue_12 rfl rfl ?_
    refine e_bipush (v := 100) hX iX11_isValue_13 (by decide) ?_
    refine e_icmp_ne hX iX11_isValue_15 (fun c15 => ?_) (fun c15 => ?_)
    · refine e_iconst (v := 0) hX iX11_isValue_22 (by decide) ?_
      have e0 : okVB y = false := by
        cases c : okVB y
        · rfl
        · rcases okVB_t.mp c with h | h
          · exact (h2 h).elim
          · exact (h1 h).elim
      exact e_zret hX hQ iX11_isValue_23 rfl nar_0 (by decide) (by decide) ⟨by rw [e0]; rfl, rfl⟩
    · exact (h1 c15).elim
  have maybe : (¬ (-99 ≤ y ∧ y ≤ 99)) → EJ θ x 12 [(0, .int y)] [] ph 0 0 := by
    intro h2
    by_cases h1 : y = 100
    · refine e_iload_n hX 0 iX11_isValue_12 rfl rfl ?_
      refine e_bipush (v := 100) hX iX11_isValue_13 (by decide) ?_
      refine e_icmp_ne hX iX11_isValue_15 (fun c15 => ?_) (fun c15 => ?_)
      · exact absurd h1 c15
      · exact yes (Or.inr h1)
    · exact no h1 h2
  refine e_iload_n hX 0 iX11_isValue_0 rfl rfl ?_
  refine e_bipush (v := (-99)) hX iX11_isValue_1 (by decide) ?_
  refine e_icmp_lt hX iX11_isValue_3 (fun c3 => ?_) (fun c3 => ?_)
  · exact maybe (fun h => Int32.not_lt.mpr h.1 c3)
  · refine e_iload_n hX 0 iX11_isValue_6 rfl rfl ?_
    refine e_bipush (v := 99) hX iX11_isValue_7 (by decide) ?_
    refine e_icmp_le hX iX11_isValue_9 (fun c9 => ?_) (fun c9 => ?_)
    · exact yes (Or.inl ⟨Int32.not_lt.mp c3, c9⟩)
    · exact maybe (fun h => c9 h.2)
theorem c_needCol0 {l : Launch} (htr : l.stackTraces = false) {θ : e_T} {ph : e_PH} {c : Nat} (hc : c < 5) : MC yX11_needColumn cX11_needColumn 1 none 0 0 0 l θ [.int (nI c)] ph (fun z p => z = none ∧ p = ph) (fun _ _ => False) := by
  refine MC.of htr (by decide) (Nat.le_of_ble_eq_true rfl) ?_
  intro x hX hQ hT
  refine e_iload_n hX 0 iX11_needColumn_0 rfl rfl ?_
  refine e_if_lt hX iX11_needColumn_1 (fun c1 => ?_) (fun c1 => ?_)
  · exact absurd c1 (nI_pos (by omega))
  · refine e_iload_n hX 0 iX11_needColumn_4 rfl rfl ?_
    refine e_iconst (v := 5) hX iX11_needColumn_5 (by decide) ?_
    refine e_icmp_lt hX iX11_needColumn_6 (fun c6 => ?_) (fun c6 => ?_)
    · exact e_vret hX hQ iX11_needColumn_20 rfl (by decide) (by decide) ⟨rfl, rfl⟩
    · exact absurd (nI_lt hc (by decide)) c6
theorem c_needColX {l : Launch} (htr : l.stackTraces = false) {θ : e_T} {ph : e_PH} {y : Int32} (hy : ¬ colOk y) : MC yX11_needColumn cX11_needColumn 1 none 0 1 6 l θ [.int y] ph (fun _ _ => False) (fun E p => E = xB ∧ p = ph) := by
  refine MC.of htr (by decide) (Nat.le_of_ble_eq_true rfl) ?_
  intro x hX hQ hT
  have th : EJ θ x 9 [(0, .int y)] [] ph 0 0 := by
    exact e_throwW hX hQ hT iX11_needColumn_9 ⟨by decide, Nat.le_of_ble_eq_true rfl, by decide, by decide⟩ (by decide) (by decide) ⟨rfl, rfl⟩
  refine e_iload_n hX 0 iX11_needColumn_0 rfl rfl ?_
  refine e_if_lt hX iX11_needColumn_1 (fun c1 => ?_) (fun c1 => ?_)
  · exact th
  · refine e_iload_n hX 0 iX11_needColumn_4 rfl rfl ?_
    refine e_iconst (v := 5) hX iX11_needColumn_5 (by decide) ?_
    refine e_icmp_lt hX iX11_needColumn_6 (fun c6 => ?_) (fun c6 => ?_)
    · rcases pk_ix y (n := 5) (by decide) with h | h | h
      · exact absurd h c1
      · exact absurd c6 (Int32.not_lt.mpr h)
      · exact absurd h hy
    · exact th
theorem c_needSet0 {l : Launch} (htr : l.stackTraces = false) {θ : e_T} {ph : e_PH} {s : Nat} (hc : s < 32) : MC yX11_needSet cX11_needSet 1 none 0 0 0 l θ [.int (nI s)] ph (fun z p => z = none ∧ p = ph) (fun _ _ => False) := by
  refine MC.of htr (by decide) (Nat.le_of_ble_eq_true rfl) ?_
  intro x hX hQ hT
  refine e_iload_n hX 0 iX11_needSet_0 rfl rfl ?_
  refine e_if_lt hX iX11_needSet_1 (fun c1 => ?_) (fun c1 => ?_)
  · exact absurd c1 (nI_pos (by omega))
  · refine e_iload_n hX 0 iX11_needSet_4 rfl rfl ?_
    refine e_bipush (v := 32) hX iX11_needSet_5 (by decide) ?_
    refine e_icmp_lt hX iX11_needSet_7 (fun c7 => ?_) (fun c7 => ?_)
    · exact e_vret hX hQ iX11_needSet_21 rfl (by decide) (by decide) ⟨rfl, rfl⟩
    · exact absurd (nI_lt hc (by decide)) c7
theorem c_needSetX {l : Launch} (htr : l.stackTraces = false) {θ : e_T} {ph : e_PH} {y : Int32} (hy : ¬ setOk y) : MC yX11_needSet cX11_needSet 1 none 0 1 6 l θ [.int y] ph (fun _ _ => False) (fun E p => E = xA ∧ p = ph) := by
  refine MC.of htr (by decide) (Nat.le_of_ble_eq_true rfl) ?_
  intro x hX hQ hT
  have th : EJ θ x 10 [(0, .int y)] [] ph 0 0 := by
    exact e_throwW hX hQ hT iX11_needSet_10 ⟨by decide, Nat.le_of_ble_eq_true rfl, by decide, by decide⟩ (by decide) (by decide) ⟨rfl, rfl⟩
  refine e_iload_n hX 0 iX11_needSet_0 rfl rfl ?_
  refine e_if_lt hX iX11_needSet_1 (fun c1 => ?_) (fun c1 => ?_)
  · exact th
  · refine e_iload_n hX 0 iX11_needSet_4 rfl rfl ?_
    refine e_bipush (v := 32) hX iX11_needSet_5 (by decide) ?_
    refine e_icmp_lt hX iX11_needSet_7 (fun c7 => ?_) (fun c7 => ?_)
    · rcases pk_ix y (n := 32) (by decide) with h | h | h
      · exact absurd h c1
      · exact absurd c7 (Int32.not_lt.mpr h)
      · exact absurd h hy
    · exact th
theorem c_needSW0 {l : Launch} (htr : l.stackTraces = false) {θ : e_T} {ph : e_PH} {s c : Nat} (hs : s < 32) (hc : c < 5) (h : s.testBit c = false) : MC yX11_needSetWithout cX11_needSetWithout 2 none 1 0 0 l θ [.int (nI s), .int (nI c)] ph (fun z p => z = none ∧ p = ph) (fun _ _ => False) := by
  refine MC.of htr (by decide) (Nat.le_of_ble_eq_true rfl) ?_
  intro x hX hQ hT
  refine e_iload_n hX 0 iX11_needSetWithout_0 rfl rfl ?_
  refine e_callS hX iX11_needSetWithout_1 (c_needSet0 htr hs) rfl rfl ⟨by decide, by decide, by decide, by decide⟩ (Nat.le_of_ble_eq_true rfl) (fun _ _ h => h.elim) (fun v9 ph9 hv9 => ?_)
  obtain ⟨rfl, e9⟩ := hv9
  subst ph9
  refine e_iload_n hX 1 iX11_needSetWithout_4 rfl rfl ?_
  refine e_iload_n hX 0 iX11_needSetWithout_5 rfl rfl ?_
  refine e_callS hX iX11_needSetWithout_6 (c_isIn htr c (nI s)) rfl rfl ⟨by decide, by decide, by decide, by decide⟩ (Nat.le_of_ble_eq_true rfl) (fun _ _ h => h.elim) (fun v9 ph9 hv9 => ?_)
  obtain ⟨rfl, e9⟩ := hv9
  subst ph9
  rw [sb_n s (show c < 32 by omega), h]
  refine e_if_eq hX iX11_needSetWithout_9 (fun c9 => ?_) (fun c9 => ?_)
  · exact e_vret hX hQ iX11_needSetWithout_23 rfl (by decide) (by decide) ⟨rfl, rfl⟩
  · exact absurd rfl c9
theorem c_needSWX {l : Launch} (htr : l.stackTraces = false) {θ : e_T} {ph : e_PH} {y : Int32} {c : Nat} (hc : c < 5) (h : ¬ ∃ s, s < 32 ∧ y = nI s ∧ s.testBit c = false) : MC yX11_needSetWithout cX11_needSetWithout 2 none 1 1 6 l θ [.int y, .int (nI c)] ph (fun _ _ => False) (fun E p => E = xA ∧ p = ph) := by
  refine MC.of htr (by decide) (Nat.le_of_ble_eq_true rfl) ?_
  intro x hX hQ hT
  refine e_iload_n hX 0 iX11_needSetWithout_0 rfl rfl ?_
  by_cases hy : setOk y
  · obtain ⟨s, hs, rfl⟩ := hy
    refine e_callS hX iX11_needSetWithout_1 (c_needSet0 htr hs) rfl rfl ⟨by decide, by decide, by decide, by decide⟩ (Nat.le_of_ble_eq_true rfl) (fun _ _ h => h.elim) (fun v9 ph9 hv9 => ?_)
    obtain ⟨rfl, e9⟩ := hv9
    subst ph9
    refine e_iload_n hX 1 iX11_needSetWithout_4 rfl rfl ?_
    refine e_iload_n hX 0 iX11_needSetWithout_5 rfl rfl ?_
    refine e_callS hX iX11_needSetWithout_6 (c_isIn htr c (nI s)) rfl rfl ⟨by decide, by decide, by decide, by decide⟩ (Nat.le_of_ble_eq_true rfl) (fun _ _ h => h.elim) (fun v9 ph9 hv9 => ?_)
    obtain ⟨rfl, e9⟩ := hv9
    subst ph9
    rw [sb_n s (show c < 32 by omega)]
    refine e_if_eq hX iX11_needSetWithout_9 (fun c9 => ?_) (fun c9 => ?_)
    · exact absurd ⟨s, hs, rfl, b2i_0.mp c9⟩ h
    · exact e_throwW hX hQ hT iX11_needSetWithout_12 ⟨by decide, Nat.le_of_ble_eq_true rfl, by decide, by decide⟩ (by decide) (by decide) ⟨rfl, rfl⟩
  · refine e_callS hX iX11_needSetWithout_1 (c_needSetX htr hy) rfl rfl ⟨by decide, by decide, by decide, by decide⟩ (Nat.le_of_ble_eq_true rfl) (fun E9 ph9 hv9 => ?_) (fun _ _ h => h.elim)
    obtain ⟨rfl, e9⟩ := hv9
    subst ph9
    exact e_out hX hQ hT (by decide) (by decide) ⟨rfl, rfl⟩
section GH
variable {θ : e_T} {ph : e_PH} {g : Nat} {X : Nat → Prop} {σ : SG} {κ : Nat → Nat} {te be ue : Nat} {r wr b wb u : Nat → Nat}
theorem c_needRoom0 {l : Launch} (htr : l.stackTraces = false) (hg : GI θ ph g X σ κ te be ue r wr b wb u) (h : gK σ < 10) : MC yX11_needRoomForRule cX11_needRoomForRule 1 none 1 0 0 l θ [.ref g] ph (fun z p => z = none ∧ p = ph) (fun _ _ => False) := by
  obtain ⟨gO, -, -, ⟨gU, -⟩, -⟩ := hg
  refine MC.of htr (by decide) (Nat.le_of_ble_eq_true rfl) ?_
  intro x hX hQ hT
  refine e_aload_n hX 0 iX11_needRoomForRule_0 rfl rfl ?_
  refine e_get hX iX11_needRoomForRule_1 gO rfl ?_
  refine e_callV hX iX11_needRoomForRule_4 (lst.hp gU) (c_size htr gU) rfl rfl ⟨by decide, by decide, by decide, by decide⟩ (Nat.le_of_ble_eq_true rfl) (fun _ _ h => h.elim) (fun v9 ph9 hv9 => ?_)
  obtain ⟨rfl, e9⟩ := hv9
  subst ph9
  refine e_bipush (v := 10) hX iX11_needRoomForRule_7 (by decide) ?_
  refine e_icmp_lt hX iX11_needRoomForRule_9 (fun c9 => ?_) (fun c9 => ?_)
  · exact e_vret hX hQ iX11_needRoomForRule_23 rfl (by decide) (by decide) ⟨rfl, rfl⟩
  · exact absurd (nI_lt h (by decide)) c9
theorem c_needRoomX {l : Launch} (htr : l.stackTraces = false) (hg : GI θ ph g X σ κ te be ue r wr b wb u) (h : ¬ gK σ < 10) : MC yX11_needRoomForRule cX11_needRoomForRule 1 none 1 1 6 l θ [.ref g] ph (fun _ _ => False) (fun E p => E = xS ∧ p = ph) := by
  have hk := hg.2.2.2.2.2.2.2.2.1.2.2.1
  obtain ⟨gO, -, -, ⟨gU, -⟩, -⟩ := hg
  refine MC.of htr (by decide) (Nat.le_of_ble_eq_true rfl) ?_
  intro x hX hQ hT
  refine e_aload_n hX 0 iX11_needRoomForRule_0 rfl rfl ?_
  refine e_get hX iX11_needRoomForRule_1 gO rfl ?_
  refine e_callV hX iX11_needRoomForRule_4 (lst.hp gU) (c_size htr gU) rfl rfl ⟨by decide, by decide, by decide, by decide⟩ (Nat.le_of_ble_eq_true rfl) (fun _ _ h => h.elim) (fun v9 ph9 hv9 => ?_)
  obtain ⟨rfl, e9⟩ := hv9
  subst ph9
  refine e_bipush (v := 10) hX iX11_needRoomForRule_7 (by decide) ?_
  refine e_icmp_lt hX iX11_needRoomForRule_9 (fun c9 => ?_) (fun c9 => ?_)
  · exact absurd ((nI_ltI (by omega) (by decide)).mp c9) h
  · exact e_throwW hX hQ hT iX11_needRoomForRule_12 ⟨by decide, Nat.le_of_ble_eq_true rfl, by decide, by decide⟩ (by decide) (by decide) ⟨rfl, rfl⟩
theorem c_needProf0 {l : Launch} (htr : l.stackTraces = false) (hg : GI θ ph g X σ κ te be ue r wr b wb u) (h : ¬ gP σ = 0) (h2 : ¬ gN σ = 0) : MC yX11_needProfileAndRows cX11_needProfileAndRows 1 none 1 0 0 l θ [.ref g] ph (fun z p => z = none ∧ p = ph) (fun _ _ => False) := by
  have hp := hg.2.2.2.2.2.2.2.2.1.2.2.2.1
  obtain ⟨gO, ⟨gT, -⟩, -⟩ := hg
  refine MC.of htr (by decide) (Nat.le_of_ble_eq_true rfl) ?_
  intro x hX hQ hT
  refine e_aload_n hX 0 iX11_needProfileAndRows_0 rfl rfl ?_
  refine e_get hX iX11_needProfileAndRows_1 gO rfl ?_
  refine e_if_ne hX iX11_needProfileAndRows_4 (fun c4 => ?_) (fun c4 => ?_)
  · refine e_aload_n hX 0 iX11_needProfileAndRows_18 rfl rfl ?_
    refine e_get hX iX11_needProfileAndRows_19 gO rfl ?_
    refine e_callV hX iX11_needProfileAndRows_22 gT.hp (c_isEmpty htr gT) rfl rfl ⟨by decide, by decide, by decide, by decide⟩ (Nat.le_of_ble_eq_true rfl) (fun _ _ h => h.elim) (fun v9 ph9 hv9 => ?_)
    obtain ⟨rfl, e9⟩ := hv9
    subst ph9
    refine e_if_eq hX iX11_needProfileAndRows_25 (fun c25 => ?_) (fun c25 => ?_)
    · exact e_vret hX hQ iX11_needProfileAndRows_39 rfl (by decide) (by decide) ⟨rfl, rfl⟩
    · exact absurd (of_decide_eq_true (b2i_n0.mp c25)) h2
  · exact absurd c4 (nI_ne0 (by omega) (by omega))
theorem c_needProfX {l : Launch} (htr : l.stackTraces = false) (hg : GI θ ph g X σ κ te be ue r wr b wb u) (h : gP σ = 0 ∨ gN σ = 0) : MC yX11_needProfileAndRows cX11_needProfileAndRows 1 none 1 1 6 l θ [.ref g] ph (fun _ _ => False) (fun E p => (E = if gP σ = 0 then xN else xS) ∧ p = ph) := by
  have hp := hg.2.2.2.2.2.2.2.2.1.2.2.2.1
  obtain ⟨gO, ⟨gT, -⟩, -⟩ := hg
  refine MC.of htr (by decide) (Nat.le_of_ble_eq_true rfl) ?_
  intro x hX hQ hT
  refine e_aload_n hX 0 iX11_needProfileAndRows_0 rfl rfl ?_
  refine e_get hX iX11_needProfileAndRows_1 gO rfl ?_
  refine e_if_ne hX iX11_needProfileAndRows_4 (fun c4 => ?_) (fun c4 => ?_)
  · have h0 : ¬ gP σ = 0 := fun e => c4 (by rw [e]; rfl)
    refine e_aload_n hX 0 iX11_needProfileAndRows_18 rfl rfl ?_
    refine e_get hX iX11_needProfileAndRows_19 gO rfl ?_
    refine e_callV hX iX11_needProfileAndRows_22 gT.hp (c_isEmpty htr gT) rfl rfl ⟨by decide, by decide, by decide, by decide⟩ (Nat.le_of_ble_eq_true rfl) (fun _ _ h => h.elim) (fun v9 ph9 hv9 => ?_)
    obtain ⟨rfl, e9⟩ := hv9
    subst ph9
    refine e_if_eq hX iX11_needProfileAndRows_25 (fun c25 => ?_) (fun c25 => ?_)
    · exact absurd (h.resolve_left h0) (of_decide_eq_false (b2i_0.mp c25))
    · exact e_throwW hX hQ hT iX11_needProfileAndRows_28 ⟨by decide, Nat.le_of_ble_eq_true rfl, by decide, by decide⟩ (by decide) (by decide) ⟨by rw [if_neg h0], rfl⟩
  · have h0 : gP σ = 0 := by
      rcases Nat.eq_zero_or_pos (gP σ) with e | e
      · exact e
      · exact absurd c4 (nI_ne0 e (by omega))
    exact e_throwNW hX iX11_needProfileAndRows_7 ⟨by decide, Nat.le_of_ble_eq_true rfl, by decide, by decide⟩ (e_out hX hQ hT (by decide) (by decide) ⟨by rw [if_pos h0], rfl⟩)
theorem c_pos0 {l : Launch} (htr : l.stackTraces = false) (hg : GI θ ph g X σ κ te be ue r wr b wb u) {id : Int32} (h : fndN (gN σ) (gI σ) id < gN σ) : MC yX11_positionOf cX11_positionOf 3 (some .int) 3 0 0 l θ [.ref g, .int id] ph (fun z p => z = some (.int (nI (fndN (gN σ) (gI σ) id))) ∧ p = ph) (fun _ _ => False) := by
  have hn := hg.2.2.2.2.2.2.2.2.1.1
  obtain ⟨gO, ⟨gT, gTr⟩, -⟩ := hg
  refine MC.of htr (by decide) (Nat.le_of_ble_eq_true rfl) ?_
  intro x hX hQ hT
  have loop : ∀ (q i : Nat), gN σ - i < q → i ≤ gN σ → (∀ j, j < i → ¬ gI σ j = id) → EJ θ x 2 [(0, .ref g), (1, .int id), (2, .int (nI i))] [] ph 0 0 := by
    intro q
    induction q with
    | zero => intro i hg; omega
    | succ q ih =>
      intro i hq hi hinv
      refine e_iload_n hX 2 iX11_positionOf_2 rfl rfl ?_
      refine e_aload_n hX 0 iX11_positionOf_3 rfl rfl ?_
      refine e_get hX iX11_positionOf_4 gO rfl ?_
      refine e_callV hX iX11_positionOf_7 (lst.hp gT) (c_size htr gT) rfl rfl ⟨by decide, by decide, by decide, by decide⟩ (Nat.le_of_ble_eq_true rfl) (fun _ _ h => h.elim) (fun v9 ph9 hv9 => ?_)
      obtain ⟨rfl, e9⟩ := hv9
      subst ph9
      refine e_icmp_ge hX iX11_positionOf_10 (fun c10 => ?_) (fun c10 => ?_)
      · have hin : i = gN σ := by
          rcases Nat.lt_or_ge i (gN σ) with h | h
          · exact absurd c10 (nI_ge h (by omega))
          · omega
        subst hin
        exact absurd (fndN_eq h) (hinv _ h)
      · have hin : i < gN σ := by
          rcases Nat.lt_or_ge i (gN σ) with h | h
          · exact h
          · exact absurd (nI_le h (by omega)) c10
        refine e_aload_n hX 0 iX11_positionOf_13 rfl rfl ?_
        refine e_get hX iX11_positionOf_14 gO rfl ?_
        refine e_iload_n hX 2 iX11_positionOf_17 rfl rfl ?_
        refine e_callV hX iX11_positionOf_18 (lst.hp gT) (c_lget (i := i) htr gT hin) rfl rfl ⟨by decide, by decide, by decide, by decide⟩ (Nat.le_of_ble_eq_true rfl) (fun _ _ h => h.elim) (fun v9 ph9 hv9 => ?_)
        obtain ⟨rfl, e9⟩ := hv9
        subst ph9
        refine e_castS hX iX11_positionOf_21 klRX11_79 (rowAt.hp (gTr i hin)) rfl ?_
        refine e_get hX iX11_positionOf_24 (gTr i hin).1 rfl ?_
        refine e_iload_n hX 1 iX11_positionOf_27 rfl rfl ?_
        refine e_icmp_ne hX iX11_positionOf_28 (fun c28 => ?_) (fun c28 => ?_)
        · refine e_iinc hX iX11_positionOf_33 rfl (by first | exact nI_inc _ | rfl) (by decide) ?_
          refine e_goto hX iX11_positionOf_36 ?_
          refine e_loc [0, 1, 2] ?_
          refine ih (i + 1) (by omega) (by omega) (fun z hz => ?_)
          by_cases e : z = i
          · subst e; exact c28
          · exact hinv z (by omega)
        · refine e_iload_n hX 2 iX11_positionOf_31 rfl rfl ?_
          exact e_iret hX hQ iX11_positionOf_32 rfl (by decide) (by decide) ⟨by rw [fndN_u hin c28 hinv], rfl⟩
  refine e_iconst (v := 0) hX iX11_positionOf_0 (by decide) ?_
  refine e_istore_n hX 2 iX11_positionOf_1 rfl (by decide) ?_
  refine e_loc [0, 1, 2] ?_
  exact loop (gN σ + 1) 0 (by omega) (by omega) (fun z hz => absurd hz (Nat.not_lt_zero z))
theorem c_posX {l : Launch} (htr : l.stackTraces = false) (hg : GI θ ph g X σ κ te be ue r wr b wb u) {id : Int32} (h : ¬ fndN (gN σ) (gI σ) id < gN σ) : MC yX11_positionOf cX11_positionOf 3 (some .int) 3 1 6 l θ [.ref g, .int id] ph (fun _ _ => False) (fun E p => E = xN ∧ p = ph) := by
  have hn := hg.2.2.2.2.2.2.2.2.1.1
  obtain ⟨gO, ⟨gT, gTr⟩, -⟩ := hg
  refine MC.of htr (by decide) (Nat.le_of_ble_eq_true rfl) ?_
  intro x hX hQ hT
  have loop : ∀ (q i : Nat), gN σ - i < q → i ≤ gN σ → EJ θ x 2 [(0, .ref g), (1, .int id), (2, .int (nI i))] [] ph 0 0 := by
    intro q
    induction q with
    | zero => intro i hg; omega
    | succ q ih =>
      intro i hq hi
      refine e_iload_n hX 2 iX11_positionOf_2 rfl rfl ?_
      refine e_aload_n hX 0 iX11_positionOf_3 rfl rfl ?_
      refine e_get hX iX11_positionOf_4 gO rfl ?_
      refine e_callV hX iX11_positionOf_7 (lst.hp gT) (c_size htr gT) rfl rfl ⟨by decide, by decide, by decide, by decide⟩ (Nat.le_of_ble_eq_true rfl) (fun _ _ h => h.elim) (fun v9 ph9 hv9 => ?_)
      obtain ⟨rfl, e9⟩ := hv9
      subst ph9
      refine e_icmp_ge hX iX11_positionOf_10 (fun c10 => ?_) (fun c10 => ?_)
      · exact e_throwNW hX iX11_positionOf_39 ⟨by decide, Nat.le_of_ble_eq_true rfl, by decide, by decide⟩ (e_out hX hQ hT (by decide) (by decide) ⟨rfl, rfl⟩)
      · have hin : i < gN σ := by
          rcases Nat.lt_or_ge i (gN σ) with h | h
          · exact h
          · exact absurd (nI_le h (by omega)) c10
        refine e_aload_n hX 0 iX11_positionOf_13 rfl rfl ?_
        refine e_get hX iX11_positionOf_14 gO rfl ?_
        refine e_iload_n hX 2 iX11_positionOf_17 rfl rfl ?_
        refine e_callV hX iX11_positionOf_18 (lst.hp gT) (c_lget (i := i) htr gT hin) rfl rfl ⟨by decide, by decide, by decide, by decide⟩ (Nat.le_of_ble_eq_true rfl) (fun _ _ h => h.elim) (fun v9 ph9 hv9 => ?_)
        obtain ⟨rfl, e9⟩ := hv9
        subst ph9
        refine e_castS hX iX11_positionOf_21 klRX11_79 (rowAt.hp (gTr i hin)) rfl ?_
        refine e_get hX iX11_positionOf_24 (gTr i hin).1 rfl ?_
        refine e_iload_n hX 1 iX11_positionOf_27 rfl rfl ?_
        refine e_icmp_ne hX iX11_positionOf_28 (fun c28 => ?_) (fun c28 => ?_)
        · refine e_iinc hX iX11_positionOf_33 rfl (by first | exact nI_inc _ | rfl) (by decide) ?_
          refine e_goto hX iX11_positionOf_36 ?_
          refine e_loc [0, 1, 2] ?_
          exact ih (i + 1) (by omega) (by omega)
        · exact absurd c28 (fndN_no (n := gN σ) (by have := @fndN_le (gN σ) (gI σ) id; omega))
  refine e_iconst (v := 0) hX iX11_positionOf_0 (by decide) ?_
  refine e_istore_n hX 2 iX11_positionOf_1 rfl (by decide) ?_
  refine e_loc [0, 1, 2] ?_
  exact loop (gN σ + 1) 0 (by omega) (by omega)
theorem c_row0 {l : Launch} (htr : l.stackTraces = false) (hg : GI θ ph g X σ κ te be ue r wr b wb u) {id : Int32} (h : fndN (gN σ) (gI σ) id < gN σ) : MC yX11_rowWith cX11_rowWith 4 (some (.object "QualityGate$Row")) 4 0 0 l θ [.ref g, .int id] ph (fun z p => z = some (.ref (r (fndN (gN σ) (gI σ) id))) ∧ p = ph) (fun _ _ => False) := by
  have hn := hg.2.2.2.2.2.2.2.2.1.1
  obtain ⟨gO, ⟨gT, gTr⟩, -⟩ := hg
  refine MC.of htr (by decide) (Nat.le_of_ble_eq_true rfl) ?_
  intro x hX hQ hT
  have loop : ∀ (q i : Nat), gN σ - i < q → i ≤ gN σ → (∀ j, j < i → ¬ gI σ j = id) → EJ θ x 2 [(0, .ref g), (1, .int id), (2, .int (nI i))] [] ph 0 0 := by
    intro q
    induction q with
    | zero => intro i hg; omega
    | succ q ih =>
      intro i hq hi hinv
      refine e_iload_n hX 2 iX11_rowWith_2 rfl rfl ?_
      refine e_aload_n hX 0 iX11_rowWith_3 rfl rfl ?_
      refine e_get hX iX11_rowWith_4 gO rfl ?_
      refine e_callV hX iX11_rowWith_7 (lst.hp gT) (c_size htr gT) rfl rfl ⟨by decide, by decide, by decide, by decide⟩ (Nat.le_of_ble_eq_true rfl) (fun _ _ h => h.elim) (fun v9 ph9 hv9 => ?_)
      obtain ⟨rfl, e9⟩ := hv9
      subst ph9
      refine e_icmp_ge hX iX11_rowWith_10 (fun c10 => ?_) (fun c10 => ?_)
      · have hin : i = gN σ := by
          rcases Nat.lt_or_ge i (gN σ) with h | h
          · exact absurd c10 (nI_ge h (by omega))
          · omega
        subst hin
        exact absurd (fndN_eq h) (hinv _ h)
      · have hin : i < gN σ := by
          rcases Nat.lt_or_ge i (gN σ) with h | h
          · exact h
          · exact absurd (nI_le h (by omega)) c10
        refine e_aload_n hX 0 iX11_rowWith_13 rfl rfl ?_
        refine e_get hX iX11_rowWith_14 gO rfl ?_
        refine e_iload_n hX 2 iX11_rowWith_17 rfl rfl ?_
        refine e_callV hX iX11_rowWith_18 (lst.hp gT) (c_lget (i := i) htr gT hin) rfl rfl ⟨by decide, by decide, by decide, by decide⟩ (Nat.le_of_ble_eq_true rfl) (fun _ _ h => h.elim) (fun v9 ph9 hv9 => ?_)
        obtain ⟨rfl, e9⟩ := hv9
        subst ph9
        refine e_castS hX iX11_rowWith_21 klRX11_79 (rowAt.hp (gTr i hin)) rfl ?_
        refine e_astore_n hX 3 iX11_rowWith_24 rfl (by decide) ?_
        refine e_aload_n hX 3 iX11_rowWith_25 rfl rfl ?_
        refine e_get hX iX11_rowWith_26 (gTr i hin).1 rfl ?_
        refine e_iload_n hX 1 iX11_rowWith_29 rfl rfl ?_
        refine e_icmp_ne hX iX11_rowWith_30 (fun c30 => ?_) (fun c30 => ?_)
        · refine e_iinc hX iX11_rowWith_35 rfl (by first | exact nI_inc _ | rfl) (by decide) ?_
          refine e_goto hX iX11_rowWith_38 ?_
          refine e_loc [0, 1, 2] ?_
          refine ih (i + 1) (by omega) (by omega) (fun z hz => ?_)
          by_cases e : z = i
          · subst e; exact c30
          · exact hinv z (by omega)
        · refine e_aload_n hX 3 iX11_rowWith_33 rfl rfl ?_
          exact e_aret hX hQ iX11_rowWith_34 rfl (Or.inl ⟨_, rfl⟩) (by decide) (by decide) ⟨by rw [fndN_u hin c30 hinv], rfl⟩
  refine e_iconst (v := 0) hX iX11_rowWith_0 (by decide) ?_
  refine e_istore_n hX 2 iX11_rowWith_1 rfl (by decide) ?_
  refine e_loc [0, 1, 2] ?_
  exact loop (gN σ + 1) 0 (by omega) (by omega) (fun z hz => absurd hz (Nat.not_lt_zero z))
theorem c_rowX {l : Launch} (htr : l.stackTraces = false) (hg : GI θ ph g X σ κ te be ue r wr b wb u) {id : Int32} (h : ¬ fndN (gN σ) (gI σ) id < gN σ) : MC yX11_rowWith cX11_rowWith 4 (some (.object "QualityGate$Row")) 4 1 6 l θ [.ref g, .int id] ph (fun _ _ => False) (fun E p => E = xN ∧ p = ph) := by
  have hn := hg.2.2.2.2.2.2.2.2.1.1
  obtain ⟨gO, ⟨gT, gTr⟩, -⟩ := hg
  refine MC.of htr (by decide) (Nat.le_of_ble_eq_true rfl) ?_
  intro x hX hQ hT
  have loop : ∀ (q i : Nat), gN σ - i < q → i ≤ gN σ → EJ θ x 2 [(0, .ref g), (1, .int id), (2, .int (nI i))] [] ph 0 0 := by
    intro q
    induction q with
    | zero => intro i hg; omega
    | succ q ih =>
      intro i hq hi
      refine e_iload_n hX 2 iX11_rowWith_2 rfl rfl ?_
      refine e_aload_n hX 0 iX11_rowWith_3 rfl rfl ?_
      refine e_get hX iX11_rowWith_4 gO rfl ?_
      refine e_callV hX iX11_rowWith_7 (lst.hp gT) (c_size htr gT) rfl rfl ⟨by decide, by decide, by decide, by decide⟩ (Nat.le_of_ble_eq_true rfl) (fun _ _ h => h.elim) (fun v9 ph9 hv9 => ?_)
      obtain ⟨rfl, e9⟩ := hv9
      subst ph9
      refine e_icmp_ge hX iX11_rowWith_10 (fun c10 => ?_) (fun c10 => ?_)
      · exact e_throwNW hX iX11_rowWith_41 ⟨by decide, Nat.le_of_ble_eq_true rfl, by decide, by decide⟩ (e_out hX hQ hT (by decide) (by decide) ⟨rfl, rfl⟩)
      · have hin : i < gN σ := by
          rcases Nat.lt_or_ge i (gN σ) with h | h
          · exact h
          · exact absurd (nI_le h (by omega)) c10
        refine e_aload_n hX 0 iX11_rowWith_13 rfl rfl ?_
        refine e_get hX iX11_rowWith_14 gO rfl ?_
        refine e_iload_n hX 2 iX11_rowWith_17 rfl rfl ?_
        refine e_callV hX iX11_rowWith_18 (lst.hp gT) (c_lget (i := i) htr gT hin) rfl rfl ⟨by decide, by decide, by decide, by decide⟩ (Nat.le_of_ble_eq_true rfl) (fun _ _ h => h.elim) (fun v9 ph9 hv9 => ?_)
        obtain ⟨rfl, e9⟩ := hv9
        subst ph9
        refine e_castS hX iX11_rowWith_21 klRX11_79 (rowAt.hp (gTr i hin)) rfl ?_
        refine e_astore_n hX 3 iX11_rowWith_24 rfl (by decide) ?_
        refine e_aload_n hX 3 iX11_rowWith_25 rfl rfl ?_
        refine e_get hX iX11_rowWith_26 (gTr i hin).1 rfl ?_
        refine e_iload_n hX 1 iX11_rowWith_29 rfl rfl ?_
        refine e_icmp_ne hX iX11_rowWith_30 (fun c30 => ?_) (fun c30 => ?_)
        · refine e_iinc hX iX11_rowWith_35 rfl (by first | exact nI_inc _ | rfl) (by decide) ?_
          refine e_goto hX iX11_rowWith_38 ?_
          refine e_loc [0, 1, 2] ?_
          exact ih (i + 1) (by omega) (by omega)
        · exact absurd c30 (fndN_no (n := gN σ) (by have := @fndN_le (gN σ) (gI σ) id; omega))
  refine e_iconst (v := 0) hX iX11_rowWith_0 (by decide) ?_
  refine e_istore_n hX 2 iX11_rowWith_1 rfl (by decide) ?_
  refine e_loc [0, 1, 2] ?_
  exact loop (gN σ + 1) 0 (by omega) (by omega)
theorem c_force0 {l : Launch} (htr : l.stackTraces = false) (hg : GI θ ph g X σ κ te be ue r wr b wb u) {q : Nat} (hq : q < gK σ) (h : drR (gR σ q) = false) : MC yX11_ruleInForce cX11_ruleInForce 3 (some (.object "QualityGate$Rule")) 3 0 0 l θ [.ref g, .int (nI q)] ph (fun z p => z = some (.ref (u q)) ∧ p = ph) (fun _ _ => False) := by
  have hk := hg.2.2.2.2.2.2.2.2.1.2.2.1
  obtain ⟨gO, -, -, ⟨gU, gUr⟩, -⟩ := hg
  refine MC.of htr (by decide) (Nat.le_of_ble_eq_true rfl) ?_
  intro x hX hQ hT
  refine e_iload_n hX 1 iX11_ruleInForce_0 rfl rfl ?_
  refine e_if_lt hX iX11_ruleInForce_1 (fun c1 => ?_) (fun c1 => ?_)
  · exact absurd c1 (nI_pos (by omega))
  · refine e_iload_n hX 1 iX11_ruleInForce_4 rfl rfl ?_
    refine e_aload_n hX 0 iX11_ruleInForce_5 rfl rfl ?_
    refine e_get hX iX11_ruleInForce_6 gO rfl ?_
    refine e_callV hX iX11_ruleInForce_9 (lst.hp gU) (c_size htr gU) rfl rfl ⟨by decide, by decide, by decide, by decide⟩ (Nat.le_of_ble_eq_true rfl) (fun _ _ h => h.elim) (fun v9 ph9 hv9 => ?_)
    obtain ⟨rfl, e9⟩ := hv9
    subst ph9
    refine e_icmp_lt hX iX11_ruleInForce_12 (fun c12 => ?_) (fun c12 => ?_)
    · refine e_aload_n hX 0 iX11_ruleInForce_26 rfl rfl ?_
      refine e_get hX iX11_ruleInForce_27 gO rfl ?_
      refine e_iload_n hX 1 iX11_ruleInForce_30 rfl rfl ?_
      refine e_callV hX iX11_ruleInForce_31 (lst.hp gU) (c_lget (i := q) htr gU hq) rfl rfl ⟨by decide, by decide, by decide, by decide⟩ (Nat.le_of_ble_eq_true rfl) (fun _ _ h => h.elim) (fun v9 ph9 hv9 => ?_)
      obtain ⟨rfl, e9⟩ := hv9
      subst ph9
      refine e_castR hX iX11_ruleInForce_34 klRX11_206 (gUr q hq) ?_
      refine e_astore_n hX 2 iX11_ruleInForce_37 rfl (by decide) ?_
      refine e_aload_n hX 2 iX11_ruleInForce_38 rfl rfl ?_
      refine e_getDr hX iX11_ruleInForce_39_c7 iX11_ruleInForce_39_c8 iX11_ruleInForce_39_c9 iX11_ruleInForce_39_c10 iX11_ruleInForce_39_c11 (gUr q hq) ?_
      rw [h]
      refine e_if_eq hX iX11_ruleInForce_42 (fun c42 => ?_) (fun c42 => ?_)
      · refine e_aload_n hX 2 iX11_ruleInForce_56 rfl rfl ?_
        exact e_aret hX hQ iX11_ruleInForce_57 rfl (Or.inl ⟨_, rfl⟩) (by decide) (by decide) ⟨rfl, rfl⟩
      · exact absurd rfl c42
    · exact absurd (nI_lt hq (by omega)) c12
theorem c_forceX {l : Launch} (htr : l.stackTraces = false) (hg : GI θ ph g X σ κ te be ue r wr b wb u) {y : Int32} (h : ¬ ∃ q, q < gK σ ∧ y = nI q) : MC yX11_ruleInForce cX11_ruleInForce 3 (some (.object "QualityGate$Rule")) 3 1 6 l θ [.ref g, .int y] ph (fun _ _ => False) (fun E p => E = xB ∧ p = ph) := by
  have hk := hg.2.2.2.2.2.2.2.2.1.2.2.1
  obtain ⟨gO, -, -, ⟨gU, gUr⟩, -⟩ := hg
  refine MC.of htr (by decide) (Nat.le_of_ble_eq_true rfl) ?_
  intro x hX hQ hT
  have th : EJ θ x 15 [(0, .ref g), (1, .int y)] [] ph 0 0 := by
    exact e_throwW hX hQ hT iX11_ruleInForce_15 ⟨by decide, Nat.le_of_ble_eq_true rfl, by decide, by decide⟩ (by decide) (by decide) ⟨rfl, rfl⟩
  refine e_iload_n hX 1 iX11_ruleInForce_0 rfl rfl ?_
  refine e_if_lt hX iX11_ruleInForce_1 (fun c1 => ?_) (fun c1 => ?_)
  · exact th
  · refine e_iload_n hX 1 iX11_ruleInForce_4 rfl rfl ?_
    refine e_aload_n hX 0 iX11_ruleInForce_5 rfl rfl ?_
    refine e_get hX iX11_ruleInForce_6 gO rfl ?_
    refine e_callV hX iX11_ruleInForce_9 (lst.hp gU) (c_size htr gU) rfl rfl ⟨by decide, by decide, by decide, by decide⟩ (Nat.le_of_ble_eq_true rfl) (fun _ _ h => h.elim) (fun v9 ph9 hv9 => ?_)
    obtain ⟨rfl, e9⟩ := hv9
    subst ph9
    refine e_icmp_lt hX iX11_ruleInForce_12 (fun c12 => ?_) (fun c12 => ?_)
    · rcases pk_ix y (n := gK σ) (by omega) with h1 | h1 | h1
      · exact absurd h1 c1
      · exact absurd c12 (Int32.not_lt.mpr h1)
      · exact absurd h1 h
    · exact th
theorem c_forceD {l : Launch} (htr : l.stackTraces = false) (hg : GI θ ph g X σ κ te be ue r wr b wb u) {q : Nat} (hq : q < gK σ) (h : drR (gR σ q) = true) : MC yX11_ruleInForce cX11_ruleInForce 3 (some (.object "QualityGate$Rule")) 3 1 6 l θ [.ref g, .int (nI q)] ph (fun _ _ => False) (fun E p => E = xS ∧ p = ph) := by
  have hk := hg.2.2.2.2.2.2.2.2.1.2.2.1
  obtain ⟨gO, -, -, ⟨gU, gUr⟩, -⟩ := hg
  refine MC.of htr (by decide) (Nat.le_of_ble_eq_true rfl) ?_
  intro x hX hQ hT
  refine e_iload_n hX 1 iX11_ruleInForce_0 rfl rfl ?_
  refine e_if_lt hX iX11_ruleInForce_1 (fun c1 => ?_) (fun c1 => ?_)
  · exact absurd c1 (nI_pos (by omega))
  · refine e_iload_n hX 1 iX11_ruleInForce_4 rfl rfl ?_
    refine e_aload_n hX 0 iX11_ruleInForce_5 rfl rfl ?_
    refine e_get hX iX11_ruleInForce_6 gO rfl ?_
    refine e_callV hX iX11_ruleInForce_9 (lst.hp gU) (c_size htr gU) rfl rfl ⟨by decide, by decide, by decide, by decide⟩ (Nat.le_of_ble_eq_true rfl) (fun _ _ h => h.elim) (fun v9 ph9 hv9 => ?_)
    obtain ⟨rfl, e9⟩ := hv9
    subst ph9
    refine e_icmp_lt hX iX11_ruleInForce_12 (fun c12 => ?_) (fun c12 => ?_)
    · refine e_aload_n hX 0 iX11_ruleInForce_26 rfl rfl ?_
      refine e_get hX iX11_ruleInForce_27 gO rfl ?_
      refine e_iload_n hX 1 iX11_ruleInForce_30 rfl rfl ?_
      refine e_callV hX iX11_ruleInForce_31 (lst.hp gU) (c_lget (i := q) htr gU hq) rfl rfl ⟨by decide, by decide, by decide, by decide⟩ (Nat.le_of_ble_eq_true rfl) (fun _ _ h => h.elim) (fun v9 ph9 hv9 => ?_)
      obtain ⟨rfl, e9⟩ := hv9
      subst ph9
      refine e_castR hX iX11_ruleInForce_34 klRX11_206 (gUr q hq) ?_
      refine e_astore_n hX 2 iX11_ruleInForce_37 rfl (by decide) ?_
      refine e_aload_n hX 2 iX11_ruleInForce_38 rfl rfl ?_
      refine e_getDr hX iX11_ruleInForce_39_c7 iX11_ruleInForce_39_c8 iX11_ruleInForce_39_c9 iX11_ruleInForce_39_c10 iX11_ruleInForce_39_c11 (gUr q hq) ?_
      rw [h]
      refine e_if_eq hX iX11_ruleInForce_42 (fun c42 => ?_) (fun c42 => ?_)
      · exact absurd c42 (by decide)
      · exact e_throwW hX hQ hT iX11_ruleInForce_45 ⟨by decide, Nat.le_of_ble_eq_true rfl, by decide, by decide⟩ (by decide) (by decide) ⟨rfl, rfl⟩
    · exact absurd (nI_lt hq (by omega)) c12
end GH
theorem c_isFar {l : Launch} (htr : l.stackTraces = false) {θ : e_T} {ph : e_PH} {q w : Nat} {v : Nat → Int32} {id : Int32} (hr : rowAt θ ph q w v id) {c : Nat} (hc : c < 5) (m y : Int32) : MC yX11_isFar cX11_isFar 4 (some .boolean) 2 0 0 l θ [.ref q, .int (nI c), .int m, .int y] ph (fun z p => z = some (.int (b2i (pres (v c) && decide (y < dist (v c) m)))) ∧ p = ph) (fun _ _ => False) := by
  refine MC.of htr (by decide) (Nat.le_of_ble_eq_true rfl) ?_
  intro x hX hQ hT
  refine e_aload_n hX 0 iX11_isFar_0 rfl rfl ?_
  refine e_iload_n hX 1 iX11_isFar_1 rfl rfl ?_
  refine e_callV hX iX11_isFar_2 hr.1 (c_isPresent htr hr c hc) rfl rfl ⟨by decide, by decide, by decide, by decide⟩ (Nat.le_of_ble_eq_true rfl) (fun _ _ h => h.elim) (fun v9 ph9 hv9 => ?_)
  obtain ⟨rfl, e9⟩ := hv9
  subst ph9
  refine e_if_eq hX iX11_isFar_5 (fun c5 => ?_) (fun c5 => ?_)
  · refine e_iconst (v := 0) hX iX11_isFar_22 (by decide) ?_
    exact e_zret hX hQ iX11_isFar_23 rfl nar_0 (by decide) (by decide) ⟨by rw [and_f1 (b2i_0.mp c5)]; rfl, rfl⟩
  · refine e_aload_n hX 0 iX11_isFar_8 rfl rfl ?_
    refine e_iload_n hX 1 iX11_isFar_9 rfl rfl ?_
    refine e_iload_n hX 2 iX11_isFar_10 rfl rfl ?_
    refine e_callV hX iX11_isFar_11 hr.1 (c_distance htr hr c hc m) rfl rfl ⟨by decide, by decide, by decide, by decide⟩ (Nat.le_of_ble_eq_true rfl) (fun _ _ h => h.elim) (fun v9 ph9 hv9 => ?_)
    obtain ⟨rfl, e9⟩ := hv9
    subst ph9
    refine e_iload_n hX 3 iX11_isFar_14 rfl rfl ?_
    refine e_icmp_le hX iX11_isFar_15 (fun c15 => ?_) (fun c15 => ?_)
    · refine e_iconst (v := 0) hX iX11_isFar_22 (by decide) ?_
      exact e_zret hX hQ iX11_isFar_23 rfl nar_0 (by decide) (by decide) ⟨by rw [and_f2 (decide_eq_false (Int32.not_lt.mpr c15))]; rfl, rfl⟩
    · refine e_iconst (v := 1) hX iX11_isFar_18 (by decide) ?_
      refine e_goto hX iX11_isFar_19 ?_
      exact e_zret hX hQ iX11_isFar_23 rfl nar_1 (by decide) (by decide) ⟨by rw [and_tt (b2i_n0.mp c5) (decide_eq_true (Int32.not_le.mp c15))]; rfl, rfl⟩
