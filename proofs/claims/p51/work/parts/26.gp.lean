def colB (x : Int32) : Bool := decide (0 ≤ x) && decide (x ≤ 4)
def setB (x : Int32) : Bool := decide (0 ≤ x) && decide (x ≤ 31)
theorem rng_t {x : Int32} {n : Nat} (hn : n < 2 ^ 30) : (decide (0 ≤ x) && decide (x ≤ nI n)) = true ↔ ∃ c, c < n + 1 ∧ x = nI c := by
  rw [Bool.and_eq_true, decide_eq_true_eq, decide_eq_true_eq]
  constructor
  · intro h
    rcases pk_ix x (n := n + 1) (by omega) with h1 | h1 | h1
    · exact absurd h.1 (Int32.not_le.mpr h1)
    · exact absurd (Int32.le_trans h1 h.2) (nI_ge (by omega) (by omega))
    · exact h1
  · rintro ⟨c, hc, rfl⟩
    exact ⟨nI_pos' (by omega), nI_le (by omega) (by omega)⟩
theorem colB_t {x : Int32} : colB x = true ↔ colOk x := rng_t (n := 4) (by decide)
theorem setB_t {x : Int32} : setB x = true ↔ setOk x := rng_t (n := 31) (by decide)
theorem colB_f {x : Int32} (h : ¬ colB x = true) : ¬ colOk x := fun q => h (colB_t.mpr q)
theorem setB_f {x : Int32} (h : ¬ setB x = true) : ¬ setOk x := fun q => h (setB_t.mpr q)
def oP (θ : e_T) (ph : e_PH) (g : Nat) (X : Nat → Prop) (k : Nat) (z0 : Option Value) (σ : SG) : Option Value → e_PH → Prop := fun z p => k = 0 ∧ z = z0 ∧ GP θ p g X σ ∧ kx ph p X
def oX (θ : e_T) (ph : e_PH) (g : Nat) (X : Nat → Prop) (k : Nat) (xs : List String) (σ : SG) : String → e_PH → Prop := fun E p => k ≠ 0 ∧ xs[k - 1]? = some E ∧ GP θ p g X σ ∧ kx ph p X
theorem GI.gp {θ : e_T} {ph : e_PH} {g : Nat} {X : Nat → Prop} {σ : SG} {κ : Nat → Nat} {te be ue : Nat} {r wr b wb u : Nat → Nat} (h : GI θ ph g X σ κ te be ue r wr b wb u) : GP θ ph g X σ := ⟨κ, te, be, ue, r, wr, b, wb, u, h⟩
theorem GI.oX {θ : e_T} {ph : e_PH} {g : Nat} {X : Nat → Prop} {σ : SG} {κ : Nat → Nat} {te be ue : Nat} {r wr b wb u : Nat → Nat} (h : GI θ ph g X σ κ te be ue r wr b wb u) {k : Nat} {xs : List String} {E : String} (j : Nat) (hk : k = j + 1) (hE : xs[j]? = some E) : oX θ ph g X k xs σ E ph := ⟨by omega, by rw [hk]; exact hE, h.gp, kx.refl⟩
theorem GI.oP {θ : e_T} {ph p : e_PH} {g : Nat} {X : Nat → Prop} {σ : SG} {κ : Nat → Nat} {te be ue : Nat} {r wr b wb u : Nat → Nat} (h : GI θ p g X σ κ te be ue r wr b wb u) (hx : kx ph p X) {k : Nat} {z0 z : Option Value} (hk : k = 0) (hz : z = z0) : oP θ ph g X k z0 σ z p := ⟨hk, hz, h.gp, hx⟩
def k_rej (σ : SG) : Nat := if (gJ σ).1 = -1 then 1 else 0
def k_rejO (σ : SG) : Nat := if (gJ σ).2.2.1 = -1 then 1 else 0
def fnd (σ : SG) (id : Int32) : Nat := fndN (gN σ) (gI σ) id
def k_id (σ : SG) (id : Int32) : Nat := if fnd σ id < gN σ then 0 else 1
def k_idc (σ : SG) (id c : Int32) : Nat := if fnd σ id < gN σ then (if colB c = true then 0 else 2) else 1
def k_at (σ : SG) (q : Int32) : Nat := if decide (0 ≤ q) && decide (q < nI (gN σ)) then 0 else 1
def k_rule (σ : SG) (q : Int32) : Nat := if decide (0 ≤ q) && decide (q < nI (gK σ)) then (if drR (gR σ (ix q)) then 2 else 0) else 1
def k_conf (σ : SG) (id id2 : Int32) : Nat := if fnd σ id < gN σ then (if fnd σ id2 < gN σ then (if id = id2 then 2 else 0) else 1) else 1
theorem ltB_t {x : Int32} {n : Nat} (hn : n < 2 ^ 30) : (decide (0 ≤ x) && decide (x < nI n)) = true ↔ ∃ c, c < n ∧ x = nI c := by
  rw [Bool.and_eq_true, decide_eq_true_eq, decide_eq_true_eq]
  constructor
  · intro h
    rcases pk_ix x (n := n) (by omega) with h1 | h1 | h1
    · exact absurd h.1 (Int32.not_le.mpr h1)
    · exact absurd h.2 (Int32.not_lt.mpr h1)
    · exact h1
  · rintro ⟨c, hc, rfl⟩
    exact ⟨nI_pos' (by omega), nI_lt hc (by omega)⟩
section GPS
variable {l : Launch} {θ : e_T} {ph : e_PH} {g : Nat} {X : Nat → Prop} {σ : SG}
theorem m_staged (htr : l.stackTraces = false) (hg : GP θ ph g X σ) : MC yX11_staged cX11_staged 1 (some .int) 1 0 0 l θ [.ref g] ph (oP θ ph g X 0 (some (.int (nI (gM σ)))) σ) (fun _ _ => False) := by
  obtain ⟨κ, te, be, ue, r, wr, b, wb, u, hg⟩ := hg
  refine MC.of htr (by decide) (Nat.le_of_ble_eq_true rfl) ?_
  intro x hX hQ hT
  refine e_aload_n hX 0 iX11_staged_0 rfl rfl ?_
  refine e_get hX iX11_staged_1 hg.1 rfl ?_
  refine e_callV hX iX11_staged_4 (lst.hp hg.2.2.1.1) (c_size htr hg.2.2.1.1) rfl rfl ⟨by decide, by decide, by decide, by decide⟩ (Nat.le_of_ble_eq_true rfl) (fun _ _ h => h.elim) (fun v9 ph9 hv9 => ?_)
  obtain ⟨rfl, e9⟩ := hv9
  subst ph9
  exact e_iret hX hQ iX11_staged_7 rfl (by decide) (by decide) (hg.oP kx.refl rfl rfl)
theorem m_rowCount (htr : l.stackTraces = false) (hg : GP θ ph g X σ) : MC yX11_rowCount cX11_rowCount 1 (some .int) 1 0 0 l θ [.ref g] ph (oP θ ph g X 0 (some (.int (nI (gN σ)))) σ) (fun _ _ => False) := by
  obtain ⟨κ, te, be, ue, r, wr, b, wb, u, hg⟩ := hg
  refine MC.of htr (by decide) (Nat.le_of_ble_eq_true rfl) ?_
  intro x hX hQ hT
  refine e_aload_n hX 0 iX11_rowCount_0 rfl rfl ?_
  refine e_get hX iX11_rowCount_1 hg.1 rfl ?_
  refine e_callV hX iX11_rowCount_4 (lst.hp hg.2.1.1) (c_size htr hg.2.1.1) rfl rfl ⟨by decide, by decide, by decide, by decide⟩ (Nat.le_of_ble_eq_true rfl) (fun _ _ h => h.elim) (fun v9 ph9 hv9 => ?_)
  obtain ⟨rfl, e9⟩ := hv9
  subst ph9
  exact e_iret hX hQ iX11_rowCount_7 rfl (by decide) (by decide) (hg.oP kx.refl rfl rfl)
theorem m_rejectedRow (htr : l.stackTraces = false) (hg : GP θ ph g X σ) : MC yX11_rejectedRow cX11_rejectedRow 1 (some .int) 1 1 6 l θ [.ref g] ph (oP θ ph g X (k_rej σ) (some (.int (gJ σ).1)) σ) (oX θ ph g X (k_rej σ) [xN] σ) := by
  obtain ⟨κ, te, be, ue, r, wr, b, wb, u, hg⟩ := hg
  refine MC.of htr (by decide) (Nat.le_of_ble_eq_true rfl) ?_
  intro x hX hQ hT
  refine e_aload_n hX 0 iX11_rejectedRow_0 rfl rfl ?_
  refine e_get hX iX11_rejectedRow_1 hg.1 rfl ?_
  refine e_get hX iX11_rejectedRow_4 hg.2.2.2.2.1 rfl ?_
  refine e_iconst (v := (-1)) hX iX11_rejectedRow_7 (by decide) ?_
  refine e_icmp_ne hX iX11_rejectedRow_8 (fun c8 => ?_) (fun c8 => ?_)
  · refine e_aload_n hX 0 iX11_rejectedRow_21 rfl rfl ?_
    refine e_get hX iX11_rejectedRow_22 hg.1 rfl ?_
    refine e_get hX iX11_rejectedRow_25 hg.2.2.2.2.1 rfl ?_
    exact e_iret hX hQ iX11_rejectedRow_28 rfl (by decide) (by decide) (hg.oP kx.refl (if_neg c8) rfl)
  · exact e_throwN hX iX11_rejectedRow_11 ⟨by decide, Nat.le_of_ble_eq_true rfl, by decide, by decide⟩ (e_out hX hQ hT (by decide) (by decide) (hg.oX 0 (if_pos c8) rfl))
theorem m_rejectedRule (htr : l.stackTraces = false) (hg : GP θ ph g X σ) : MC yX11_rejectedRule cX11_rejectedRule 1 (some .int) 1 1 6 l θ [.ref g] ph (oP θ ph g X (k_rej σ) (some (.int (gJ σ).2.1)) σ) (oX θ ph g X (k_rej σ) [xN] σ) := by
  obtain ⟨κ, te, be, ue, r, wr, b, wb, u, hg⟩ := hg
  refine MC.of htr (by decide) (Nat.le_of_ble_eq_true rfl) ?_
  intro x hX hQ hT
  refine e_aload_n hX 0 iX11_rejectedRule_0 rfl rfl ?_
  refine e_get hX iX11_rejectedRule_1 hg.1 rfl ?_
  refine e_get hX iX11_rejectedRule_4 hg.2.2.2.2.1 rfl ?_
  refine e_iconst (v := (-1)) hX iX11_rejectedRule_7 (by decide) ?_
  refine e_icmp_ne hX iX11_rejectedRule_8 (fun c8 => ?_) (fun c8 => ?_)
  · refine e_aload_n hX 0 iX11_rejectedRule_21 rfl rfl ?_
    refine e_get hX iX11_rejectedRule_22 hg.1 rfl ?_
    refine e_get hX iX11_rejectedRule_25 hg.2.2.2.2.1 rfl ?_
    exact e_iret hX hQ iX11_rejectedRule_28 rfl (by decide) (by decide) (hg.oP kx.refl (if_neg c8) rfl)
  · exact e_throwN hX iX11_rejectedRule_11 ⟨by decide, Nat.le_of_ble_eq_true rfl, by decide, by decide⟩ (e_out hX hQ hT (by decide) (by decide) (hg.oX 0 (if_pos c8) rfl))
theorem m_rejectedOther (htr : l.stackTraces = false) (hg : GP θ ph g X σ) : MC yX11_rejectedOther cX11_rejectedOther 1 (some .int) 1 1 6 l θ [.ref g] ph (oP θ ph g X (k_rejO σ) (some (.int (gJ σ).2.2.1)) σ) (oX θ ph g X (k_rejO σ) [xN] σ) := by
  obtain ⟨κ, te, be, ue, r, wr, b, wb, u, hg⟩ := hg
  refine MC.of htr (by decide) (Nat.le_of_ble_eq_true rfl) ?_
  intro x hX hQ hT
  refine e_aload_n hX 0 iX11_rejectedOther_0 rfl rfl ?_
  refine e_get hX iX11_rejectedOther_1 hg.1 rfl ?_
  refine e_get hX iX11_rejectedOther_4 hg.2.2.2.2.1 rfl ?_
  refine e_iconst (v := (-1)) hX iX11_rejectedOther_7 (by decide) ?_
  refine e_icmp_ne hX iX11_rejectedOther_8 (fun c8 => ?_) (fun c8 => ?_)
  · refine e_aload_n hX 0 iX11_rejectedOther_21 rfl rfl ?_
    refine e_get hX iX11_rejectedOther_22 hg.1 rfl ?_
    refine e_get hX iX11_rejectedOther_25 hg.2.2.2.2.1 rfl ?_
    exact e_iret hX hQ iX11_rejectedOther_28 rfl (by decide) (by decide) (hg.oP kx.refl (if_neg c8) rfl)
  · exact e_throwN hX iX11_rejectedOther_11 ⟨by decide, Nat.le_of_ble_eq_true rfl, by decide, by decide⟩ (e_out hX hQ hT (by decide) (by decide) (hg.oX 0 (if_pos c8) rfl))
theorem m_isOtherStaged (htr : l.stackTraces = false) (hg : GP θ ph g X σ) : MC yX11_isOtherStaged cX11_isOtherStaged 1 (some .boolean) 1 1 6 l θ [.ref g] ph (oP θ ph g X (k_rejO σ) (some (.int (b2i (gJ σ).2.2.2))) σ) (oX θ ph g X (k_rejO σ) [xN] σ) := by
  obtain ⟨κ, te, be, ue, r, wr, b, wb, u, hg⟩ := hg
  refine MC.of htr (by decide) (Nat.le_of_ble_eq_true rfl) ?_
  intro x hX hQ hT
  refine e_aload_n hX 0 iX11_isOtherStaged_0 rfl rfl ?_
  refine e_get hX iX11_isOtherStaged_1 hg.1 rfl ?_
  refine e_get hX iX11_isOtherStaged_4 hg.2.2.2.2.1 rfl ?_
  refine e_iconst (v := (-1)) hX iX11_isOtherStaged_7 (by decide) ?_
  refine e_icmp_ne hX iX11_isOtherStaged_8 (fun c8 => ?_) (fun c8 => ?_)
  · refine e_aload_n hX 0 iX11_isOtherStaged_21 rfl rfl ?_
    refine e_get hX iX11_isOtherStaged_22 hg.1 rfl ?_
    refine e_get hX iX11_isOtherStaged_25 hg.2.2.2.2.1 rfl ?_
    exact e_zret hX hQ iX11_isOtherStaged_28 rfl (nar_b _) (by decide) (by decide) (hg.oP kx.refl (if_neg c8) rfl)
  · exact e_throwN hX iX11_isOtherStaged_11 ⟨by decide, Nat.le_of_ble_eq_true rfl, by decide, by decide⟩ (e_out hX hQ hT (by decide) (by decide) (hg.oX 0 (if_pos c8) rfl))
def a_valueAt (σ : SG) (id c : Int32) : Int32 := gV σ (fnd σ id) (ix c)
theorem m_valueAt (htr : l.stackTraces = false) (hg : GP θ ph g X σ) (id c : Int32) : MC yX11_valueAt cX11_valueAt 4 (some .int) 5 1 6 l θ [.ref g, .int id, .int c] ph (oP θ ph g X (k_idc σ id c) (some (.int (a_valueAt σ id c))) σ) (oX θ ph g X (k_idc σ id c) [xN, xB] σ) := by
  obtain ⟨κ, te, be, ue, r, wr, b, wb, u, hg⟩ := hg
  refine MC.of htr (by decide) (Nat.le_of_ble_eq_true rfl) ?_
  intro x hX hQ hT
  refine e_aload_n hX 0 iX11_valueAt_0 rfl rfl ?_
  refine e_iload_n hX 1 iX11_valueAt_1 rfl rfl ?_
  by_cases h1 : fnd σ id < gN σ
  · refine e_callV hX iX11_valueAt_2 hg.1 (c_row0 htr hg h1) rfl rfl ⟨by decide, by decide, by decide, by decide⟩ (Nat.le_of_ble_eq_true rfl) (fun _ _ h => h.elim) (fun v9 ph9 hv9 => ?_)
    obtain ⟨rfl, e9⟩ := hv9
    subst ph9
    refine e_astore_n hX 3 iX11_valueAt_5 rfl (by decide) ?_
    refine e_iload_n hX 2 iX11_valueAt_6 rfl rfl ?_
    by_cases h2 : colB c = true
    · obtain ⟨c', hc', rfl⟩ := colB_t.mp h2
      refine e_callS hX iX11_valueAt_7 (c_needCol0 htr hc') rfl rfl ⟨by decide, by decide, by decide, by decide⟩ (Nat.le_of_ble_eq_true rfl) (fun _ _ h => h.elim) (fun v9 ph9 hv9 => ?_)
      obtain ⟨rfl, e9⟩ := hv9
      subst ph9
      refine e_aload_n hX 3 iX11_valueAt_10 rfl rfl ?_
      refine e_iload_n hX 2 iX11_valueAt_11 rfl rfl ?_
      refine e_callV hX iX11_valueAt_12 (hg.2.1.2 _ h1).1 (c_value htr (hg.2.1.2 _ h1) c' hc') rfl rfl ⟨by decide, by decide, by decide, by decide⟩ (Nat.le_of_ble_eq_true rfl) (fun _ _ h => h.elim) (fun v9 ph9 hv9 => ?_)
      obtain ⟨rfl, e9⟩ := hv9
      subst ph9
      exact e_iret hX hQ iX11_valueAt_15 rfl (by decide) (by decide) (hg.oP kx.refl ((if_pos h1).trans (if_pos h2)) (by unfold a_valueAt; rw [ix_n (by omega)]))
    · refine e_callS hX iX11_valueAt_7 (c_needColX htr (colB_f h2)) rfl rfl ⟨by decide, by decide, by decide, by decide⟩ (Nat.le_of_ble_eq_true rfl) (fun E9 ph9 hv9 => ?_) (fun _ _ h => h.elim)
      obtain ⟨rfl, e9⟩ := hv9
      subst ph9
      exact e_out hX hQ hT (by decide) (by decide) (hg.oX 1 ((if_pos h1).trans (if_neg h2)) rfl)
  · refine e_callV hX iX11_valueAt_2 hg.1 (c_rowX htr hg h1) rfl rfl ⟨by decide, by decide, by decide, by decide⟩ (Nat.le_of_ble_eq_true rfl) (fun E9 ph9 hv9 => ?_) (fun _ _ h => h.elim)
    obtain ⟨rfl, e9⟩ := hv9
    subst ph9
    exact e_out hX hQ hT (by decide) (by decide) (hg.oX 0 (if_neg h1) rfl)
def a_rowAt (σ : SG) (q : Int32) : Int32 := gI σ (ix q)
theorem m_rowAt (htr : l.stackTraces = false) (hg : GP θ ph g X σ) (q : Int32) : MC yX11_rowAt cX11_rowAt 2 (some .int) 3 1 6 l θ [.ref g, .int q] ph (oP θ ph g X (k_at σ q) (some (.int (a_rowAt σ q))) σ) (oX θ ph g X (k_at σ q) [xB] σ) := by
  obtain ⟨κ, te, be, ue, r, wr, b, wb, u, hg⟩ := hg
  have hn := hg.2.2.2.2.2.2.2.2.1.1
  refine MC.of htr (by decide) (Nat.le_of_ble_eq_true rfl) ?_
  intro x hX hQ hT
  have th : (¬ (decide (0 ≤ q) && decide (q < nI (gN σ))) = true) → EJ θ x 15 [(0, .ref g), (1, .int q)] [] ph 0 0 := by
    intro h
    exact e_throw hX iX11_rowAt_15 ⟨by decide, Nat.le_of_ble_eq_true rfl, by decide, by decide⟩ (e_out hX hQ hT (by decide) (by decide) (hg.oX 0 (if_neg h) rfl))
  refine e_iload_n hX 1 iX11_rowAt_0 rfl rfl ?_
  refine e_if_lt hX iX11_rowAt_1 (fun c1 => ?_) (fun c1 => ?_)
  · exact th (fun h => by rw [Bool.and_eq_true, decide_eq_true_eq] at h; exact Int32.not_le.mpr c1 h.1)
  · refine e_iload_n hX 1 iX11_rowAt_4 rfl rfl ?_
    refine e_aload_n hX 0 iX11_rowAt_5 rfl rfl ?_
    refine e_get hX iX11_rowAt_6 hg.1 rfl ?_
    refine e_callV hX iX11_rowAt_9 (lst.hp hg.2.1.1) (c_size htr hg.2.1.1) rfl rfl ⟨by decide, by decide, by decide, by decide⟩ (Nat.le_of_ble_eq_true rfl) (fun _ _ h => h.elim) (fun v9 ph9 hv9 => ?_)
    obtain ⟨rfl, e9⟩ := hv9
    subst ph9
    refine e_icmp_lt hX iX11_rowAt_12 (fun c12 => ?_) (fun c12 => ?_)
    · have h0 : (decide (0 ≤ q) && decide (q < nI (gN σ))) = true := and_tt (decide_eq_true (Int32.not_lt.mp c1)) (decide_eq_true c12)
      obtain ⟨i, hi, rfl⟩ := (ltB_t (by omega)).mp h0
      refine e_aload_n hX 0 iX11_rowAt_25 rfl rfl ?_
      refine e_get hX iX11_rowAt_26 hg.1 rfl ?_
      refine e_iload_n hX 1 iX11_rowAt_29 rfl rfl ?_
      refine e_callV hX iX11_rowAt_30 (lst.hp hg.2.1.1) (c_lget (i := i) htr hg.2.1.1 hi) rfl rfl ⟨by decide, by decide, by decide, by decide⟩ (Nat.le_of_ble_eq_true rfl) (fun _ _ h => h.elim) (fun v9 ph9 hv9 => ?_)
      obtain ⟨rfl, e9⟩ := hv9
      subst ph9
      refine e_castS hX iX11_rowAt_33 klRX11_79 (rowAt.hp (hg.2.1.2 i hi)) rfl ?_
      refine e_get hX iX11_rowAt_36 (hg.2.1.2 i hi).1 rfl ?_
      exact e_iret hX hQ iX11_rowAt_39 rfl (by decide) (by decide) (hg.oP kx.refl (if_pos h0) (by unfold a_rowAt; rw [ix_n (by omega)]))
    · exact th (fun h => by rw [Bool.and_eq_true, decide_eq_true_eq, decide_eq_true_eq] at h; exact c12 h.2)
def a_isBad (σ : SG) (id : Int32) : Bool := badB (gK σ) (gR σ) (gV σ (fnd σ id))
theorem m_isBad (htr : l.stackTraces = false) (hg : GP θ ph g X σ) (id : Int32) : MC yX11_isBad cX11_isBad 2 (some .boolean) 5 1 6 l θ [.ref g, .int id] ph (oP θ ph g X (k_id σ id) (some (.int (b2i (a_isBad σ id)))) σ) (oX θ ph g X (k_id σ id) [xN] σ) := by
  obtain ⟨κ, te, be, ue, r, wr, b, wb, u, hg⟩ := hg
  refine MC.of htr (by decide) (Nat.le_of_ble_eq_true rfl) ?_
  intro x hX hQ hT
  refine e_aload_n hX 0 iX11_isBad_0 rfl rfl ?_
  refine e_get hX iX11_isBad_1 hg.1 rfl ?_
  refine e_aload_n hX 0 iX11_isBad_4 rfl rfl ?_
  refine e_iload_n hX 1 iX11_isBad_5 rfl rfl ?_
  by_cases h1 : fnd σ id < gN σ
  · refine e_callV hX iX11_isBad_6 hg.1 (c_row0 htr hg h1) rfl rfl ⟨by decide, by decide, by decide, by decide⟩ (Nat.le_of_ble_eq_true rfl) (fun _ _ h => h.elim) (fun v9 ph9 hv9 => ?_)
    obtain ⟨rfl, e9⟩ := hv9
    subst ph9
    refine e_callS hX iX11_isBad_9 (c_breaksSome htr hg.2.2.2.1.1 hg.2.2.2.1.2 (hg.2.1.2 _ h1)) rfl rfl ⟨by decide, by decide, by decide, by decide⟩ (Nat.le_of_ble_eq_true rfl) (fun _ _ h => h.elim) (fun v9 ph9 hv9 => ?_)
    obtain ⟨rfl, e9⟩ := hv9
    subst ph9
    exact e_zret hX hQ iX11_isBad_12 rfl (nar_b _) (by decide) (by decide) (hg.oP kx.refl (if_pos h1) rfl)
  · refine e_callV hX iX11_isBad_6 hg.1 (c_rowX htr hg h1) rfl rfl ⟨by decide, by decide, by decide, by decide⟩ (Nat.le_of_ble_eq_true rfl) (fun E9 ph9 hv9 => ?_) (fun _ _ h => h.elim)
    obtain ⟨rfl, e9⟩ := hv9
    subst ph9
    exact e_out hX hQ hT (by decide) (by decide) (hg.oX 0 (if_neg h1) rfl)
def a_conflict (σ : SG) (id id2 : Int32) : Bool := conB (gK σ) (gR σ) (gV σ (fnd σ id)) (gV σ (fnd σ id2))
theorem m_conflict (htr : l.stackTraces = false) (hg : GP θ ph g X σ) (id id2 : Int32) : MC yX11_conflict cX11_conflict 5 (some .boolean) 5 1 6 l θ [.ref g, .int id, .int id2] ph (oP θ ph g X (k_conf σ id id2) (some (.int (b2i (a_conflict σ id id2)))) σ) (oX θ ph g X (k_conf σ id id2) [xN, xA] σ) := by
  obtain ⟨κ, te, be, ue, r, wr, b, wb, u, hg⟩ := hg
  refine MC.of htr (by decide) (Nat.le_of_ble_eq_true rfl) ?_
  intro x hX hQ hT
  refine e_aload_n hX 0 iX11_conflict_0 rfl rfl ?_
  refine e_iload_n hX 1 iX11_conflict_1 rfl rfl ?_
  by_cases h1 : fnd σ id < gN σ
  · refine e_callV hX iX11_conflict_2 hg.1 (c_row0 htr hg h1) rfl rfl ⟨by decide, by decide, by decide, by decide⟩ (Nat.le_of_ble_eq_true rfl) (fun _ _ h => h.elim) (fun v9 ph9 hv9 => ?_)
    obtain ⟨rfl, e9⟩ := hv9
    subst ph9
    refine e_astore_n hX 3 iX11_conflict_5 rfl (by decide) ?_
    refine e_aload_n hX 0 iX11_conflict_6 rfl rfl ?_
    refine e_iload_n hX 2 iX11_conflict_7 rfl rfl ?_
    by_cases h2 : fnd σ id2 < gN σ
    · refine e_callV hX iX11_conflict_8 hg.1 (c_row0 htr hg h2) rfl rfl ⟨by decide, by decide, by decide, by decide⟩ (Nat.le_of_ble_eq_true rfl) (fun _ _ h => h.elim) (fun v9 ph9 hv9 => ?_)
      obtain ⟨rfl, e9⟩ := hv9
      subst ph9
      refine e_astore hX iX11_conflict_11 (by decide) ?_
      refine e_iload_n hX 1 iX11_conflict_13 rfl rfl ?_
      refine e_iload_n hX 2 iX11_conflict_14 rfl rfl ?_
      refine e_icmp_ne hX iX11_conflict_15 (fun c15 => ?_) (fun c15 => ?_)
      · refine e_aload_n hX 0 iX11_conflict_28 rfl rfl ?_
        refine e_get hX iX11_conflict_29 hg.1 rfl ?_
        refine e_aload_n hX 3 iX11_conflict_32 rfl rfl ?_
        refine e_aload hX iX11_conflict_33 rfl ?_
        refine e_callS hX iX11_conflict_35 (c_clashBySome htr hg.2.2.2.1.1 hg.2.2.2.1.2 (hg.2.1.2 _ h1) (hg.2.1.2 _ h2)) rfl rfl ⟨by decide, by decide, by decide, by decide⟩ (Nat.le_of_ble_eq_true rfl) (fun _ _ h => h.elim) (fun v9 ph9 hv9 => ?_)
        obtain ⟨rfl, e9⟩ := hv9
        subst ph9
        exact e_zret hX hQ iX11_conflict_38 rfl (nar_b _) (by decide) (by decide) (hg.oP kx.refl (((if_pos h1).trans (if_pos h2)).trans (if_neg c15)) rfl)
      · exact e_throw hX iX11_conflict_18 ⟨by decide, Nat.le_of_ble_eq_true rfl, by decide, by decide⟩ (e_out hX hQ hT (by decide) (by decide) (hg.oX 1 (((if_pos h1).trans (if_pos h2)).trans (if_pos c15)) rfl))
    · refine e_callV hX iX11_conflict_8 hg.1 (c_rowX htr hg h2) rfl rfl ⟨by decide, by decide, by decide, by decide⟩ (Nat.le_of_ble_eq_true rfl) (fun E9 ph9 hv9 => ?_) (fun _ _ h => h.elim)
      obtain ⟨rfl, e9⟩ := hv9
      subst ph9
      exact e_out hX hQ hT (by decide) (by decide) (hg.oX 0 ((if_pos h1).trans (if_neg h2)) rfl)
  · refine e_callV hX iX11_conflict_2 hg.1 (c_rowX htr hg h1) rfl rfl ⟨by decide, by decide, by decide, by decide⟩ (Nat.le_of_ble_eq_true rfl) (fun E9 ph9 hv9 => ?_) (fun _ _ h => h.elim)
    obtain ⟨rfl, e9⟩ := hv9
    subst ph9
    exact e_out hX hQ hT (by decide) (by decide) (hg.oX 0 (if_neg h1) rfl)
def vioR (ρ : RU) (v : Nat → Nat → Int32) (k : Nat) : Nat := (if brkR ρ (v k) = true then 1 else 0) + cntB k (fun i => clsR ρ (v k) (v i))
def a_violations (σ : SG) (q : Int32) : Nat := sumN (gN σ) (vioR (gR σ (ix q)) (gV σ))
theorem m_violations (htr : l.stackTraces = false) (hg : GP θ ph g X σ) (q : Int32) : MC yX11_violations cX11_violations 7 (some .int) 4 1 6 l θ [.ref g, .int q] ph (oP θ ph g X (k_rule σ q) (some (.int (nI (a_violations σ q)))) σ) (oX θ ph g X (k_rule σ q) [xB, xS] σ) := by
  obtain ⟨κ, te, be, ue, r, wr, b, wb, u, hg⟩ := hg
  have hn := hg.2.2.2.2.2.2.2.2.1.1
  have hk := hg.2.2.2.2.2.2.2.2.1.2.2.1
  refine MC.of htr (by decide) (Nat.le_of_ble_eq_true rfl) ?_
  intro x hX hQ hT
  refine e_aload_n hX 0 iX11_violations_0 rfl rfl ?_
  refine e_iload_n hX 1 iX11_violations_1 rfl rfl ?_
  by_cases h1 : (decide (0 ≤ q) && decide (q < nI (gK σ))) = true
  · obtain ⟨q', hq', rfl⟩ := (ltB_t (by omega)).mp h1
    by_cases h2 : drR (gR σ q') = true
    · refine e_callV hX iX11_violations_2 hg.1 (c_forceD htr hg hq' h2) rfl rfl ⟨by decide, by decide, by decide, by decide⟩ (Nat.le_of_ble_eq_true rfl) (fun E9 ph9 hv9 => ?_) (fun _ _ h => h.elim)
      obtain ⟨rfl, e9⟩ := hv9
      subst ph9
      exact e_out hX hQ hT (by decide) (by decide) (hg.oX 1 ((if_pos h1).trans (by rw [ix_n (by omega), if_pos h2])) rfl)
    · have h2f : drR (gR σ q') = false := by simpa using h2
      have hρ := hg.2.2.2.1.2 q' hq'
      refine e_callV hX iX11_violations_2 hg.1 (c_force0 htr hg hq' h2f) rfl rfl ⟨by decide, by decide, by decide, by decide⟩ (Nat.le_of_ble_eq_true rfl) (fun _ _ h => h.elim) (fun v9 ph9 hv9 => ?_)
      obtain ⟨rfl, e9⟩ := hv9
      subst ph9
      refine e_astore_n hX 2 iX11_violations_5 rfl (by decide) ?_
      refine e_iconst (v := 0) hX iX11_violations_6 (by decide) ?_
      refine e_istore_n hX 3 iX11_violations_7 rfl (by decide) ?_
      refine e_iconst (v := 0) hX iX11_violations_8 (by decide) ?_
      refine e_istore hX iX11_violations_9 (by decide) ?_
      let G : Nat → Nat := vioR (gR σ q') (gV σ)
      have outer : ∀ (q2 i : Nat), gN σ - i < q2 → i ≤ gN σ → EJ θ x 11 [(0, .ref g), (2, .ref (u q')), (3, .int (nI (sumN i G))), (4, .int (nI i))] [] ph 0 0 := by
        intro q2
        induction q2 with
        | zero => intro i hg; omega
        | succ q2 ih =>
          intro i hq hi
          refine e_iload hX iX11_violations_11 rfl ?_
          refine e_aload_n hX 0 iX11_violations_13 rfl rfl ?_
          refine e_get hX iX11_violations_14 hg.1 rfl ?_
          refine e_callV hX iX11_violations_17 (lst.hp hg.2.1.1) (c_size htr hg.2.1.1) rfl rfl ⟨by decide, by decide, by decide, by decide⟩ (Nat.le_of_ble_eq_true rfl) (fun _ _ h => h.elim) (fun v9 ph9 hv9 => ?_)
          obtain ⟨rfl, e9⟩ := hv9
          subst ph9
          refine e_icmp_ge hX iX11_violations_20 (fun c20 => ?_) (fun c20 => ?_)
          · have hin := nI_same hi (by omega) c20
            refine e_iload_n hX 3 iX11_violations_95 rfl rfl ?_
            exact e_iret hX hQ iX11_violations_96 rfl (by decide) (by decide) (hg.oP kx.refl ((if_pos h1).trans (by rw [ix_n (by omega), if_neg h2])) (by unfold a_violations; rw [ix_n (by omega), ← hin]))
          · have hin := nI_less hi (by omega) c20
            have hri := hg.2.1.2 i hin
            have inner : ∀ (q3 j : Nat) (b0 : Nat), i - j < q3 → j ≤ i → b0 = (if brkR (gR σ q') (gV σ i) = true then 1 else 0) → EJ θ x 52 [(0, .ref g), (2, .ref (u q')), (3, .int (nI (sumN i G + (b0 + cntB j (fun z => clsR (gR σ q') (gV σ i) (gV σ z)))))), (4, .int (nI i)), (5, .ref (r i)), (6, .int (nI j))] [] ph 0 0 := by
              intro q3
              induction q3 with
              | zero => intro j b0 hq3; omega
              | succ q3 ih3 =>
                intro j b0 hq3 hj hb0
                refine e_iload hX iX11_violations_52 rfl ?_
                refine e_iload hX iX11_violations_54 rfl ?_
                refine e_icmp_ge hX iX11_violations_56 (fun c56 => ?_) (fun c56 => ?_)
                · have hji := nI_same hj (by omega) c56
                  subst hji
                  refine e_iinc hX iX11_violations_89 rfl (by first | exact nI_inc _ | rfl) (by decide) ?_
                  refine e_goto hX iX11_violations_92 ?_
                  refine e_loc [0, 2, 3, 4] ?_
                  subst hb0
                  exact ih (j + 1) (by omega) (by omega)
                · have hji := nI_less hj (by omega) c56
                  have hrj := hg.2.1.2 j (by omega)
                  have next : ∀ y, cntB (j + 1) (fun z => clsR (gR σ q') (gV σ i) (gV σ z)) = y → EJ θ x 83 [(0, .ref g), (2, .ref (u q')), (3, .int (nI (sumN i G + (b0 + y)))), (4, .int (nI i)), (5, .ref (r i)), (6, .int (nI j))] [] ph 0 0 := by
                    intro y hy
                    refine e_iinc hX iX11_violations_83 rfl (by first | exact nI_inc _ | rfl) (by decide) ?_
                    refine e_goto hX iX11_violations_86 ?_
                    refine e_loc [0, 2, 3, 4, 5, 6] ?_
                    have := ih3 (j + 1) b0 (by omega) (by omega) hb0
                    rw [hy] at this
                    exact this
                  refine e_aload_n hX 2 iX11_violations_59 rfl rfl ?_
                  refine e_aload hX iX11_violations_60 rfl ?_
                  refine e_aload_n hX 0 iX11_violations_62 rfl rfl ?_
                  refine e_get hX iX11_violations_63 hg.1 rfl ?_
                  refine e_iload hX iX11_violations_66 rfl ?_
                  refine e_callV hX iX11_violations_68 (lst.hp hg.2.1.1) (c_lget (i := j) htr hg.2.1.1 (by omega)) rfl rfl ⟨by decide, by decide, by decide, by decide⟩ (Nat.le_of_ble_eq_true rfl) (fun _ _ h => h.elim) (fun v9 ph9 hv9 => ?_)
                  obtain ⟨rfl, e9⟩ := hv9
                  subst ph9
                  refine e_castS hX iX11_violations_71 klRX11_79 (rowAt.hp hrj) rfl ?_
                  refine e_callCls hX iX11_violations_74_c7 iX11_violations_74_c8 iX11_violations_74_c9 iX11_violations_74_c10 iX11_violations_74_c11 htr hρ hri hrj ⟨by decide, by decide, by decide, by decide⟩ (Nat.le_of_ble_eq_true rfl) ?_
                  refine e_if_eq hX iX11_violations_77 (fun c77 => ?_) (fun c77 => ?_)
                  · refine e_loc [0, 2, 3, 4, 5, 6] ?_
                    exact next _ (cntB_s0 (b2i_0.mp c77))
                  · refine e_iinc hX iX11_violations_80 rfl (by first | exact nI_inc _ | rfl) (by decide) ?_
                    refine e_loc [0, 2, 3, 4, 5, 6] ?_
                    exact next _ (cntB_s1 (b2i_n0.mp c77))
            have cont : ∀ b0, b0 = (if brkR (gR σ q') (gV σ i) = true then 1 else 0) → EJ θ x 49 [(0, .ref g), (2, .ref (u q')), (3, .int (nI (sumN i G + b0))), (4, .int (nI i)), (5, .ref (r i))] [] ph 0 0 := by
              intro b0 hb0
              refine e_iconst (v := 0) hX iX11_violations_49 (by decide) ?_
              refine e_istore hX iX11_violations_50 (by decide) ?_
              refine e_loc [0, 2, 3, 4, 5, 6] ?_
              exact inner (i + 1) 0 b0 (by omega) (by omega) hb0
            refine e_aload_n hX 0 iX11_violations_23 rfl rfl ?_
            refine e_get hX iX11_violations_24 hg.1 rfl ?_
            refine e_iload hX iX11_violations_27 rfl ?_
            refine e_callV hX iX11_violations_29 (lst.hp hg.2.1.1) (c_lget (i := i) htr hg.2.1.1 hin) rfl rfl ⟨by decide, by decide, by decide, by decide⟩ (Nat.le_of_ble_eq_true rfl) (fun _ _ h => h.elim) (fun v9 ph9 hv9 => ?_)
            obtain ⟨rfl, e9⟩ := hv9
            subst ph9
            refine e_castS hX iX11_violations_32 klRX11_79 (rowAt.hp hri) rfl ?_
            refine e_astore hX iX11_violations_35 (by decide) ?_
            refine e_aload_n hX 2 iX11_violations_37 rfl rfl ?_
            refine e_aload hX iX11_violations_38 rfl ?_
            refine e_callBrk hX iX11_violations_40_c7 iX11_violations_40_c8 iX11_violations_40_c9 iX11_violations_40_c10 iX11_violations_40_c11 htr hρ hri ⟨by decide, by decide, by decide, by decide⟩ (Nat.le_of_ble_eq_true rfl) ?_
            refine e_if_eq hX iX11_violations_43 (fun c43 => ?_) (fun c43 => ?_)
            · refine e_loc [0, 2, 3, 4, 5] ?_
              exact cont 0 (by rw [if_neg (by rw [b2i_0.mp c43]; decide)])
            · refine e_iinc hX iX11_violations_46 rfl (by first | exact nI_inc _ | rfl) (by decide) ?_
              refine e_loc [0, 2, 3, 4, 5] ?_
              exact cont 1 (by rw [if_pos (b2i_n0.mp c43)])
      refine e_loc [0, 2, 3, 4] ?_
      exact outer (gN σ + 1) 0 (by omega) (by omega)
  · refine e_callV hX iX11_violations_2 hg.1 (c_forceX htr hg (fun h => h1 ((ltB_t (by omega)).mpr h))) rfl rfl ⟨by decide, by decide, by decide, by decide⟩ (Nat.le_of_ble_eq_true rfl) (fun E9 ph9 hv9 => ?_) (fun _ _ h => h.elim)
    obtain ⟨rfl, e9⟩ := hv9
    subst ph9
    exact e_out hX hQ hT (by decide) (by decide) (hg.oX 0 (if_neg h1) rfl)
end GPS
