def rchN (σ : SG) (i : Nat) : Nat := itN (conM (gN σ) (gK σ) (gR σ) (gV σ)) (gN σ) (gN σ) (2 ^ i)
def seenN (σ : SG) : Nat → Nat
  | 0 => 0
  | i + 1 => if (seenN σ i).testBit i = true then seenN σ i else seenN σ i ||| rchN σ i
def a_groups (σ : SG) : Nat := cntB (gN σ) (fun i => !(seenN σ i).testBit i)
theorem passN_lt {M : Nat → Nat} {n : Nat} (hM : ∀ i, i < n → M i < 2 ^ 12) : ∀ i S, i ≤ n → S < 2 ^ 12 → passN M i S < 2 ^ 12
  | 0, S, _, h => h
  | i + 1, S, hi, h => by
    have h1 := passN_lt hM i S (by omega) h
    unfold passN
    split
    · exact lor_lt h1 (hM i (by omega))
    · exact h1
theorem itN_lt {M : Nat → Nat} {n : Nat} (hM : ∀ i, i < n → M i < 2 ^ 12) : ∀ r S, S < 2 ^ 12 → itN M n r S < 2 ^ 12
  | 0, S, h => h
  | r + 1, S, h => passN_lt hM n _ (Nat.le_refl _) (itN_lt hM r S h)
theorem rchN_lt {σ : SG} (hn : gN σ ≤ 12) {i : Nat} (hi : i < gN σ) : rchN σ i < 2 ^ 12 := itN_lt (fun _ _ => maskN_12 hn) _ _ (pow_lt12 (by omega))
def a_few (σ : SG) : Nat := popN (bstN σ)
def repS (σ : SG) (k : Nat) : Bool := repN (gN σ) (badM (gN σ) (gK σ) (gR σ) (gV σ)) (conM (gN σ) (gK σ) (gR σ) (gV σ)) k
def tryN (σ : SG) : Nat → Nat
  | 0 => gN σ
  | k + 1 => if (decide (popN k < tryN σ k) && repS σ k) = true then popN k else tryN σ k
theorem tryN_le {σ : SG} : ∀ k, tryN σ k ≤ gN σ
  | 0 => Nat.le_refl _
  | k + 1 => by
    have := tryN_le (σ := σ) k
    unfold tryN
    split
    · rename_i h
      rw [Bool.and_eq_true, decide_eq_true_eq] at h
      omega
    · exact this
def k_det (s c : Int32) : Nat := if setB s = true then (if colB c = true then 0 else 2) else 1
def k_col (c : Int32) : Nat := if colB c = true then 0 else 1
def k_set (s : Int32) : Nat := if setB s = true then 0 else 1
def a_det (σ : SG) (s c : Int32) : Bool := detB σ (ix s) (ix c)
def minM (σ : SG) (c : Nat) : Nat := minK (fun s => detB σ s c) 192
def detM (σ : SG) (c : Nat) : Nat := maskN 32 (fun s => detB σ s c)
def a_minT (σ : SG) (c : Nat) : Nat := cntB 32 (fun s => (detM σ c).testBit s && !holdB s (detM σ c))
/-- the set at a place in the order by size and number -/
def sioK (f : Nat → Bool) (q : Nat) : Nat := lowG (fun k => hitB f k && decide (cntB k (hitB f) = q)) 192 0
def sioN (f : Nat → Bool) (q : Nat) : Int32 := if sioK f q < 192 then nI (sioK f q % 32) else -1
theorem cntB_mono2 {f : Nat → Bool} {a : Nat} : ∀ {b : Nat}, a ≤ b → cntB a f ≤ cntB b f
  | 0, h => by have : a = 0 := by omega
               subst this; exact Nat.le_refl _
  | b + 1, h => by
    by_cases e : a = b + 1
    · subst e; exact Nat.le_refl _
    · exact Nat.le_trans (cntB_mono2 (b := b) (by omega)) (Nat.le_add_right _ _)
theorem sioK_u {f : Nat → Bool} {q k : Nat} (hk : k < 192) (h : hitB f k = true) (hc : cntB k (hitB f) = q) : sioK f q = k := by
  have L := lowG_n (P := fun k => hitB f k && decide (cntB k (hitB f) = q)) 192 0
  have e : lowG (fun k => hitB f k && decide (cntB k (hitB f) = q)) 192 0 = sioK f q := rfl
  rw [e] at L
  rcases Nat.lt_trichotomy (sioK f q) k with c | c | c
  · have h1 := L.2.2.1 (by omega)
    simp only [Bool.and_eq_true, decide_eq_true_eq] at h1
    have h2 := cntB_mono2 (f := hitB f) (a := sioK f q + 1) (b := k) (by omega)
    rw [cntB_s1 h1.1] at h2
    omega
  · exact c
  · have h1 := L.2.2.2 k (Nat.zero_le k) c
    rw [h, hc, decide_eq_true rfl] at h1
    cases h1
theorem sioK_n {f : Nat → Bool} {q : Nat} (h : ∀ k, k < 192 → ¬ (hitB f k = true ∧ cntB k (hitB f) = q)) : ¬ sioK f q < 192 := fun hl => by
  have L := (lowG_n (P := fun k => hitB f k && decide (cntB k (hitB f) = q)) 192 0).2.2.1 (by rw [Nat.zero_add]; exact hl)
  simp only [Bool.and_eq_true, decide_eq_true_eq] at L
  exact h _ hl L
theorem sio_eq {f : Nat → Bool} {q : Nat} {z : Option Value} (h : (∃ k, k < 192 ∧ hitB f k = true ∧ cntB k (hitB f) = q ∧ z = some (.int (nI (k % 32)))) ∨ ((∀ k, k < 192 → ¬ (hitB f k = true ∧ cntB k (hitB f) = q)) ∧ z = some (.int (-1)))) : z = some (.int (sioN f q)) := by
  unfold sioN
  rcases h with ⟨k, hk, h1, h2, h3⟩ | ⟨h1, h2⟩
  · rw [sioK_u hk h1 h2, if_pos hk]; exact h3
  · rw [if_neg (sioK_n h1)]; exact h2
def k_minAt (σ : SG) (c q : Int32) : Nat := if colB c = true then (if (decide (0 ≤ q) && decide (q < nI (pop32 (minM σ (ix c))))) = true then 0 else 1) else 1
def a_minAt (σ : SG) (c q : Int32) : Int32 := sioN (fun i => (minM σ (ix c)).testBit i) (ix q)
def a_clos (σ : SG) (s : Nat) : Nat := s ||| maskN 5 (fun c => detB σ s c)
def keyM (σ : SG) : Nat := maskN 32 (fun s => keyB (nI s) (gN σ) (gV σ))
def k_sk (σ : SG) : Nat := if keyM σ = 0 then 1 else 0
def a_sk (σ : SG) : Int32 := sioN (fun i => (keyM σ).testBit i) 0
def k_err (s c : Int32) : Nat := if colB c = true then (if (setB s && !(ix s).testBit (ix c)) = true then 0 else 2) else 1
section GPT
variable {l : Launch} {θ : e_T} {ph : e_PH} {g : Nat} {X : Nat → Prop} {σ : SG}
theorem m_groups (htr : l.stackTraces = false) (hg : GP θ ph g X σ) : MC yX11_groups cX11_groups 4 (some .int) 5 0 0 l θ [.ref g] ph (oP θ ph g X 0 (some (.int (nI (a_groups σ)))) σ) (fun _ _ => False) := by
  obtain ⟨κ, te, be, ue, r, wr, b, wb, u, hg⟩ := hg
  have hn := hg.2.2.2.2.2.2.2.2.1.1
  refine MC.of htr (by decide) (Nat.le_of_ble_eq_true rfl) ?_
  intro x hX hQ hT
  refine e_aload_n hX 0 iX11_groups_0 rfl rfl ?_
  refine e_get hX iX11_groups_1 hg.1 rfl ?_
  refine e_aload_n hX 0 iX11_groups_4 rfl rfl ?_
  refine e_get hX iX11_groups_5 hg.1 rfl ?_
  refine e_aload_n hX 0 iX11_groups_8 rfl rfl ?_
  refine e_get hX iX11_groups_9 hg.1 rfl ?_
  obtain ⟨⟨a1, b1, f1, j1, j2⟩, -⟩ := hg.2.2.2.2.2.1
  refine e_callV hX iX11_groups_12 j1 (c_find htr j1 j2 hg.2.1.1 hg.rws hn hg.2.2.2.1.1 hg.2.2.2.1.2) rfl rfl ⟨by decide, by decide, by decide, by decide⟩ (Nat.le_of_ble_eq_true rfl) (fun _ _ h => h.elim) (fun v9 ph9 hv9 => ?_)
  obtain ⟨rfl, e1, e2⟩ := hv9
  obtain ⟨hg2, hx⟩ := hg.find e2 e1
  let P : Nat → Bool := fun i => !(seenN σ i).testBit i
  have loop : ∀ (q i : Nat), gN σ - i < q → i ≤ gN σ → EJ θ x 21 [(0, .ref g), (1, .int (nI (seenN σ i))), (2, .int (nI (cntB i P))), (3, .int (nI i))] [] ph9 0 0 := by
    intro q
    induction q with
    | zero => intro i hg; omega
    | succ q ih =>
      intro i hq hi
      have next : ∀ y z, seenN σ (i + 1) = y → cntB (i + 1) P = z → i < gN σ → EJ θ x 54 [(0, .ref g), (1, .int (nI y)), (2, .int (nI z)), (3, .int (nI i))] [] ph9 0 0 := by
        intro y z hy hz hin
        refine e_iinc hX iX11_groups_54 rfl (by first | exact nI_inc _ | rfl) (by decide) ?_
        refine e_goto hX iX11_groups_57 ?_
        refine e_loc [0, 1, 2, 3] ?_
        have := ih (i + 1) (by omega) (by omega)
        rw [hy, hz] at this
        exact this
      refine e_iload_n hX 3 iX11_groups_21 rfl rfl ?_
      refine e_aload_n hX 0 iX11_groups_22 rfl rfl ?_
      refine e_get hX iX11_groups_23 hg2.1 rfl ?_
      refine e_callV hX iX11_groups_26 (lst.hp hg2.2.1.1) (c_size htr hg2.2.1.1) rfl rfl ⟨by decide, by decide, by decide, by decide⟩ (Nat.le_of_ble_eq_true rfl) (fun _ _ h => h.elim) (fun v9 ph9 hv9 => ?_)
      obtain ⟨rfl, e9⟩ := hv9
      subst ph9
      refine e_icmp_ge hX iX11_groups_29 (fun c29 => ?_) (fun c29 => ?_)
      · have hin := nI_same hi (by omega) c29
        subst hin
        refine e_iload_n hX 2 iX11_groups_60 rfl rfl ?_
        exact e_iret hX hQ iX11_groups_61 rfl (by decide) (by decide) (hg2.oP hx rfl rfl)
      · have hin := nI_less hi (by omega) c29
        refine e_iload_n hX 3 iX11_groups_32 rfl rfl ?_
        refine e_iload_n hX 1 iX11_groups_33 rfl rfl ?_
        refine e_callS hX iX11_groups_34 (c_isIn htr i (nI (seenN σ i))) rfl rfl ⟨by decide, by decide, by decide, by decide⟩ (Nat.le_of_ble_eq_true rfl) (fun _ _ h => h.elim) (fun v9 ph9 hv9 => ?_)
        obtain ⟨rfl, e9⟩ := hv9
        subst ph9
        rw [sb_n _ (show i < 32 by omega)]
        refine e_if_ne hX iX11_groups_37 (fun c37 => ?_) (fun c37 => ?_)
        · have c := b2i_n0.mp c37
          refine e_loc [0, 1, 2, 3] ?_
          exact next _ _ (if_pos c) (cntB_s0 (show (!(seenN σ i).testBit i) = false by rw [c]; rfl)) hin
        · have c := b2i_0.mp c37
          refine e_iload_n hX 1 iX11_groups_40 rfl rfl ?_
          refine e_aload_n hX 0 iX11_groups_41 rfl rfl ?_
          refine e_get hX iX11_groups_42 hg2.1 rfl ?_
          refine e_iload_n hX 3 iX11_groups_45 rfl rfl ?_
          refine e_callV hX iX11_groups_46 e1.1 (c_reached htr e1 hin) rfl rfl ⟨by decide, by decide, by decide, by decide⟩ (Nat.le_of_ble_eq_true rfl) (fun _ _ h => h.elim) (fun v9 ph9 hv9 => ?_)
          obtain ⟨rfl, e9⟩ := hv9
          subst ph9
          refine e_ior hX iX11_groups_49 ?_
          rw [nI_or]
          refine e_istore_n hX 1 iX11_groups_50 rfl (by decide) ?_
          refine e_iinc hX iX11_groups_51 rfl (by first | exact nI_inc _ | rfl) (by decide) ?_
          refine e_loc [0, 1, 2, 3] ?_
          exact next _ _ (if_neg (by rw [c]; decide)) (cntB_s1 (show (!(seenN σ i).testBit i) = true by rw [c]; rfl)) hin
  refine e_iconst (v := 0) hX iX11_groups_15 (by decide) ?_
  refine e_istore_n hX 1 iX11_groups_16 rfl (by decide) ?_
  refine e_iconst (v := 0) hX iX11_groups_17 (by decide) ?_
  refine e_istore_n hX 2 iX11_groups_18 rfl (by decide) ?_
  refine e_iconst (v := 0) hX iX11_groups_19 (by decide) ?_
  refine e_istore_n hX 3 iX11_groups_20 rfl (by decide) ?_
  refine e_loc [0, 1, 2, 3] ?_
  exact loop (gN σ + 1) 0 (by omega) (by omega)
theorem m_groupSize (htr : l.stackTraces = false) (hg : GP θ ph g X σ) (id : Int32) : MC yX11_groupSize cX11_groupSize 3 (some .int) 5 1 6 l θ [.ref g, .int id] ph (oP θ ph g X (k_id σ id) (some (.int (nI (popN (rchN σ (fnd σ id)))))) σ) (oX θ ph g X (k_id σ id) [xN] σ) := by
  obtain ⟨κ, te, be, ue, r, wr, b, wb, u, hg⟩ := hg
  have hn := hg.2.2.2.2.2.2.2.2.1.1
  refine MC.of htr (by decide) (Nat.le_of_ble_eq_true rfl) ?_
  intro x hX hQ hT
  refine e_aload_n hX 0 iX11_groupSize_0 rfl rfl ?_
  refine e_iload_n hX 1 iX11_groupSize_1 rfl rfl ?_
  by_cases h1 : fnd σ id < gN σ
  · refine e_callV hX iX11_groupSize_2 hg.1 (c_pos0 htr hg h1) rfl rfl ⟨by decide, by decide, by decide, by decide⟩ (Nat.le_of_ble_eq_true rfl) (fun _ _ h => h.elim) (fun v9 ph9 hv9 => ?_)
    obtain ⟨rfl, e9⟩ := hv9
    subst ph9
    refine e_istore_n hX 2 iX11_groupSize_5 rfl (by decide) ?_
    refine e_aload_n hX 0 iX11_groupSize_6 rfl rfl ?_
    refine e_get hX iX11_groupSize_7 hg.1 rfl ?_
    refine e_aload_n hX 0 iX11_groupSize_10 rfl rfl ?_
    refine e_get hX iX11_groupSize_11 hg.1 rfl ?_
    refine e_aload_n hX 0 iX11_groupSize_14 rfl rfl ?_
    refine e_get hX iX11_groupSize_15 hg.1 rfl ?_
    obtain ⟨⟨a1, b1, f1, j1, j2⟩, -⟩ := hg.2.2.2.2.2.1
    refine e_callV hX iX11_groupSize_18 j1 (c_find htr j1 j2 hg.2.1.1 hg.rws hn hg.2.2.2.1.1 hg.2.2.2.1.2) rfl rfl ⟨by decide, by decide, by decide, by decide⟩ (Nat.le_of_ble_eq_true rfl) (fun _ _ h => h.elim) (fun v9 ph9 hv9 => ?_)
    obtain ⟨rfl, e1, e2⟩ := hv9
    obtain ⟨hg2, hx⟩ := hg.find e2 e1
    refine e_aload_n hX 0 iX11_groupSize_21 rfl rfl ?_
    refine e_get hX iX11_groupSize_22 hg2.1 rfl ?_
    refine e_iload_n hX 2 iX11_groupSize_25 rfl rfl ?_
    refine e_callV hX iX11_groupSize_26 e1.1 (c_reached htr e1 h1) rfl rfl ⟨by decide, by decide, by decide, by decide⟩ (Nat.le_of_ble_eq_true rfl) (fun _ _ h => h.elim) (fun v9 ph9 hv9 => ?_)
    obtain ⟨rfl, e9⟩ := hv9
    subst ph9
    refine e_callS hX iX11_groupSize_29 (c_bitCount htr (rchN_lt hn h1)) rfl rfl ⟨by decide, by decide, by decide, by decide⟩ (Nat.le_of_ble_eq_true rfl) (fun _ _ h => h.elim) (fun v9 ph9 hv9 => ?_)
    obtain ⟨rfl, e9⟩ := hv9
    subst ph9
    exact e_iret hX hQ iX11_groupSize_32 rfl (by decide) (by decide) (hg2.oP hx (if_pos h1) rfl)
  · refine e_callV hX iX11_groupSize_2 hg.1 (c_posX htr hg h1) rfl rfl ⟨by decide, by decide, by decide, by decide⟩ (Nat.le_of_ble_eq_true rfl) (fun E9 ph9 hv9 => ?_) (fun _ _ h => h.elim)
    obtain ⟨rfl, e9⟩ := hv9
    subst ph9
    exact e_out hX hQ hT (by decide) (by decide) (hg.oX 0 (if_neg h1) rfl)
theorem m_fewest (htr : l.stackTraces = false) (hg : GP θ ph g X σ) : MC yX11_fewestRemovals cX11_fewestRemovals 1 (some .int) 16 0 0 l θ [.ref g] ph (oP θ ph g X 0 (some (.int (nI (a_few σ)))) σ) (fun _ _ => False) := by
  obtain ⟨κ, te, be, ue, r, wr, b, wb, u, hg⟩ := hg
  have hn := hg.2.2.2.2.2.2.2.2.1.1
  refine MC.of htr (by decide) (Nat.le_of_ble_eq_true rfl) ?_
  intro x hX hQ hT
  refine e_aload_n hX 0 iX11_fewestRemovals_0 rfl rfl ?_
  refine e_callV hX iX11_fewestRemovals_1 hg.1 (c_bestRepair htr hg) rfl rfl ⟨by decide, by decide, by decide, by decide⟩ (Nat.le_of_ble_eq_true rfl) (fun _ _ h => h.elim) (fun v9 ph9 hv9 => ?_)
  obtain ⟨rfl, hg2, hx⟩ := hv9
  refine e_callS hX iX11_fewestRemovals_4 (c_bitCount htr (bstN_lt hn)) rfl rfl ⟨by decide, by decide, by decide, by decide⟩ (Nat.le_of_ble_eq_true rfl) (fun _ _ h => h.elim) (fun v9 ph9 hv9 => ?_)
  obtain ⟨rfl, e9⟩ := hv9
  subst ph9
  exact e_iret hX hQ iX11_fewestRemovals_7 rfl (by decide) (by decide) (hg2.oP hx rfl rfl)
theorem m_fewestT (htr : l.stackTraces = false) (hg : GP θ ph g X σ) : MC yX11_fewestRemovalsByTrying cX11_fewestRemovalsByTrying 3 (some .int) 5 0 0 l θ [.ref g] ph (oP θ ph g X 0 (some (.int (nI (tryN σ (2 ^ gN σ))))) σ) (fun _ _ => False) := by
  obtain ⟨κ, te, be, ue, r, wr, b, wb, u, hg⟩ := hg
  have hn := hg.2.2.2.2.2.2.2.2.1.1
  have hp2 := Nat.pow_le_pow_right (n := 2) (by decide) hn
  have hp1 := Nat.two_pow_pos (gN σ)
  refine MC.of htr (by decide) (Nat.le_of_ble_eq_true rfl) ?_
  intro x hX hQ hT
  refine e_aload_n hX 0 iX11_fewestRemovalsByTrying_0 rfl rfl ?_
  refine e_get hX iX11_fewestRemovalsByTrying_1 hg.1 rfl ?_
  refine e_aload_n hX 0 iX11_fewestRemovalsByTrying_4 rfl rfl ?_
  refine e_get hX iX11_fewestRemovalsByTrying_5 hg.1 rfl ?_
  refine e_aload_n hX 0 iX11_fewestRemovalsByTrying_8 rfl rfl ?_
  refine e_get hX iX11_fewestRemovalsByTrying_9 hg.1 rfl ?_
  obtain ⟨⟨a1, b1, f1, j1, j2⟩, -⟩ := hg.2.2.2.2.2.1
  refine e_callV hX iX11_fewestRemovalsByTrying_12 j1 (c_find htr j1 j2 hg.2.1.1 hg.rws hn hg.2.2.2.1.1 hg.2.2.2.1.2) rfl rfl ⟨by decide, by decide, by decide, by decide⟩ (Nat.le_of_ble_eq_true rfl) (fun _ _ h => h.elim) (fun v9 ph9 hv9 => ?_)
  obtain ⟨rfl, e1, e2⟩ := hv9
  obtain ⟨hg2, hx⟩ := hg.find e2 e1
  have loop : ∀ (q i : Nat), 2 ^ gN σ - i < q → i ≤ 2 ^ gN σ → EJ θ x 25 [(0, .ref g), (1, .int (nI (tryN σ i))), (2, .int (nI i))] [] ph9 0 0 := by
    intro q
    induction q with
    | zero => intro i hg; omega
    | succ q ih =>
      intro i hq hi
      have next : ∀ y, tryN σ (i + 1) = y → i < 2 ^ gN σ → EJ θ x 60 [(0, .ref g), (1, .int (nI y)), (2, .int (nI i))] [] ph9 0 0 := by
        intro y hy hin
        refine e_iinc hX iX11_fewestRemovalsByTrying_60 rfl (by first | exact nI_inc _ | rfl) (by decide) ?_
        refine e_goto hX iX11_fewestRemovalsByTrying_63 ?_
        refine e_loc [0, 1, 2] ?_
        have := ih (i + 1) (by omega) (by omega)
        rw [hy] at this
        exact this
      have ht := tryN_le (σ := σ) i
      refine e_iload_n hX 2 iX11_fewestRemovalsByTrying_25 rfl rfl ?_
      refine e_aload_n hX 0 iX11_fewestRemovalsByTrying_26 rfl rfl ?_
      refine e_get hX iX11_fewestRemovalsByTrying_27 hg2.1 rfl ?_
      refine e_callV hX iX11_fewestRemovalsByTrying_30 e1.1 (c_everyRow htr e1) rfl rfl ⟨by decide, by decide, by decide, by decide⟩ (Nat.le_of_ble_eq_true rfl) (fun _ _ h => h.elim) (fun v9 ph9 hv9 => ?_)
      obtain ⟨rfl, e9⟩ := hv9
      subst ph9
      refine e_icmp_gt hX iX11_fewestRemovalsByTrying_33 (fun c33 => ?_) (fun c33 => ?_)
      · have hin : i = 2 ^ gN σ := by
          rcases Nat.lt_or_ge i (2 ^ gN σ) with h | h
          · exact absurd c33 (nI_nlt (by omega) (by omega))
          · omega
        subst hin
        refine e_iload_n hX 1 iX11_fewestRemovalsByTrying_66 rfl rfl ?_
        exact e_iret hX hQ iX11_fewestRemovalsByTrying_67 rfl (by decide) (by decide) (hg2.oP hx rfl rfl)
      · have hin : i < 2 ^ gN σ := by
          rcases Nat.lt_or_ge i (2 ^ gN σ) with h | h
          · exact h
          · exact absurd (nI_lt (by omega) (by omega)) c33
        have hpn : popN i ≤ 12 := cntB_le _ _
        refine e_iload_n hX 2 iX11_fewestRemovalsByTrying_36 rfl rfl ?_
        refine e_callS hX iX11_fewestRemovalsByTrying_37 (c_bitCount htr (show i < 2 ^ 12 by omega)) rfl rfl ⟨by decide, by decide, by decide, by decide⟩ (Nat.le_of_ble_eq_true rfl) (fun _ _ h => h.elim) (fun v9 ph9 hv9 => ?_)
        obtain ⟨rfl, e9⟩ := hv9
        subst ph9
        refine e_iload_n hX 1 iX11_fewestRemovalsByTrying_40 rfl rfl ?_
        refine e_icmp_ge hX iX11_fewestRemovalsByTrying_41 (fun c41 => ?_) (fun c41 => ?_)
        · refine e_loc [0, 1, 2] ?_
          exact next _ (if_neg (by
            rw [decide_eq_false (fun h => absurd c41 (nI_ge h (by omega)))]; exact fun h => Bool.noConfusion h)) hin
        · have c := (nI_ltI (by omega) (by omega)).mp (Int32.not_le.mp c41)
          refine e_aload_n hX 0 iX11_fewestRemovalsByTrying_44 rfl rfl ?_
          refine e_get hX iX11_fewestRemovalsByTrying_45 hg2.1 rfl ?_
          refine e_iload_n hX 2 iX11_fewestRemovalsByTrying_48 rfl rfl ?_
          refine e_callV hX iX11_fewestRemovalsByTrying_49 e1.1 (c_isRep htr e1 i) rfl rfl ⟨by decide, by decide, by decide, by decide⟩ (Nat.le_of_ble_eq_true rfl) (fun _ _ h => h.elim) (fun v9 ph9 hv9 => ?_)
          obtain ⟨rfl, e9⟩ := hv9
          subst ph9
          refine e_if_eq hX iX11_fewestRemovalsByTrying_52 (fun c52 => ?_) (fun c52 => ?_)
          · refine e_loc [0, 1, 2] ?_
            exact next _ (if_neg (by
              rw [show repS σ i = false from b2i_0.mp c52, Bool.and_false]; decide)) hin
          · refine e_iload_n hX 2 iX11_fewestRemovalsByTrying_55 rfl rfl ?_
            refine e_callS hX iX11_fewestRemovalsByTrying_56 (c_bitCount htr (show i < 2 ^ 12 by omega)) rfl rfl ⟨by decide, by decide, by decide, by decide⟩ (Nat.le_of_ble_eq_true rfl) (fun _ _ h => h.elim) (fun v9 ph9 hv9 => ?_)
            obtain ⟨rfl, e9⟩ := hv9
            subst ph9
            refine e_istore_n hX 1 iX11_fewestRemovalsByTrying_59 rfl (by decide) ?_
            refine e_loc [0, 1, 2] ?_
            exact next _ (if_pos (by rw [decide_eq_true c, show repS σ i = true from b2i_n0.mp c52]; rfl)) hin
  refine e_aload_n hX 0 iX11_fewestRemovalsByTrying_15 rfl rfl ?_
  refine e_get hX iX11_fewestRemovalsByTrying_16 hg2.1 rfl ?_
  refine e_get hX iX11_fewestRemovalsByTrying_19 e1.1 rfl ?_
  refine e_istore_n hX 1 iX11_fewestRemovalsByTrying_22 rfl (by decide) ?_
  refine e_iconst (v := 0) hX iX11_fewestRemovalsByTrying_23 (by decide) ?_
  refine e_istore_n hX 2 iX11_fewestRemovalsByTrying_24 rfl (by decide) ?_
  refine e_loc [0, 1, 2] ?_
  exact loop (2 ^ gN σ + 1) 0 (by omega) (by omega)
theorem m_isInRepair (htr : l.stackTraces = false) (hg : GP θ ph g X σ) (id : Int32) : MC yX11_isInRepair cX11_isInRepair 3 (some .boolean) 16 1 6 l θ [.ref g, .int id] ph (oP θ ph g X (k_id σ id) (some (.int (b2i ((bstN σ).testBit (fnd σ id))))) σ) (oX θ ph g X (k_id σ id) [xN] σ) := by
  obtain ⟨κ, te, be, ue, r, wr, b, wb, u, hg⟩ := hg
  have hn := hg.2.2.2.2.2.2.2.2.1.1
  refine MC.of htr (by decide) (Nat.le_of_ble_eq_true rfl) ?_
  intro x hX hQ hT
  refine e_aload_n hX 0 iX11_isInRepair_0 rfl rfl ?_
  refine e_iload_n hX 1 iX11_isInRepair_1 rfl rfl ?_
  by_cases h1 : fnd σ id < gN σ
  · refine e_callV hX iX11_isInRepair_2 hg.1 (c_pos0 htr hg h1) rfl rfl ⟨by decide, by decide, by decide, by decide⟩ (Nat.le_of_ble_eq_true rfl) (fun _ _ h => h.elim) (fun v9 ph9 hv9 => ?_)
    obtain ⟨rfl, e9⟩ := hv9
    subst ph9
    refine e_istore_n hX 2 iX11_isInRepair_5 rfl (by decide) ?_
    refine e_iload_n hX 2 iX11_isInRepair_6 rfl rfl ?_
    refine e_aload_n hX 0 iX11_isInRepair_7 rfl rfl ?_
    refine e_callV hX iX11_isInRepair_8 hg.1 (c_bestRepair htr hg) rfl rfl ⟨by decide, by decide, by decide, by decide⟩ (Nat.le_of_ble_eq_true rfl) (fun _ _ h => h.elim) (fun v9 ph9 hv9 => ?_)
    obtain ⟨rfl, hg2, hx⟩ := hv9
    refine e_callS hX iX11_isInRepair_11 (c_isIn htr (fnd σ id) (nI (bstN σ))) rfl rfl ⟨by decide, by decide, by decide, by decide⟩ (Nat.le_of_ble_eq_true rfl) (fun _ _ h => h.elim) (fun v9 ph9 hv9 => ?_)
    obtain ⟨rfl, e9⟩ := hv9
    subst ph9
    rw [sb_n _ (show fnd σ id < 32 by omega)]
    exact e_zret hX hQ iX11_isInRepair_14 rfl (nar_b _) (by decide) (by decide) (hg2.oP hx (if_pos h1) rfl)
  · refine e_callV hX iX11_isInRepair_2 hg.1 (c_posX htr hg h1) rfl rfl ⟨by decide, by decide, by decide, by decide⟩ (Nat.le_of_ble_eq_true rfl) (fun E9 ph9 hv9 => ?_) (fun _ _ h => h.elim)
    obtain ⟨rfl, e9⟩ := hv9
    subst ph9
    exact e_out hX hQ hT (by decide) (by decide) (hg.oX 0 (if_neg h1) rfl)
theorem m_determines (htr : l.stackTraces = false) (hg : GP θ ph g X σ) (s c : Int32) : MC yX11_determines cX11_determines 3 (some .boolean) 5 1 6 l θ [.ref g, .int s, .int c] ph (oP θ ph g X (k_det s c) (some (.int (b2i (a_det σ s c)))) σ) (oX θ ph g X (k_det s c) [xA, xB] σ) := by
  obtain ⟨κ, te, be, ue, r, wr, b, wb, u, hg⟩ := hg
  refine MC.of htr (by decide) (Nat.le_of_ble_eq_true rfl) ?_
  intro x hX hQ hT
  refine e_iload_n hX 1 iX11_determines_0 rfl rfl ?_
  by_cases h1 : setB s = true
  · obtain ⟨s', hs', rfl⟩ := setB_t.mp h1
    refine e_callS hX iX11_determines_1 (c_needSet0 htr hs') rfl rfl ⟨by decide, by decide, by decide, by decide⟩ (Nat.le_of_ble_eq_true rfl) (fun _ _ h => h.elim) (fun v9 ph9 hv9 => ?_)
    obtain ⟨rfl, e9⟩ := hv9
    subst ph9
    refine e_iload_n hX 2 iX11_determines_4 rfl rfl ?_
    by_cases h2 : colB c = true
    · obtain ⟨c', hc', rfl⟩ := colB_t.mp h2
      refine e_callS hX iX11_determines_5 (c_needCol0 htr hc') rfl rfl ⟨by decide, by decide, by decide, by decide⟩ (Nat.le_of_ble_eq_true rfl) (fun _ _ h => h.elim) (fun v9 ph9 hv9 => ?_)
      obtain ⟨rfl, e9⟩ := hv9
      subst ph9
      refine e_aload_n hX 0 iX11_determines_8 rfl rfl ?_
      refine e_iload_n hX 1 iX11_determines_9 rfl rfl ?_
      refine e_iload_n hX 2 iX11_determines_10 rfl rfl ?_
      refine e_callV hX iX11_determines_11 hg.1 (c_detC htr hg hs' hc') rfl rfl ⟨by decide, by decide, by decide, by decide⟩ (Nat.le_of_ble_eq_true rfl) (fun _ _ h => h.elim) (fun v9 ph9 hv9 => ?_)
      obtain ⟨rfl, hg2, hx⟩ := hv9
      exact e_zret hX hQ iX11_determines_14 rfl (nar_b _) (by decide) (by decide) (hg2.oP hx ((if_pos h1).trans (if_pos h2)) (by unfold a_det; rw [ix_n (by omega), ix_n (by omega)]))
    · refine e_callS hX iX11_determines_5 (c_needColX htr (colB_f h2)) rfl rfl ⟨by decide, by decide, by decide, by decide⟩ (Nat.le_of_ble_eq_true rfl) (fun E9 ph9 hv9 => ?_) (fun _ _ h => h.elim)
      obtain ⟨rfl, e9⟩ := hv9
      subst ph9
      exact e_out hX hQ hT (by decide) (by decide) (hg.oX 1 ((if_pos h1).trans (if_neg h2)) rfl)
  · refine e_callS hX iX11_determines_1 (c_needSetX htr (setB_f h1)) rfl rfl ⟨by decide, by decide, by decide, by decide⟩ (Nat.le_of_ble_eq_true rfl) (fun E9 ph9 hv9 => ?_) (fun _ _ h => h.elim)
    obtain ⟨rfl, e9⟩ := hv9
    subst ph9
    exact e_out hX hQ hT (by decide) (by decide) (hg.oX 0 (if_neg h1) rfl)
theorem m_determinesP (htr : l.stackTraces = false) (hg : GP θ ph g X σ) (s c : Int32) : MC yX11_determinesByPairs cX11_determinesByPairs 3 (some .boolean) 5 1 6 l θ [.ref g, .int s, .int c] ph (oP θ ph g X (k_det s c) (some (.int (b2i (a_det σ s c)))) σ) (oX θ ph g X (k_det s c) [xA, xB] σ) := by
  obtain ⟨κ, te, be, ue, r, wr, b, wb, u, hg⟩ := hg
  refine MC.of htr (by decide) (Nat.le_of_ble_eq_true rfl) ?_
  intro x hX hQ hT
  refine e_iload_n hX 1 iX11_determinesByPairs_0 rfl rfl ?_
  by_cases h1 : setB s = true
  · obtain ⟨s', hs', rfl⟩ := setB_t.mp h1
    refine e_callS hX iX11_determinesByPairs_1 (c_needSet0 htr hs') rfl rfl ⟨by decide, by decide, by decide, by decide⟩ (Nat.le_of_ble_eq_true rfl) (fun _ _ h => h.elim) (fun v9 ph9 hv9 => ?_)
    obtain ⟨rfl, e9⟩ := hv9
    subst ph9
    refine e_iload_n hX 2 iX11_determinesByPairs_4 rfl rfl ?_
    by_cases h2 : colB c = true
    · obtain ⟨c', hc', rfl⟩ := colB_t.mp h2
      refine e_callS hX iX11_determinesByPairs_5 (c_needCol0 htr hc') rfl rfl ⟨by decide, by decide, by decide, by decide⟩ (Nat.le_of_ble_eq_true rfl) (fun _ _ h => h.elim) (fun v9 ph9 hv9 => ?_)
      obtain ⟨rfl, e9⟩ := hv9
      subst ph9
      refine e_aload_n hX 0 iX11_determinesByPairs_8 rfl rfl ?_
      refine e_iload_n hX 1 iX11_determinesByPairs_9 rfl rfl ?_
      refine e_iload_n hX 2 iX11_determinesByPairs_10 rfl rfl ?_
      refine e_callV hX iX11_determinesByPairs_11 hg.1 (c_detP htr hg hs' hc') rfl rfl ⟨by decide, by decide, by decide, by decide⟩ (Nat.le_of_ble_eq_true rfl) (fun _ _ h => h.elim) (fun v9 ph9 hv9 => ?_)
      obtain ⟨rfl, e9⟩ := hv9
      subst ph9
      exact e_zret hX hQ iX11_determinesByPairs_14 rfl (nar_b _) (by decide) (by decide) (hg.oP kx.refl ((if_pos h1).trans (if_pos h2)) (by unfold a_det; rw [ix_n (by omega), ix_n (by omega)]))
    · refine e_callS hX iX11_determinesByPairs_5 (c_needColX htr (colB_f h2)) rfl rfl ⟨by decide, by decide, by decide, by decide⟩ (Nat.le_of_ble_eq_true rfl) (fun E9 ph9 hv9 => ?_) (fun _ _ h => h.elim)
      obtain ⟨rfl, e9⟩ := hv9
      subst ph9
      exact e_out hX hQ hT (by decide) (by decide) (hg.oX 1 ((if_pos h1).trans (if_neg h2)) rfl)
  · refine e_callS hX iX11_determinesByPairs_1 (c_needSetX htr (setB_f h1)) rfl rfl ⟨by decide, by decide, by decide, by decide⟩ (Nat.le_of_ble_eq_true rfl) (fun E9 ph9 hv9 => ?_) (fun _ _ h => h.elim)
    obtain ⟨rfl, e9⟩ := hv9
    subst ph9
    exact e_out hX hQ hT (by decide) (by decide) (hg.oX 0 (if_neg h1) rfl)
theorem m_minimalCount (htr : l.stackTraces = false) (hg : GP θ ph g X σ) (c : Int32) : MC yX11_minimalCount cX11_minimalCount 2 (some .int) 6 1 6 l θ [.ref g, .int c] ph (oP θ ph g X (k_col c) (some (.int (nI (pop32 (minM σ (ix c)))))) σ) (oX θ ph g X (k_col c) [xB] σ) := by
  obtain ⟨κ, te, be, ue, r, wr, b, wb, u, hg⟩ := hg
  refine MC.of htr (by decide) (Nat.le_of_ble_eq_true rfl) ?_
  intro x hX hQ hT
  refine e_iload_n hX 1 iX11_minimalCount_0 rfl rfl ?_
  by_cases h2 : colB c = true
  · obtain ⟨c', hc', rfl⟩ := colB_t.mp h2
    refine e_callS hX iX11_minimalCount_1 (c_needCol0 htr hc') rfl rfl ⟨by decide, by decide, by decide, by decide⟩ (Nat.le_of_ble_eq_true rfl) (fun _ _ h => h.elim) (fun v9 ph9 hv9 => ?_)
    obtain ⟨rfl, e9⟩ := hv9
    subst ph9
    refine e_aload_n hX 0 iX11_minimalCount_4 rfl rfl ?_
    refine e_iload_n hX 1 iX11_minimalCount_5 rfl rfl ?_
    refine e_callV hX iX11_minimalCount_6 hg.1 (c_minSets htr hg hc') rfl rfl ⟨by decide, by decide, by decide, by decide⟩ (Nat.le_of_ble_eq_true rfl) (fun _ _ h => h.elim) (fun v9 ph9 hv9 => ?_)
    obtain ⟨rfl, hg2, hx⟩ := hv9
    refine e_callS hX iX11_minimalCount_9 (c_bitCountL htr (minK_lt _)) rfl rfl ⟨by decide, by decide, by decide, by decide⟩ (Nat.le_of_ble_eq_true rfl) (fun _ _ h => h.elim) (fun v9 ph9 hv9 => ?_)
    obtain ⟨rfl, e9⟩ := hv9
    subst ph9
    exact e_iret hX hQ iX11_minimalCount_12 rfl (by decide) (by decide) (hg2.oP hx (if_pos h2) (by rw [ix_n (by omega)]; rfl))
  · refine e_callS hX iX11_minimalCount_1 (c_needColX htr (colB_f h2)) rfl rfl ⟨by decide, by decide, by decide, by decide⟩ (Nat.le_of_ble_eq_true rfl) (fun E9 ph9 hv9 => ?_) (fun _ _ h => h.elim)
    obtain ⟨rfl, e9⟩ := hv9
    subst ph9
    exact e_out hX hQ hT (by decide) (by decide) (hg.oX 0 (if_neg h2) rfl)
theorem m_minimalCountT (htr : l.stackTraces = false) (hg : GP θ ph g X σ) (c : Int32) : MC yX11_minimalCountByTrying cX11_minimalCountByTrying 6 (some .int) 6 1 6 l θ [.ref g, .int c] ph (oP θ ph g X (k_col c) (some (.int (nI (a_minT σ (ix c))))) σ) (oX θ ph g X (k_col c) [xB] σ) := by
  obtain ⟨κ, te, be, ue, r, wr, b, wb, u, hg⟩ := hg
  refine MC.of htr (by decide) (Nat.le_of_ble_eq_true rfl) ?_
  intro x hX hQ hT
  refine e_iload_n hX 1 iX11_minimalCountByTrying_0 rfl rfl ?_
  by_cases h2 : colB c = true
  · obtain ⟨c', hc', rfl⟩ := colB_t.mp h2
    refine e_callS hX iX11_minimalCountByTrying_1 (c_needCol0 htr hc') rfl rfl ⟨by decide, by decide, by decide, by decide⟩ (Nat.le_of_ble_eq_true rfl) (fun _ _ h => h.elim) (fun v9 ph9 hv9 => ?_)
    obtain ⟨rfl, e9⟩ := hv9
    subst ph9
    let F : Nat → Bool := fun s => detB σ s c'
    let P : Nat → Bool := fun s => (detM σ c').testBit s && !holdB s (detM σ c')
    have loop2 : ∀ (q i : Nat), 32 - i < q → i ≤ 32 → EJ θ x 45 [(0, .ref g), (1, .int (nI c')), (2, .long (lN (detM σ c'))), (4, .int (nI (cntB i P))), (5, .int (nI i))] [] ph 0 0 := by
      intro q
      induction q with
      | zero => intro i hg; omega
      | succ q ih =>
        intro i hq hi
        have next : ∀ y, cntB (i + 1) P = y → i < 32 → EJ θ x 73 [(0, .ref g), (1, .int (nI c')), (2, .long (lN (detM σ c'))), (4, .int (nI y)), (5, .int (nI i))] [] ph 0 0 := by
          intro y hy hin
          refine e_iinc hX iX11_minimalCountByTrying_73 rfl (by first | exact nI_inc _ | rfl) (by decide) ?_
          refine e_goto hX iX11_minimalCountByTrying_76 ?_
          refine e_loc [0, 1, 2, 4, 5] ?_
          have := ih (i + 1) (by omega) (by omega)
          rw [hy] at this
          exact this
        refine e_iload hX iX11_minimalCountByTrying_45 rfl ?_
        refine e_bipush (v := 32) hX iX11_minimalCountByTrying_47 (by decide) ?_
        refine e_icmp_ge hX iX11_minimalCountByTrying_49 (fun c49 => ?_) (fun c49 => ?_)
        · have hin := nI_same hi (by decide) c49
          subst hin
          refine e_iload hX iX11_minimalCountByTrying_79 rfl ?_
          exact e_iret hX hQ iX11_minimalCountByTrying_81 rfl (by decide) (by decide) (hg.oP kx.refl (if_pos h2) (by rw [ix_n (by omega)]; rfl))
        · have hin := nI_less hi (by decide) c49
          refine e_iload hX iX11_minimalCountByTrying_52 rfl ?_
          refine e_lload_n hX 2 iX11_minimalCountByTrying_54 rfl rfl ?_
          refine e_callS hX iX11_minimalCountByTrying_55 (c_isSetIn htr hin (detM σ c')) rfl rfl ⟨by decide, by decide, by decide, by decide⟩ (Nat.le_of_ble_eq_true rfl) (fun _ _ h => h.elim) (fun v9 ph9 hv9 => ?_)
          obtain ⟨rfl, e9⟩ := hv9
          subst ph9
          refine e_if_eq hX iX11_minimalCountByTrying_58 (fun c58 => ?_) (fun c58 => ?_)
          · refine e_loc [0, 1, 2, 4, 5] ?_
            exact next _ (cntB_s0 (and_f1 (b2i_0.mp c58))) hin
          · refine e_iload hX iX11_minimalCountByTrying_61 rfl ?_
            refine e_lload_n hX 2 iX11_minimalCountByTrying_63 rfl rfl ?_
            refine e_callS hX iX11_minimalCountByTrying_64 (c_holdsOther htr hin (detM σ c')) rfl rfl ⟨by decide, by decide, by decide, by decide⟩ (Nat.le_of_ble_eq_true rfl) (fun _ _ h => h.elim) (fun v9 ph9 hv9 => ?_)
            obtain ⟨rfl, e9⟩ := hv9
            subst ph9
            refine e_if_ne hX iX11_minimalCountByTrying_67 (fun c67 => ?_) (fun c67 => ?_)
            · refine e_loc [0, 1, 2, 4, 5] ?_
              exact next _ (cntB_s0 (and_f2 (by rw [b2i_n0.mp c67]; rfl))) hin
            · refine e_iinc hX iX11_minimalCountByTrying_70 rfl (by first | exact nI_inc _ | rfl) (by decide) ?_
              refine e_loc [0, 1, 2, 4, 5] ?_
              exact next _ (cntB_s1 (and_tt (b2i_n0.mp c58) (by rw [b2i_0.mp c67]; rfl))) hin
    have loop1 : ∀ (q i : Nat), 32 - i < q → i ≤ 32 → EJ θ x 9 [(0, .ref g), (1, .int (nI c')), (2, .long (lN (maskN i F))), (4, .int (nI i))] [] ph 0 0 := by
      intro q
      induction q with
      | zero => intro i hg; omega
      | succ q ih =>
        intro i hq hi
        have next : ∀ y, maskN (i + 1) F = y → i < 32 → EJ θ x 33 [(0, .ref g), (1, .int (nI c')), (2, .long (lN y)), (4, .int (nI i))] [] ph 0 0 := by
          intro y hy hin
          refine e_iinc hX iX11_minimalCountByTrying_33 rfl (by first | exact nI_inc _ | rfl) (by decide) ?_
          refine e_goto hX iX11_minimalCountByTrying_36 ?_
          refine e_loc [0, 1, 2, 4] ?_
          have := ih (i + 1) (by omega) (by omega)
          rw [hy] at this
          exact this
        refine e_iload hX iX11_minimalCountByTrying_9 rfl ?_
        refine e_bipush (v := 32) hX iX11_minimalCountByTrying_11 (by decide) ?_
        refine e_icmp_ge hX iX11_minimalCountByTrying_13 (fun c13 => ?_) (fun c13 => ?_)
        · have hin := nI_same hi (by decide) c13
          subst hin
          refine e_iconst (v := 0) hX iX11_minimalCountByTrying_39 (by decide) ?_
          refine e_istore hX iX11_minimalCountByTrying_40 (by decide) ?_
          refine e_iconst (v := 0) hX iX11_minimalCountByTrying_42 (by decide) ?_
          refine e_istore hX iX11_minimalCountByTrying_43 (by decide) ?_
          refine e_loc [0, 1, 2, 4, 5] ?_
          exact loop2 33 0 (by omega) (by omega)
        · have hin := nI_less hi (by decide) c13
          refine e_aload_n hX 0 iX11_minimalCountByTrying_16 rfl rfl ?_
          refine e_iload hX iX11_minimalCountByTrying_17 rfl ?_
          refine e_iload_n hX 1 iX11_minimalCountByTrying_19 rfl rfl ?_
          refine e_callV hX iX11_minimalCountByTrying_20 hg.1 (c_detP htr hg hin hc') rfl rfl ⟨by decide, by decide, by decide, by decide⟩ (Nat.le_of_ble_eq_true rfl) (fun _ _ h => h.elim) (fun v9 ph9 hv9 => ?_)
          obtain ⟨rfl, e9⟩ := hv9
          subst ph9
          refine e_if_eq hX iX11_minimalCountByTrying_23 (fun c23 => ?_) (fun c23 => ?_)
          · refine e_loc [0, 1, 2, 4] ?_
            exact next _ (maskN_s0 (b2i_0.mp c23)) hin
          · refine e_lload_n hX 2 iX11_minimalCountByTrying_26 rfl rfl ?_
            refine e_lconst (v := 1) hX iX11_minimalCountByTrying_27 (by decide) ?_
            refine e_iload hX iX11_minimalCountByTrying_28 rfl ?_
            refine e_lshl hX iX11_minimalCountByTrying_30 ?_
            rw [shL i hin]
            refine e_lor hX iX11_minimalCountByTrying_31 ?_
            rw [q_or]
            refine e_lstore_n hX 2 iX11_minimalCountByTrying_32 rfl (by decide) ?_
            refine e_loc [0, 1, 2, 4] ?_
            exact next _ (maskN_s1 (b2i_n0.mp c23)) hin
    refine e_lconst (v := 0) hX iX11_minimalCountByTrying_4 (by decide) ?_
    refine e_lstore_n hX 2 iX11_minimalCountByTrying_5 rfl (by decide) ?_
    refine e_iconst (v := 0) hX iX11_minimalCountByTrying_6 (by decide) ?_
    refine e_istore hX iX11_minimalCountByTrying_7 (by decide) ?_
    refine e_loc [0, 1, 2, 4] ?_
    exact loop1 33 0 (by omega) (by omega)
  · refine e_callS hX iX11_minimalCountByTrying_1 (c_needColX htr (colB_f h2)) rfl rfl ⟨by decide, by decide, by decide, by decide⟩ (Nat.le_of_ble_eq_true rfl) (fun E9 ph9 hv9 => ?_) (fun _ _ h => h.elim)
    obtain ⟨rfl, e9⟩ := hv9
    subst ph9
    exact e_out hX hQ hT (by decide) (by decide) (hg.oX 0 (if_neg h2) rfl)
theorem m_minimalAt (htr : l.stackTraces = false) (hg : GP θ ph g X σ) (c q : Int32) : MC yX11_minimalAt cX11_minimalAt 5 (some .int) 6 1 6 l θ [.ref g, .int c, .int q] ph (oP θ ph g X (k_minAt σ c q) (some (.int (a_minAt σ c q))) σ) (oX θ ph g X (k_minAt σ c q) [xB] σ) := by
  obtain ⟨κ, te, be, ue, r, wr, b, wb, u, hg⟩ := hg
  refine MC.of htr (by decide) (Nat.le_of_ble_eq_true rfl) ?_
  intro x hX hQ hT
  refine e_iload_n hX 1 iX11_minimalAt_0 rfl rfl ?_
  by_cases h2 : colB c = true
  · obtain ⟨c', hc', rfl⟩ := colB_t.mp h2
    have hix : ix (nI c') = c' := ix_n (by omega)
    refine e_callS hX iX11_minimalAt_1 (c_needCol0 htr hc') rfl rfl ⟨by decide, by decide, by decide, by decide⟩ (Nat.le_of_ble_eq_true rfl) (fun _ _ h => h.elim) (fun v9 ph9 hv9 => ?_)
    obtain ⟨rfl, e9⟩ := hv9
    subst ph9
    refine e_aload_n hX 0 iX11_minimalAt_4 rfl rfl ?_
    refine e_iload_n hX 1 iX11_minimalAt_5 rfl rfl ?_
    refine e_callV hX iX11_minimalAt_6 hg.1 (c_minSets htr hg hc') rfl rfl ⟨by decide, by decide, by decide, by decide⟩ (Nat.le_of_ble_eq_true rfl) (fun _ _ h => h.elim) (fun v9 ph9 hv9 => ?_)
    obtain ⟨rfl, hg2, hx⟩ := hv9
    have hp32 : pop32 (minM σ c') ≤ 32 := cntB_le _ _
    have th : (¬ (decide (0 ≤ q) && decide (q < nI (pop32 (minM σ (ix (nI c')))))) = true) → EJ θ x 22 [(0, .ref g), (1, .int (nI c')), (2, .int q), (3, .long (lN (minM σ c')))] [] ph9 0 0 := by
      intro h
      exact e_throw hX iX11_minimalAt_22 ⟨by decide, Nat.le_of_ble_eq_true rfl, by decide, by decide⟩ (e_out hX hQ hT (by decide) (by decide) ⟨by unfold k_minAt; rw [if_pos h2, if_neg h]; decide, by unfold k_minAt; rw [if_pos h2, if_neg h]; rfl, hg2.gp, hx⟩)
    refine e_lstore_n hX 3 iX11_minimalAt_9 rfl (by decide) ?_
    refine e_iload_n hX 2 iX11_minimalAt_10 rfl rfl ?_
    refine e_if_lt hX iX11_minimalAt_11 (fun c11 => ?_) (fun c11 => ?_)
    · refine e_loc [0, 1, 2, 3] ?_
      exact th (fun h => by rw [Bool.and_eq_true, decide_eq_true_eq] at h; exact Int32.not_le.mpr c11 h.1)
    · refine e_iload_n hX 2 iX11_minimalAt_14 rfl rfl ?_
      refine e_lload_n hX 3 iX11_minimalAt_15 rfl rfl ?_
      refine e_callS hX iX11_minimalAt_16 (c_bitCountL htr (minK_lt _)) rfl rfl ⟨by decide, by decide, by decide, by decide⟩ (Nat.le_of_ble_eq_true rfl) (fun _ _ h => h.elim) (fun v9 ph9 hv9 => ?_)
      obtain ⟨rfl, e9⟩ := hv9
      subst ph9
      refine e_icmp_lt hX iX11_minimalAt_19 (fun c19 => ?_) (fun c19 => ?_)
      · have h0 : (decide (0 ≤ q) && decide (q < nI (pop32 (minM σ (ix (nI c')))))) = true := and_tt (decide_eq_true (Int32.not_lt.mp c11)) (decide_eq_true (by rw [hix]; exact c19))
        obtain ⟨q', hq', rfl⟩ := (ltB_t (by rw [hix]; omega)).mp h0
        rw [hix] at hq'
        refine e_lload_n hX 3 iX11_minimalAt_32 rfl rfl ?_
        refine e_iload_n hX 2 iX11_minimalAt_33 rfl rfl ?_
        refine e_callS hX iX11_minimalAt_34 (c_setInOrder htr (minM σ c') q' (by omega)) rfl rfl ⟨by decide, by decide, by decide, by decide⟩ (Nat.le_of_ble_eq_true rfl) (fun _ _ h => h.elim) (fun v9 ph9 hv9 => ?_)
        obtain ⟨e5, rfl⟩ := hv9
        have e6 := sio_eq e5
        subst e6
        exact e_iret hX hQ iX11_minimalAt_37 rfl (by decide) (by decide) (hg2.oP hx ((if_pos h2).trans (if_pos h0)) (by unfold a_minAt; rw [hix, ix_n (by omega)]))
      · refine e_loc [0, 1, 2, 3] ?_
        exact th (fun h => by rw [Bool.and_eq_true, decide_eq_true_eq, decide_eq_true_eq, hix] at h; exact c19 h.2)
  · refine e_callS hX iX11_minimalAt_1 (c_needColX htr (colB_f h2)) rfl rfl ⟨by decide, by decide, by decide, by decide⟩ (Nat.le_of_ble_eq_true rfl) (fun E9 ph9 hv9 => ?_) (fun _ _ h => h.elim)
    obtain ⟨rfl, e9⟩ := hv9
    subst ph9
    exact e_out hX hQ hT (by decide) (by decide) (hg.oX 0 (if_neg h2) rfl)
theorem m_closureOf (htr : l.stackTraces = false) (hg : GP θ ph g X σ) (s : Int32) : MC yX11_closureOf cX11_closureOf 4 (some .int) 5 1 6 l θ [.ref g, .int s] ph (oP θ ph g X (k_set s) (some (.int (nI (a_clos σ (ix s))))) σ) (oX θ ph g X (k_set s) [xA] σ) := by
  obtain ⟨κ, te, be, ue, r, wr, b, wb, u, hg⟩ := hg
  refine MC.of htr (by decide) (Nat.le_of_ble_eq_true rfl) ?_
  intro x hX hQ hT
  refine e_iload_n hX 1 iX11_closureOf_0 rfl rfl ?_
  by_cases h1 : setB s = true
  · obtain ⟨s', hs', rfl⟩ := setB_t.mp h1
    refine e_callS hX iX11_closureOf_1 (c_needSet0 htr hs') rfl rfl ⟨by decide, by decide, by decide, by decide⟩ (Nat.le_of_ble_eq_true rfl) (fun _ _ h => h.elim) (fun v9 ph9 hv9 => ?_)
    obtain ⟨rfl, e9⟩ := hv9
    subst ph9
    let F : Nat → Bool := fun c => detB σ s' c
    have loop : ∀ (q i : Nat) (p : e_PH), 5 - i < q → i ≤ 5 → GI θ p g X σ κ te be ue r wr b wb u → kx ph p X → EJ θ x 8 [(0, .ref g), (1, .int (nI s')), (2, .int (nI (s' ||| maskN i F))), (3, .int (nI i))] [] p 0 0 := by
      intro q
      induction q with
      | zero => intro i p hg; omega
      | succ q ih =>
        intro i p hq hi hgp hxp
        have next : ∀ y p2, s' ||| maskN (i + 1) F = y → i < 5 → GI θ p2 g X σ κ te be ue r wr b wb u → kx ph p2 X → EJ θ x 28 [(0, .ref g), (1, .int (nI s')), (2, .int (nI y)), (3, .int (nI i))] [] p2 0 0 := by
          intro y p2 hy hin h3 h4
          refine e_iinc hX iX11_closureOf_28 rfl (by first | exact nI_inc _ | rfl) (by decide) ?_
          refine e_goto hX iX11_closureOf_31 ?_
          refine e_loc [0, 1, 2, 3] ?_
          have := ih (i + 1) p2 (by omega) (by omega) h3 h4
          rw [hy] at this
          exact this
        refine e_iload_n hX 3 iX11_closureOf_8 rfl rfl ?_
        refine e_iconst (v := 5) hX iX11_closureOf_9 (by decide) ?_
        refine e_icmp_ge hX iX11_closureOf_10 (fun c10 => ?_) (fun c10 => ?_)
        · have hin := nI_same hi (by decide) c10
          subst hin
          refine e_iload_n hX 2 iX11_closureOf_34 rfl rfl ?_
          exact e_iret hX hQ iX11_closureOf_35 rfl (by decide) (by decide) (hgp.oP hxp (if_pos h1) (by rw [ix_n (by omega)]; rfl))
        · have hin := nI_less hi (by decide) c10
          refine e_aload_n hX 0 iX11_closureOf_13 rfl rfl ?_
          refine e_iload_n hX 1 iX11_closureOf_14 rfl rfl ?_
          refine e_iload_n hX 3 iX11_closureOf_15 rfl rfl ?_
          refine e_callV hX iX11_closureOf_16 hgp.1 (c_detC htr hgp hs' hin) rfl rfl ⟨by decide, by decide, by decide, by decide⟩ (Nat.le_of_ble_eq_true rfl) (fun _ _ h => h.elim) (fun v9 ph9 hv9 => ?_)
          obtain ⟨rfl, hg2, hx⟩ := hv9
          refine e_if_eq hX iX11_closureOf_19 (fun c19 => ?_) (fun c19 => ?_)
          · refine e_loc [0, 1, 2, 3] ?_
            exact next _ _ (by rw [maskN_s0 (b2i_0.mp c19)]) hin hg2 (hxp.trans hx)
          · refine e_iload_n hX 2 iX11_closureOf_22 rfl rfl ?_
            refine e_iconst (v := 1) hX iX11_closureOf_23 (by decide) ?_
            refine e_iload_n hX 3 iX11_closureOf_24 rfl rfl ?_
            refine e_ishl hX iX11_closureOf_25 ?_
            rw [sh1 i (by omega)]
            refine e_ior hX iX11_closureOf_26 ?_
            rw [nI_or]
            refine e_istore_n hX 2 iX11_closureOf_27 rfl (by decide) ?_
            refine e_loc [0, 1, 2, 3] ?_
            exact next _ _ (by rw [maskN_s1 (b2i_n0.mp c19), Nat.or_assoc]) hin hg2 (hxp.trans hx)
    refine e_iload_n hX 1 iX11_closureOf_4 rfl rfl ?_
    refine e_istore_n hX 2 iX11_closureOf_5 rfl (by decide) ?_
    refine e_iconst (v := 0) hX iX11_closureOf_6 (by decide) ?_
    refine e_istore_n hX 3 iX11_closureOf_7 rfl (by decide) ?_
    refine e_loc [0, 1, 2, 3] ?_
    have := loop 6 0 ph (by omega) (by omega) hg kx.refl
    rw [show s' ||| maskN 0 F = s' from Nat.or_zero s'] at this
    exact this
  · refine e_callS hX iX11_closureOf_1 (c_needSetX htr (setB_f h1)) rfl rfl ⟨by decide, by decide, by decide, by decide⟩ (Nat.le_of_ble_eq_true rfl) (fun E9 ph9 hv9 => ?_) (fun _ _ h => h.elim)
    obtain ⟨rfl, e9⟩ := hv9
    subst ph9
    exact e_out hX hQ hT (by decide) (by decide) (hg.oX 0 (if_neg h1) rfl)
theorem m_isKey (htr : l.stackTraces = false) (hg : GP θ ph g X σ) (s : Int32) : MC yX11_isKey cX11_isKey 2 (some .boolean) 5 1 6 l θ [.ref g, .int s] ph (oP θ ph g X (k_set s) (some (.int (b2i (keyB s (gN σ) (gV σ))))) σ) (oX θ ph g X (k_set s) [xA] σ) := by
  obtain ⟨κ, te, be, ue, r, wr, b, wb, u, hg⟩ := hg
  refine MC.of htr (by decide) (Nat.le_of_ble_eq_true rfl) ?_
  intro x hX hQ hT
  refine e_iload_n hX 1 iX11_isKey_0 rfl rfl ?_
  by_cases h1 : setB s = true
  · obtain ⟨s', hs', rfl⟩ := setB_t.mp h1
    refine e_callS hX iX11_isKey_1 (c_needSet0 htr hs') rfl rfl ⟨by decide, by decide, by decide, by decide⟩ (Nat.le_of_ble_eq_true rfl) (fun _ _ h => h.elim) (fun v9 ph9 hv9 => ?_)
    obtain ⟨rfl, e9⟩ := hv9
    subst ph9
    refine e_aload_n hX 0 iX11_isKey_4 rfl rfl ?_
    refine e_iload_n hX 1 iX11_isKey_5 rfl rfl ?_
    refine e_callV hX iX11_isKey_6 hg.1 (c_tell htr hg) rfl rfl ⟨by decide, by decide, by decide, by decide⟩ (Nat.le_of_ble_eq_true rfl) (fun _ _ h => h.elim) (fun v9 ph9 hv9 => ?_)
    obtain ⟨rfl, hg2, hx⟩ := hv9
    exact e_zret hX hQ iX11_isKey_9 rfl (nar_b _) (by decide) (by decide) (hg2.oP hx (if_pos h1) rfl)
  · refine e_callS hX iX11_isKey_1 (c_needSetX htr (setB_f h1)) rfl rfl ⟨by decide, by decide, by decide, by decide⟩ (Nat.le_of_ble_eq_true rfl) (fun E9 ph9 hv9 => ?_) (fun _ _ h => h.elim)
    obtain ⟨rfl, e9⟩ := hv9
    subst ph9
    exact e_out hX hQ hT (by decide) (by decide) (hg.oX 0 (if_neg h1) rfl)
theorem lN_0 {m : Nat} (h : m < 2 ^ 32) : lg_cmp (lN m) 0 = 0 ↔ m = 0 := by
  rw [lg_cmp_eq]
  exact pk_lEQ (b := 0) (Nat.lt_trans h (by decide)) (by decide)
theorem m_smallestKey (htr : l.stackTraces = false) (hg : GP θ ph g X σ) : MC yX11_smallestKey cX11_smallestKey 4 (some .int) 5 1 6 l θ [.ref g] ph (oP θ ph g X (k_sk σ) (some (.int (a_sk σ))) σ) (oX θ ph g X (k_sk σ) [xN] σ) := by
  obtain ⟨κ, te, be, ue, r, wr, b, wb, u, hg⟩ := hg
  refine MC.of htr (by decide) (Nat.le_of_ble_eq_true rfl) ?_
  intro x hX hQ hT
  let F : Nat → Bool := fun s => keyB (nI s) (gN σ) (gV σ)
  have loop : ∀ (q i : Nat) (p : e_PH), 32 - i < q → i ≤ 32 → GI θ p g X σ κ te be ue r wr b wb u → kx ph p X → EJ θ x 4 [(0, .ref g), (1, .long (lN (maskN i F))), (3, .int (nI i))] [] p 0 0 := by
    intro q
    induction q with
    | zero => intro i p hg; omega
    | succ q ih =>
      intro i p hq hi hgp hxp
      have next : ∀ y p2, maskN (i + 1) F = y → i < 32 → GI θ p2 g X σ κ te be ue r wr b wb u → kx ph p2 X → EJ θ x 24 [(0, .ref g), (1, .long (lN y)), (3, .int (nI i))] [] p2 0 0 := by
        intro y p2 hy hin h3 h4
        refine e_iinc hX iX11_smallestKey_24 rfl (by first | exact nI_inc _ | rfl) (by decide) ?_
        refine e_goto hX iX11_smallestKey_27 ?_
        refine e_loc [0, 1, 3] ?_
        have := ih (i + 1) p2 (by omega) (by omega) h3 h4
        rw [hy] at this
        exact this
      refine e_iload_n hX 3 iX11_smallestKey_4 rfl rfl ?_
      refine e_bipush (v := 32) hX iX11_smallestKey_5 (by decide) ?_
      refine e_icmp_ge hX iX11_smallestKey_7 (fun c7 => ?_) (fun c7 => ?_)
      · have hin := nI_same hi (by decide) c7
        subst hin
        have hlt : keyM σ < 2 ^ 32 := maskN_lt 32
        refine e_lload_n hX 1 iX11_smallestKey_30 rfl rfl ?_
        refine e_lconst (v := 0) hX iX11_smallestKey_31 (by decide) ?_
        refine e_lcmp hX iX11_smallestKey_32 ?_
        refine e_if_ne hX iX11_smallestKey_33 (fun c33 => ?_) (fun c33 => ?_)
        · have h0 : ¬ keyM σ = 0 := fun e => c33 ((lN_0 hlt).mpr e)
          refine e_lload_n hX 1 iX11_smallestKey_47 rfl rfl ?_
          refine e_iconst (v := 0) hX iX11_smallestKey_48 (by decide) ?_
          refine e_callS hX iX11_smallestKey_49 (c_setInOrder htr (keyM σ) 0 (by decide)) rfl rfl ⟨by decide, by decide, by decide, by decide⟩ (Nat.le_of_ble_eq_true rfl) (fun _ _ h => h.elim) (fun v9 ph9 hv9 => ?_)
          obtain ⟨e5, rfl⟩ := hv9
          have e6 := sio_eq e5
          subst e6
          exact e_iret hX hQ iX11_smallestKey_52 rfl (by decide) (by decide) (hgp.oP hxp (if_neg h0) rfl)
        · have h0 : keyM σ = 0 := (lN_0 hlt).mp c33
          exact e_throwNW hX iX11_smallestKey_36 ⟨by decide, Nat.le_of_ble_eq_true rfl, by decide, by decide⟩ (e_out hX hQ hT (by decide) (by decide) ⟨by unfold k_sk; rw [if_pos h0]; decide, by unfold k_sk; rw [if_pos h0]; rfl, hgp.gp, hxp⟩)
      · have hin := nI_less hi (by decide) c7
        refine e_aload_n hX 0 iX11_smallestKey_10 rfl rfl ?_
        refine e_iload_n hX 3 iX11_smallestKey_11 rfl rfl ?_
        refine e_callV hX iX11_smallestKey_12 hgp.1 (c_tell htr hgp) rfl rfl ⟨by decide, by decide, by decide, by decide⟩ (Nat.le_of_ble_eq_true rfl) (fun _ _ h => h.elim) (fun v9 ph9 hv9 => ?_)
        obtain ⟨rfl, hg2, hx⟩ := hv9
        refine e_if_eq hX iX11_smallestKey_15 (fun c15 => ?_) (fun c15 => ?_)
        · refine e_loc [0, 1, 3] ?_
          exact next _ _ (maskN_s0 (b2i_0.mp c15)) hin hg2 (hxp.trans hx)
        · refine e_lload_n hX 1 iX11_smallestKey_18 rfl rfl ?_
          refine e_lconst (v := 1) hX iX11_smallestKey_19 (by decide) ?_
          refine e_iload_n hX 3 iX11_smallestKey_20 rfl rfl ?_
          refine e_lshl hX iX11_smallestKey_21 ?_
          rw [shL i hin]
          refine e_lor hX iX11_smallestKey_22 ?_
          rw [q_or]
          refine e_lstore_n hX 1 iX11_smallestKey_23 rfl (by decide) ?_
          refine e_loc [0, 1, 3] ?_
          exact next _ _ (maskN_s1 (b2i_n0.mp c15)) hin hg2 (hxp.trans hx)
  refine e_lconst (v := 0) hX iX11_smallestKey_0 (by decide) ?_
  refine e_lstore_n hX 1 iX11_smallestKey_1 rfl (by decide) ?_
  refine e_iconst (v := 0) hX iX11_smallestKey_2 (by decide) ?_
  refine e_istore_n hX 3 iX11_smallestKey_3 rfl (by decide) ?_
  refine e_loc [0, 1, 3] ?_
  exact loop 33 0 ph (by omega) (by omega) hg kx.refl
theorem m_errorOf (htr : l.stackTraces = false) (hg : GP θ ph g X σ) (s c : Int32) : MC yX11_errorOf cX11_errorOf 3 (some .int) 6 1 6 l θ [.ref g, .int s, .int c] ph (oP θ ph g X (k_err s c) (some (.int (nI (errN s (ix c) (gN σ) (gV σ))))) σ) (oX θ ph g X (k_err s c) [xB, xA] σ) := by
  obtain ⟨κ, te, be, ue, r, wr, b, wb, u, hg⟩ := hg
  have hn := hg.2.2.2.2.2.2.2.2.1.1
  refine MC.of htr (by decide) (Nat.le_of_ble_eq_true rfl) ?_
  intro x hX hQ hT
  refine e_iload_n hX 2 iX11_errorOf_0 rfl rfl ?_
  by_cases h2 : colB c = true
  · obtain ⟨c', hc', rfl⟩ := colB_t.mp h2
    have hix : ix (nI c') = c' := ix_n (by omega)
    refine e_callS hX iX11_errorOf_1 (c_needCol0 htr hc') rfl rfl ⟨by decide, by decide, by decide, by decide⟩ (Nat.le_of_ble_eq_true rfl) (fun _ _ h => h.elim) (fun v9 ph9 hv9 => ?_)
    obtain ⟨rfl, e9⟩ := hv9
    subst ph9
    refine e_iload_n hX 1 iX11_errorOf_4 rfl rfl ?_
    refine e_iload_n hX 2 iX11_errorOf_5 rfl rfl ?_
    by_cases h1 : (setB s && !(ix s).testBit (ix (nI c'))) = true
    · have h1' := h1
      rw [Bool.and_eq_true] at h1'
      obtain ⟨s', hs', rfl⟩ := setB_t.mp h1'.1
      have hb : s'.testBit c' = false := by
        have := h1'.2
        rw [hix, ix_n (by omega)] at this
        simpa using this
      refine e_callS hX iX11_errorOf_6 (c_needSW0 htr hs' hc' hb) rfl rfl ⟨by decide, by decide, by decide, by decide⟩ (Nat.le_of_ble_eq_true rfl) (fun _ _ h => h.elim) (fun v9 ph9 hv9 => ?_)
      obtain ⟨rfl, e9⟩ := hv9
      subst ph9
      refine e_aload_n hX 0 iX11_errorOf_9 rfl rfl ?_
      refine e_get hX iX11_errorOf_10 hg.1 rfl ?_
      refine e_aload_n hX 0 iX11_errorOf_13 rfl rfl ?_
      refine e_get hX iX11_errorOf_14 hg.1 rfl ?_
      refine e_iload_n hX 1 iX11_errorOf_17 rfl rfl ?_
      obtain ⟨-, ⟨a2, f2, j1, j2⟩, -⟩ := hg.2.2.2.2.2.1
      refine e_callV hX iX11_errorOf_18 j1 (c_divide htr j1 j2 hg.2.1.1 hg.rws hn (nI s')) rfl rfl ⟨by decide, by decide, by decide, by decide⟩ (Nat.le_of_ble_eq_true rfl) (fun _ _ h => h.elim) (fun v9 ph9 hv9 => ?_)
      obtain ⟨rfl, f, e1, e2, e3, e4⟩ := hv9
      obtain ⟨hg2, hx⟩ := hg.divide e4 e1 e2
      refine e_aload_n hX 0 iX11_errorOf_21 rfl rfl ?_
      refine e_get hX iX11_errorOf_22 hg2.1 rfl ?_
      refine e_aload_n hX 0 iX11_errorOf_25 rfl rfl ?_
      refine e_get hX iX11_errorOf_26 hg2.1 rfl ?_
      refine e_iload_n hX 2 iX11_errorOf_29 rfl rfl ?_
      refine e_callV hX iX11_errorOf_30 e1 (c_remDet htr ⟨e1, f, e2, e3⟩ hg2.2.1.1 hg2.rws hn c' hc') rfl rfl ⟨by decide, by decide, by decide, by decide⟩ (Nat.le_of_ble_eq_true rfl) (fun _ _ h => h.elim) (fun v9 ph9 hv9 => ?_)
      obtain ⟨rfl, e9⟩ := hv9
      subst ph9
      exact e_iret hX hQ iX11_errorOf_33 rfl (by decide) (by decide) (hg2.oP hx ((if_pos h2).trans (if_pos h1)) (by rw [hix]))
    · refine e_callS hX iX11_errorOf_6 (c_needSWX htr hc' (fun ⟨s', hs', e, hb⟩ => h1 (by subst e; rw [setB_t.mpr ⟨s', hs', rfl⟩, hix, ix_n (by omega), hb]; rfl))) rfl rfl ⟨by decide, by decide, by decide, by decide⟩ (Nat.le_of_ble_eq_true rfl) (fun E9 ph9 hv9 => ?_) (fun _ _ h => h.elim)
      obtain ⟨rfl, e9⟩ := hv9
      subst ph9
      exact e_out hX hQ hT (by decide) (by decide) (hg.oX 1 ((if_pos h2).trans (if_neg h1)) rfl)
  · refine e_callS hX iX11_errorOf_1 (c_needColX htr (colB_f h2)) rfl rfl ⟨by decide, by decide, by decide, by decide⟩ (Nat.le_of_ble_eq_true rfl) (fun E9 ph9 hv9 => ?_) (fun _ _ h => h.elim)
    obtain ⟨rfl, e9⟩ := hv9
    subst ph9
    exact e_out hX hQ hT (by decide) (by decide) (hg.oX 0 (if_neg h2) rfl)
end GPT
