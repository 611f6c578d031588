/-- how a rule stands against staged row idx: the other row and whether it is staged; none if it does not -/
def rjO (σ : SG) (ρ : RU) (idx : Nat) : Option (Int32 × Bool) :=
  if brkR ρ (gW σ idx) = true then some (-1, false)
  else if lowG (fun i => clsR ρ (gW σ idx) (gV σ i)) (gN σ) 0 < gN σ then some (gI σ (lowG (fun i => clsR ρ (gW σ idx) (gV σ i)) (gN σ) 0), false)
  else if lowG (fun j => clsR ρ (gW σ idx) (gW σ j)) idx 0 < idx then some (nI (lowG (fun j => clsR ρ (gW σ idx) (gW σ j)) idx 0), true) else none
theorem lowG_u {P : Nat → Bool} {n i : Nat} (hi : i < n) (h : P i = true) (h2 : ∀ j, j < i → P j = false) : lowG P n 0 = i := by
  have L := lowG_n (P := P) n 0
  rcases Nat.lt_trichotomy (lowG P n 0) i with c | c | c
  · have := L.2.2.1 (by omega); rw [h2 _ c] at this; cases this
  · exact c
  · rw [L.2.2.2 i (Nat.zero_le i) c] at h; cases h
theorem lowG_all {P : Nat → Bool} {n : Nat} (h2 : ∀ j, j < n → P j = false) : lowG P n 0 = n := by
  have L := lowG_n (P := P) n 0
  rcases Nat.lt_or_ge (lowG P n 0) n with c | c
  · have := L.2.2.1 (by omega); rw [h2 _ c] at this; cases this
  · omega
def rejC (i r : Nat) (o : Int32 × Bool) : va_E := e_O 6 [.int (nI i), .int (nI r), .int o.1, .int (b2i o.2)]
section GCO
variable {l : Launch} {θ : e_T} {ph : e_PH} {g : Nat} {X : Nat → Prop} {σ : SG} {κ : Nat → Nat} {te be ue : Nat} {r wr b wb u : Nat → Nat}
theorem c_rejBy (htr : l.stackTraces = false) (hg : GI θ ph g X σ κ te be ue r wr b wb u) {q idx : Nat} (hq : q < gK σ) (hi : idx < gM σ) : MC yX11_isRejectedBy cX11_isRejectedBy 7 (some .boolean) 3 0 0 l θ [.ref g, .ref (u q), .int (nI q), .ref (b idx), .int (nI idx)] ph (fun z p => (rjO σ (gR σ q) idx = none ∧ z = some (.int 0) ∧ p = ph) ∨ ∃ o, rjO σ (gR σ q) idx = some o ∧ z = some (.int 1) ∧ p = e_up ph (κ 3) (rejC idx q o)) (fun _ _ => False) := by
  have hn := hg.2.2.2.2.2.2.2.2.1.1
  have hm := hg.2.2.2.2.2.2.2.2.1.2.1
  obtain ⟨gO, ⟨gT, gTr⟩, ⟨gB, gBr⟩, ⟨gU, gUr⟩, gX, -⟩ := hg
  have hρ := gUr q hq
  have hb := gBr idx hi
  refine MC.of htr (by decide) (Nat.le_of_ble_eq_true rfl) ?_
  intro x hX hQ hT
  let A : Nat → Bool := fun i => clsR (gR σ q) (gW σ idx) (gV σ i)
  let B : Nat → Bool := fun j => clsR (gR σ q) (gW σ idx) (gW σ j)
  have loop2 : brkR (gR σ q) (gW σ idx) = false → (∀ z, z < gN σ → A z = false) → ∀ (z i : Nat), idx - i < z → i ≤ idx → (∀ y, y < i → B y = false) → EJ θ x 88 [(0, .ref g), (1, .ref (u q)), (2, .int (nI q)), (3, .ref (b idx)), (4, .int (nI idx)), (5, .int (nI i))] [] ph 0 0 := by
    intro h1 h2 z
    induction z with
    | zero => intro i hz; omega
    | succ z ih =>
      intro i hz hii hinv
      refine e_iload hX iX11_isRejectedBy_88 rfl ?_
      refine e_iload hX iX11_isRejectedBy_90 rfl ?_
      refine e_icmp_ge hX iX11_isRejectedBy_92 (fun c92 => ?_) (fun c92 => ?_)
      · have hin := nI_same hii (by omega) c92
        subst hin
        have e0 : rjO σ (gR σ q) i = none := by
          unfold rjO
          rw [if_neg (by rw [h1]; decide), lowG_all (P := fun i' => clsR (gR σ q) (gW σ i) (gV σ i')) h2, if_neg (Nat.lt_irrefl _), lowG_all (P := fun j => clsR (gR σ q) (gW σ i) (gW σ j)) hinv, if_neg (Nat.lt_irrefl _)]
        refine e_iconst (v := 0) hX iX11_isRejectedBy_148 (by decide) ?_
        exact e_zret hX hQ iX11_isRejectedBy_149 rfl nar_0 (by decide) (by decide) (Or.inl ⟨e0, rfl, rfl⟩)
      · have hin := nI_less hii (by omega) c92
        have hrj := gBr i (by omega)
        refine e_iload hX iX11_isRejectedBy_95 rfl ?_
        refine e_aload_n hX 0 iX11_isRejectedBy_97 rfl rfl ?_
        refine e_get hX iX11_isRejectedBy_98 gO rfl ?_
        refine e_callV hX iX11_isRejectedBy_101 (lst.hp gB) (c_size htr gB) rfl rfl ⟨by decide, by decide, by decide, by decide⟩ (Nat.le_of_ble_eq_true rfl) (fun _ _ h => h.elim) (fun v9 ph9 hv9 => ?_)
        obtain ⟨rfl, e9⟩ := hv9
        subst ph9
        refine e_icmp_ge hX iX11_isRejectedBy_104 (fun c104 => ?_) (fun c104 => ?_)
        · exact absurd c104 (nI_ge (show i < gM σ by omega) (by omega))
        · refine e_aload_n hX 1 iX11_isRejectedBy_107 rfl rfl ?_
          refine e_aload_n hX 3 iX11_isRejectedBy_108 rfl rfl ?_
          refine e_aload_n hX 0 iX11_isRejectedBy_109 rfl rfl ?_
          refine e_get hX iX11_isRejectedBy_110 gO rfl ?_
          refine e_iload hX iX11_isRejectedBy_113 rfl ?_
          refine e_callV hX iX11_isRejectedBy_115 (lst.hp gB) (c_lget (i := i) htr gB (by omega)) rfl rfl ⟨by decide, by decide, by decide, by decide⟩ (Nat.le_of_ble_eq_true rfl) (fun _ _ h => h.elim) (fun v9 ph9 hv9 => ?_)
          obtain ⟨rfl, e9⟩ := hv9
          subst ph9
          refine e_castS hX iX11_isRejectedBy_118 klRX11_79 (rowAt.hp hrj) rfl ?_
          refine e_callCls hX iX11_isRejectedBy_121_c7 iX11_isRejectedBy_121_c8 iX11_isRejectedBy_121_c9 iX11_isRejectedBy_121_c10 iX11_isRejectedBy_121_c11 htr hρ hb hrj ⟨by decide, by decide, by decide, by decide⟩ (Nat.le_of_ble_eq_true rfl) ?_
          refine e_if_eq hX iX11_isRejectedBy_124 (fun c124 => ?_) (fun c124 => ?_)
          · refine e_iinc hX iX11_isRejectedBy_142 rfl (by first | exact nI_inc _ | rfl) (by decide) ?_
            refine e_goto hX iX11_isRejectedBy_145 ?_
            refine e_loc [0, 1, 2, 3, 4, 5] ?_
            refine ih (i + 1) (by omega) (by omega) (fun y hy => ?_)
            by_cases e : y = i
            · subst e; exact b2i_0.mp c124
            · exact hinv y (by omega)
          · have hc := b2i_n0.mp c124
            have e0 : rjO σ (gR σ q) idx = some (nI i, true) := by
              unfold rjO
              rw [if_neg (by rw [h1]; decide), lowG_all (P := fun i' => clsR (gR σ q) (gW σ idx) (gV σ i')) h2, if_neg (Nat.lt_irrefl _), lowG_u (P := fun j => clsR (gR σ q) (gW σ idx) (gW σ j)) hin hc hinv, if_pos hin]
            refine e_aload_n hX 0 iX11_isRejectedBy_127 rfl rfl ?_
            refine e_get hX iX11_isRejectedBy_128 gO rfl ?_
            refine e_iload hX iX11_isRejectedBy_131 rfl ?_
            refine e_iload_n hX 2 iX11_isRejectedBy_133 rfl rfl ?_
            refine e_iload hX iX11_isRejectedBy_134 rfl ?_
            refine e_iconst (v := 1) hX iX11_isRejectedBy_136 (by decide) ?_
            refine e_callV hX iX11_isRejectedBy_137 gX (c_note htr (nI idx) (nI q) (nI i) true gX) rfl rfl ⟨by decide, by decide, by decide, by decide⟩ (Nat.le_of_ble_eq_true rfl) (fun _ _ h => h.elim) (fun v9 ph9 hv9 => ?_)
            obtain ⟨rfl, e9⟩ := hv9
            subst ph9
            refine e_iconst (v := 1) hX iX11_isRejectedBy_140 (by decide) ?_
            exact e_zret hX hQ iX11_isRejectedBy_141 rfl nar_1 (by decide) (by decide) (Or.inr ⟨_, e0, rfl, rfl⟩)
  have loop1 : brkR (gR σ q) (gW σ idx) = false → ∀ (z i : Nat), gN σ - i < z → i ≤ gN σ → (∀ y, y < i → A y = false) → EJ θ x 25 [(0, .ref g), (1, .ref (u q)), (2, .int (nI q)), (3, .ref (b idx)), (4, .int (nI idx)), (5, .int (nI i))] [] ph 0 0 := by
    intro h1 z
    induction z with
    | zero => intro i hz; omega
    | succ z ih =>
      intro i hz hii hinv
      refine e_iload hX iX11_isRejectedBy_25 rfl ?_
      refine e_aload_n hX 0 iX11_isRejectedBy_27 rfl rfl ?_
      refine e_get hX iX11_isRejectedBy_28 gO rfl ?_
      refine e_callV hX iX11_isRejectedBy_31 (lst.hp gT) (c_size htr gT) rfl rfl ⟨by decide, by decide, by decide, by decide⟩ (Nat.le_of_ble_eq_true rfl) (fun _ _ h => h.elim) (fun v9 ph9 hv9 => ?_)
      obtain ⟨rfl, e9⟩ := hv9
      subst ph9
      refine e_icmp_ge hX iX11_isRejectedBy_34 (fun c34 => ?_) (fun c34 => ?_)
      · have hin := nI_same hii (by omega) c34
        subst hin
        refine e_iconst (v := 0) hX iX11_isRejectedBy_85 (by decide) ?_
        refine e_istore hX iX11_isRejectedBy_86 (by decide) ?_
        refine e_loc [0, 1, 2, 3, 4, 5] ?_
        exact loop2 h1 hinv (idx + 1) 0 (by omega) (by omega) (fun y hy => absurd hy (Nat.not_lt_zero y))
      · have hin := nI_less hii (by omega) c34
        have hrj := gTr i hin
        refine e_aload_n hX 0 iX11_isRejectedBy_37 rfl rfl ?_
        refine e_get hX iX11_isRejectedBy_38 gO rfl ?_
        refine e_iload hX iX11_isRejectedBy_41 rfl ?_
        refine e_callV hX iX11_isRejectedBy_43 (lst.hp gT) (c_lget (i := i) htr gT hin) rfl rfl ⟨by decide, by decide, by decide, by decide⟩ (Nat.le_of_ble_eq_true rfl) (fun _ _ h => h.elim) (fun v9 ph9 hv9 => ?_)
        obtain ⟨rfl, e9⟩ := hv9
        subst ph9
        refine e_castS hX iX11_isRejectedBy_46 klRX11_79 (rowAt.hp hrj) rfl ?_
        refine e_astore hX iX11_isRejectedBy_49 (by decide) ?_
        refine e_aload_n hX 1 iX11_isRejectedBy_51 rfl rfl ?_
        refine e_aload_n hX 3 iX11_isRejectedBy_52 rfl rfl ?_
        refine e_aload hX iX11_isRejectedBy_53 rfl ?_
        refine e_callCls hX iX11_isRejectedBy_55_c7 iX11_isRejectedBy_55_c8 iX11_isRejectedBy_55_c9 iX11_isRejectedBy_55_c10 iX11_isRejectedBy_55_c11 htr hρ hb hrj ⟨by decide, by decide, by decide, by decide⟩ (Nat.le_of_ble_eq_true rfl) ?_
        refine e_if_eq hX iX11_isRejectedBy_58 (fun c58 => ?_) (fun c58 => ?_)
        · refine e_iinc hX iX11_isRejectedBy_79 rfl (by first | exact nI_inc _ | rfl) (by decide) ?_
          refine e_goto hX iX11_isRejectedBy_82 ?_
          refine e_loc [0, 1, 2, 3, 4, 5] ?_
          refine ih (i + 1) (by omega) (by omega) (fun y hy => ?_)
          by_cases e : y = i
          · subst e; exact b2i_0.mp c58
          · exact hinv y (by omega)
        · have hc := b2i_n0.mp c58
          have e0 : rjO σ (gR σ q) idx = some (gI σ i, false) := by
            unfold rjO
            rw [if_neg (by rw [h1]; decide), lowG_u (P := fun i' => clsR (gR σ q) (gW σ idx) (gV σ i')) hin hc hinv, if_pos hin]
          refine e_aload_n hX 0 iX11_isRejectedBy_61 rfl rfl ?_
          refine e_get hX iX11_isRejectedBy_62 gO rfl ?_
          refine e_iload hX iX11_isRejectedBy_65 rfl ?_
          refine e_iload_n hX 2 iX11_isRejectedBy_67 rfl rfl ?_
          refine e_aload hX iX11_isRejectedBy_68 rfl ?_
          refine e_get hX iX11_isRejectedBy_70 hrj.1 rfl ?_
          refine e_iconst (v := 0) hX iX11_isRejectedBy_73 (by decide) ?_
          refine e_callV hX iX11_isRejectedBy_74 gX (c_note htr (nI idx) (nI q) (gI σ i) false gX) rfl rfl ⟨by decide, by decide, by decide, by decide⟩ (Nat.le_of_ble_eq_true rfl) (fun _ _ h => h.elim) (fun v9 ph9 hv9 => ?_)
          obtain ⟨rfl, e9⟩ := hv9
          subst ph9
          refine e_iconst (v := 1) hX iX11_isRejectedBy_77 (by decide) ?_
          exact e_zret hX hQ iX11_isRejectedBy_78 rfl nar_1 (by decide) (by decide) (Or.inr ⟨_, e0, rfl, rfl⟩)
  refine e_aload_n hX 1 iX11_isRejectedBy_0 rfl rfl ?_
  refine e_aload_n hX 3 iX11_isRejectedBy_1 rfl rfl ?_
  refine e_callBrk hX iX11_isRejectedBy_2_c7 iX11_isRejectedBy_2_c8 iX11_isRejectedBy_2_c9 iX11_isRejectedBy_2_c10 iX11_isRejectedBy_2_c11 htr hρ hb ⟨by decide, by decide, by decide, by decide⟩ (Nat.le_of_ble_eq_true rfl) ?_
  refine e_if_eq hX iX11_isRejectedBy_5 (fun c5 => ?_) (fun c5 => ?_)
  · refine e_iconst (v := 0) hX iX11_isRejectedBy_22 (by decide) ?_
    refine e_istore hX iX11_isRejectedBy_23 (by decide) ?_
    refine e_loc [0, 1, 2, 3, 4, 5] ?_
    exact loop1 (b2i_0.mp c5) (gN σ + 1) 0 (by omega) (by omega) (fun y hy => absurd hy (Nat.not_lt_zero y))
  · have e0 : rjO σ (gR σ q) idx = some (-1, false) := if_pos (b2i_n0.mp c5)
    refine e_aload_n hX 0 iX11_isRejectedBy_8 rfl rfl ?_
    refine e_get hX iX11_isRejectedBy_9 gO rfl ?_
    refine e_iload hX iX11_isRejectedBy_12 rfl ?_
    refine e_iload_n hX 2 iX11_isRejectedBy_14 rfl rfl ?_
    refine e_iconst (v := (-1)) hX iX11_isRejectedBy_15 (by decide) ?_
    refine e_iconst (v := 0) hX iX11_isRejectedBy_16 (by decide) ?_
    refine e_callV hX iX11_isRejectedBy_17 gX (c_note htr (nI idx) (nI q) (-1) false gX) rfl rfl ⟨by decide, by decide, by decide, by decide⟩ (Nat.le_of_ble_eq_true rfl) (fun _ _ h => h.elim) (fun v9 ph9 hv9 => ?_)
    obtain ⟨rfl, e9⟩ := hv9
    subst ph9
    refine e_iconst (v := 1) hX iX11_isRejectedBy_20 (by decide) ?_
    exact e_zret hX hQ iX11_isRejectedBy_21 rfl nar_1 (by decide) (by decide) (Or.inr ⟨_, e0, rfl, rfl⟩)
/-- the first rule that stands against staged row idx -/
def hitR (σ : SG) (idx q : Nat) : Bool := stR (gR σ q) && (!drR (gR σ q) && (rjO σ (gR σ q) idx).isSome)
def rjQ (σ : SG) (idx : Nat) : Nat := lowG (hitR σ idx) (gK σ) 0
def rjI (σ : SG) : Nat := lowG (fun idx => decide (rjQ σ idx < gK σ)) (gM σ) 0
def rjW (σ : SG) : Int32 × Bool := (rjO σ (gR σ (rjQ σ (rjI σ))) (rjI σ)).getD (0, false)
theorem c_batchRej (htr : l.stackTraces = false) (hg : GI θ ph g X σ κ te be ue r wr b wb u) : MC yX11_isBatchRejected cX11_isBatchRejected 4 (some .boolean) 4 0 0 l θ [.ref g] ph (fun z p => (¬ rjI σ < gM σ ∧ z = some (.int 0) ∧ p = ph) ∨ (rjI σ < gM σ ∧ z = some (.int 1) ∧ p = e_up ph (κ 3) (rejC (rjI σ) (rjQ σ (rjI σ)) (rjW σ)))) (fun _ _ => False) := by
  have hm := hg.2.2.2.2.2.2.2.2.1.2.1
  have hk := hg.2.2.2.2.2.2.2.2.1.2.2.1
  have hg0 := hg
  obtain ⟨gO, -, ⟨gB, gBr⟩, ⟨gU, gUr⟩, -⟩ := hg
  refine MC.of htr (by decide) (Nat.le_of_ble_eq_true rfl) ?_
  intro x hX hQ hT
  have outer : ∀ (z i : Nat), gM σ - i < z → i ≤ gM σ → (∀ y, y < i → decide (rjQ σ y < gK σ) = false) → EJ θ x 2 [(0, .ref g), (1, .int (nI i))] [] ph 0 0 := by
    intro z
    induction z with
    | zero => intro i hz; omega
    | succ z ih =>
      intro i hz hii hinv
      refine e_iload_n hX 1 iX11_isBatchRejected_2 rfl rfl ?_
      refine e_aload_n hX 0 iX11_isBatchRejected_3 rfl rfl ?_
      refine e_get hX iX11_isBatchRejected_4 gO rfl ?_
      refine e_callV hX iX11_isBatchRejected_7 (lst.hp gB) (c_size htr gB) rfl rfl ⟨by decide, by decide, by decide, by decide⟩ (Nat.le_of_ble_eq_true rfl) (fun _ _ h => h.elim) (fun v9 ph9 hv9 => ?_)
      obtain ⟨rfl, e9⟩ := hv9
      subst ph9
      refine e_icmp_ge hX iX11_isBatchRejected_10 (fun c10 => ?_) (fun c10 => ?_)
      · have hin := nI_same hii (by omega) c10
        subst hin
        have e0 : ¬ rjI σ < gM σ := by unfold rjI; rw [lowG_all hinv]; exact Nat.lt_irrefl _
        refine e_iconst (v := 0) hX iX11_isBatchRejected_87 (by decide) ?_
        exact e_zret hX hQ iX11_isBatchRejected_88 rfl nar_0 (by decide) (by decide) (Or.inl ⟨e0, rfl, rfl⟩)
      · have hin := nI_less hii (by omega) c10
        have inner : ∀ (z' q : Nat), gK σ - q < z' → q ≤ gK σ → (∀ y, y < q → hitR σ i y = false) → EJ θ x 15 [(0, .ref g), (1, .int (nI i)), (2, .int (nI q))] [] ph 0 0 := by
          intro z'
          induction z' with
          | zero => intro q hz'; omega
          | succ z' ih' =>
            intro q hz' hqk hk2
            have next : q < gK σ → hitR σ i q = false → EJ θ x 75 [(0, .ref g), (1, .int (nI i)), (2, .int (nI q))] [] ph 0 0 := by
              intro hq hf
              refine e_iinc hX iX11_isBatchRejected_75 rfl (by first | exact nI_inc _ | rfl) (by decide) ?_
              refine e_goto hX iX11_isBatchRejected_78 ?_
              refine e_loc [0, 1, 2] ?_
              refine ih' (q + 1) (by omega) (by omega) (fun y hy => ?_)
              by_cases e : y = q
              · subst e; exact hf
              · exact hk2 y (by omega)
            refine e_iload_n hX 2 iX11_isBatchRejected_15 rfl rfl ?_
            refine e_aload_n hX 0 iX11_isBatchRejected_16 rfl rfl ?_
            refine e_get hX iX11_isBatchRejected_17 gO rfl ?_
            refine e_callV hX iX11_isBatchRejected_20 (lst.hp gU) (c_size htr gU) rfl rfl ⟨by decide, by decide, by decide, by decide⟩ (Nat.le_of_ble_eq_true rfl) (fun _ _ h => h.elim) (fun v9 ph9 hv9 => ?_)
            obtain ⟨rfl, e9⟩ := hv9
            subst ph9
            refine e_icmp_ge hX iX11_isBatchRejected_23 (fun c23 => ?_) (fun c23 => ?_)
            · have hq := nI_same hqk (by omega) c23
              subst hq
              have e1 : rjQ σ i = gK σ := lowG_all hk2
              refine e_iinc hX iX11_isBatchRejected_81 rfl (by first | exact nI_inc _ | rfl) (by decide) ?_
              refine e_goto hX iX11_isBatchRejected_84 ?_
              refine e_loc [0, 1] ?_
              refine ih (i + 1) (by omega) (by omega) (fun y hy => ?_)
              by_cases e : y = i
              · subst e; rw [e1]; exact decide_eq_false (Nat.lt_irrefl _)
              · exact hinv y (by omega)
            · have hq := nI_less hqk (by omega) c23
              have hρ := gUr q hq
              refine e_aload_n hX 0 iX11_isBatchRejected_26 rfl rfl ?_
              refine e_get hX iX11_isBatchRejected_27 gO rfl ?_
              refine e_iload_n hX 2 iX11_isBatchRejected_30 rfl rfl ?_
              refine e_callV hX iX11_isBatchRejected_31 (lst.hp gU) (c_lget (i := q) htr gU hq) rfl rfl ⟨by decide, by decide, by decide, by decide⟩ (Nat.le_of_ble_eq_true rfl) (fun _ _ h => h.elim) (fun v9 ph9 hv9 => ?_)
              obtain ⟨rfl, e9⟩ := hv9
              subst ph9
              refine e_castR hX iX11_isBatchRejected_34 klRX11_206 hρ ?_
              refine e_astore_n hX 3 iX11_isBatchRejected_37 rfl (by decide) ?_
              refine e_aload_n hX 3 iX11_isBatchRejected_38 rfl rfl ?_
              refine e_getSt hX iX11_isBatchRejected_39_c7 iX11_isBatchRejected_39_c8 iX11_isBatchRejected_39_c9 iX11_isBatchRejected_39_c10 iX11_isBatchRejected_39_c11 hρ ?_
              refine e_if_eq hX iX11_isBatchRejected_42 (fun c42 => ?_) (fun c42 => ?_)
              · refine e_loc [0, 1, 2] ?_
                exact next hq (and_f1 (b2i_0.mp c42))
              · refine e_aload_n hX 3 iX11_isBatchRejected_45 rfl rfl ?_
                refine e_getDr hX iX11_isBatchRejected_46_c7 iX11_isBatchRejected_46_c8 iX11_isBatchRejected_46_c9 iX11_isBatchRejected_46_c10 iX11_isBatchRejected_46_c11 hρ ?_
                refine e_if_ne hX iX11_isBatchRejected_49 (fun c49 => ?_) (fun c49 => ?_)
                · refine e_loc [0, 1, 2] ?_
                  exact next hq (and_f2 (and_f1 (by rw [b2i_n0.mp c49]; rfl)))
                · refine e_aload_n hX 0 iX11_isBatchRejected_52 rfl rfl ?_
                  refine e_aload_n hX 3 iX11_isBatchRejected_53 rfl rfl ?_
                  refine e_iload_n hX 2 iX11_isBatchRejected_54 rfl rfl ?_
                  refine e_aload_n hX 0 iX11_isBatchRejected_55 rfl rfl ?_
                  refine e_get hX iX11_isBatchRejected_56 gO rfl ?_
                  refine e_iload_n hX 1 iX11_isBatchRejected_59 rfl rfl ?_
                  refine e_callV hX iX11_isBatchRejected_60 (lst.hp gB) (c_lget (i := i) htr gB hin) rfl rfl ⟨by decide, by decide, by decide, by decide⟩ (Nat.le_of_ble_eq_true rfl) (fun _ _ h => h.elim) (fun v9 ph9 hv9 => ?_)
                  obtain ⟨rfl, e9⟩ := hv9
                  subst ph9
                  refine e_castS hX iX11_isBatchRejected_63 klRX11_79 (rowAt.hp (gBr i hin)) rfl ?_
                  refine e_iload_n hX 1 iX11_isBatchRejected_66 rfl rfl ?_
                  refine e_callV hX iX11_isBatchRejected_67 gO (c_rejBy htr hg0 hq hin) rfl rfl ⟨by decide, by decide, by decide, by decide⟩ (Nat.le_of_ble_eq_true rfl) (fun _ _ h => h.elim) (fun v9 ph9 hv9 => ?_)
                  rcases hv9 with ⟨e1, rfl, e3⟩ | ⟨o, e1, rfl, e3⟩
                  · subst e3
                    refine e_if_eq hX iX11_isBatchRejected_70 (fun c70 => ?_) (fun c70 => ?_)
                    · refine e_loc [0, 1, 2] ?_
                      exact next hq (and_f2 (and_f2 (by rw [e1]; rfl)))
                    · exact absurd rfl c70
                  · refine e_if_eq hX iX11_isBatchRejected_70 (fun c70 => ?_) (fun c70 => ?_)
                    · exact absurd c70 (by decide)
                    · have e4 : hitR σ i q = true := and_tt (b2i_n0.mp c42) (and_tt (by rw [b2i_0.mp c49]; rfl) (by rw [e1]; rfl))
                      have e5 : rjQ σ i = q := lowG_u hq e4 hk2
                      have e6 : rjI σ = i := lowG_u hin (decide_eq_true (by rw [e5]; exact hq)) hinv
                      have e7 : rjW σ = o := by unfold rjW; rw [e6, e5, e1]; rfl
                      refine e_iconst (v := 1) hX iX11_isBatchRejected_73 (by decide) ?_
                      exact e_zret hX hQ iX11_isBatchRejected_74 rfl nar_1 (by decide) (by decide) (Or.inr ⟨by rw [e6]; exact hin, rfl, by rw [e6, e5, e7]; exact e3⟩)
        refine e_iconst (v := 0) hX iX11_isBatchRejected_13 (by decide) ?_
        refine e_istore_n hX 2 iX11_isBatchRejected_14 rfl (by decide) ?_
        refine e_loc [0, 1, 2] ?_
        exact inner (gK σ + 1) 0 (by omega) (by omega) (fun y hy => absurd hy (Nat.not_lt_zero y))
  refine e_iconst (v := 0) hX iX11_isBatchRejected_0 (by decide) ?_
  refine e_istore_n hX 1 iX11_isBatchRejected_1 rfl (by decide) ?_
  refine e_loc [0, 1] ?_
  exact outer (gM σ + 1) 0 (by omega) (by omega) (fun y hy => absurd hy (Nat.not_lt_zero y))
end GCO
def s_rj (σ : SG) (J : Int32 × Int32 × Int32 × Bool) : SG := mkS (gN σ) (gV σ) (gI σ) (gM σ) (gW σ) (gK σ) (gR σ) J (gP σ) (gD σ) (gF σ) (gQ σ)
def s_rej (σ : SG) : SG := s_rj σ (nI (rjI σ), nI (rjQ σ (rjI σ)), (rjW σ).1, (rjW σ).2)
theorem GI.rej {θ : e_T} {ph : e_PH} {g : Nat} {X : Nat → Prop} {σ : SG} {κ : Nat → Nat} {te be ue : Nat} {r wr b wb u : Nat → Nat} (hg : GI θ ph g X σ κ te be ue r wr b wb u) {i q : Nat} {o : Int32 × Bool} (hi : i < 12) : GI θ (e_up ph (κ 3) (rejC i q o)) g X (s_rj σ (nI i, nI q, o.1, o.2)) κ te be ue r wr b wb u ∧ kx ph (e_up ph (κ 3) (rejC i q o)) X := by
  have hk : kept ph (e_up ph (κ 3) (rejC i q o)) (fun a => a = κ 3) := kept.refl.up2 (Or.inl rfl)
  have h0 := hg.2.2.2.2.1
  have ha := hg.2.2.2.2.2.2.2.2.2
  have no : ∀ a c, ph a = some c → (∀ fs, c ≠ e_O 6 fs) → e_up ph (κ 3) (rejC i q o) a = some c := fun a c hc hn => hk a c hc (fun e => by subst e; rw [h0] at hc; exact hn _ (Option.some.inj hc).symm)
  obtain ⟨gO, ⟨gT, gTr⟩, ⟨gB, gBr⟩, ⟨gU, gUr⟩, gX, ⟨⟨a1, b1, f1, h4, h5⟩, ⟨a2, f2, h6, h7⟩, a3, f3, h8, h9⟩, ⟨⟨f9, gq0, gq1⟩, gq2⟩, gd, gok, gav⟩ := hg
  have cr : ∀ {q' w : Nat} {v : Nat → Int32} {id : Int32}, rowAt θ ph q' w v id → rowAt θ (e_up ph (κ 3) (rejC i q o)) q' w v id := fun hr => ⟨no _ _ hr.1 (fun fs => e_OO (by decide)), no _ _ hr.2 (fun fs => e_IO)⟩
  have cl : ∀ {a ed n : Nat} {r : Nat → Nat}, lst θ ph a ed n r → lst θ (e_up ph (κ 3) (rejC i q o)) a ed n r := fun hl => hl.keep2 hk (fun b fs hb e => by subst e; rw [h0] at hb; exact e_OO (by decide) (Option.some.inj hb)) (fun b N f hb e => by subst e; rw [h0] at hb; exact e_OR (Option.some.inj hb))
  have hkx : kx ph (e_up ph (κ 3) (rejC i q o)) X := fun a c hxa hc => hk a c hc (fun e => by subst e; exact ha.2.2.1 3 (by omega) hxa)
  exact ⟨⟨no _ _ gO (fun fs => e_OO (by decide)), ⟨cl gT, fun i hi => cr (gTr i hi)⟩, ⟨cl gB, fun i hi => cr (gBr i hi)⟩, ⟨cl gU, fun i hi => ⟨(gUr i hi).1, no _ _ (gUr i hi).2 (fun fs => e_OO (by omega))⟩⟩, e_up_s, ⟨⟨a1, b1, f1, no _ _ h4 (fun fs => e_OO (by decide)), no _ _ h5 (fun fs => e_IO)⟩, ⟨a2, f2, no _ _ h6 (fun fs => e_OO (by decide)), no _ _ h7 (fun fs => e_IO)⟩, a3, f3, no _ _ h8 (fun fs => e_OO (by decide)), no _ _ h9 (fun fs => e_IO)⟩, ⟨⟨f9, no _ _ gq0 (fun fs => e_OII.symm), gq1⟩, fun j hj => no _ _ (gq2 j hj) (fun fs => e_IO)⟩, gd, ⟨gok.1, gok.2.1, gok.2.2.1, gok.2.2.2.1, gok.2.2.2.2.1, gok.2.2.2.2.2.1, gok.2.2.2.2.2.2.1, fun e => absurd e (by show ¬ nI i = -1; exact (by decide : ∀ i, i < 12 → ¬ nI i = -1) i hi)⟩, hkx.in gav.1, gav.2⟩, hkx⟩
