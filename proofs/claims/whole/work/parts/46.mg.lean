/-! the model's commit -/
theorem brk_cls {ρ : RU} {v u : Nat → Int32} (h : brkR ρ v = true) : clsR ρ v u = false := by
  obtain ⟨kd, c, xx, yy, sst, dr⟩ := ρ
  have h' : brk kd c xx yy v = true := h
  show cls kd c xx v u = false
  unfold brk at h'
  unfold cls
  by_cases h3 : kd = 3
  · subst h3; have h2 : false = true := h'; cases h2
  · by_cases h4 : kd = 4
    · subst h4; have h2 : false = true := h'; cases h2
    · rw [if_neg h3, if_neg h4]
/-- the staged rows stand behind the table's -/
def MV (σ : SG) (F : Nat → Nat → Int32) : Prop := ∀ j, j < gN σ + gM σ → ∀ c, c < 5 → vF F j c = cat (gN σ) (gV σ) (gW σ) j c
theorem rjO_b {σ : SG} {ρ : RU} {idx : Nat} (h : brkR ρ (gW σ idx) = true) : rjO σ ρ idx = some (-1, false) := if_pos h
theorem rjO_t {σ : SG} {ρ : RU} {idx k0 : Nat} (hk : k0 < gN σ) (h : clsR ρ (gW σ idx) (gV σ k0) = true) (h2 : ∀ k, k < k0 → clsR ρ (gW σ idx) (gV σ k) = false) : rjO σ ρ idx = some (gI σ k0, false) := by
  have hb : ¬ brkR ρ (gW σ idx) = true := fun e => by rw [brk_cls e] at h; cases h
  unfold rjO
  rw [if_neg hb, lowG_u (P := fun i => clsR ρ (gW σ idx) (gV σ i)) hk h h2, if_pos hk]
theorem rjO_s {σ : SG} {ρ : RU} {idx j : Nat} (hj : j < idx) (h : clsR ρ (gW σ idx) (gW σ j) = true) (h2 : ∀ k, k < gN σ → clsR ρ (gW σ idx) (gV σ k) = false) (h3 : ∀ k, k < j → clsR ρ (gW σ idx) (gW σ k) = false) : rjO σ ρ idx = some (nI j, true) := by
  have hb : ¬ brkR ρ (gW σ idx) = true := fun e => by rw [brk_cls e] at h; cases h
  unfold rjO
  rw [if_neg hb, lowG_all (P := fun i => clsR ρ (gW σ idx) (gV σ i)) h2, if_neg (Nat.lt_irrefl _), lowG_u (P := fun j => clsR ρ (gW σ idx) (gW σ j)) hj h h3, if_pos hj]
theorem rjO_n {σ : SG} {ρ : RU} {idx : Nat} (hb : ¬ brkR ρ (gW σ idx) = true) (h2 : ∀ k, k < gN σ → clsR ρ (gW σ idx) (gV σ k) = false) (h3 : ∀ k, k < idx → clsR ρ (gW σ idx) (gW σ k) = false) : rjO σ ρ idx = none := by
  unfold rjO
  rw [if_neg hb, lowG_all (P := fun i => clsR ρ (gW σ idx) (gV σ i)) h2, if_neg (Nat.lt_irrefl _), lowG_all (P := fun j => clsR ρ (gW σ idx) (gW σ j)) h3, if_neg (Nat.lt_irrefl _)]
def rejS (s : Nat → Int32) (idx r : Nat) (o : Int32 × Bool) : Nat → Int32 := upd (upd (upd (upd s 14 (nI idx)) 15 (nI r)) 17 (b2i o.2)) 16 o.1
section MOG
variable {l : Launch} {θ : e_T} {ph : e_PH} {mo : Nat} {μ : Nat → Nat} {σ : SG} {t : Int32}
theorem n_rejects (htr : l.stackTraces = false) {s : Nat → Int32} {F : Nat → Nat → Int32} (hm : MI θ ph mo μ s F) (hr : MR σ s F) (hv : MV σ F) (hle : gN σ + gM σ ≤ 12) {r idx : Nat} (hrk : r < gK σ) (hi : idx < gM σ) : MC yX12_rejects cX12_rejects 5 (some .boolean) 3 0 0 l θ [.ref mo, .int (nI r), .int (nI (gN σ + idx))] ph (fun z p => (hitR σ idx r = false ∧ z = some (.int 0) ∧ p = ph) ∨ ∃ o, hitR σ idx r = true ∧ rjO σ (gR σ r) idx = some o ∧ z = some (.int 1) ∧ p = e_up ph mo (mobj μ (rejS s idx r o))) (fun _ _ => False) := by
  have hk10 := hr.ok.2.2.1
  obtain ⟨hρ, h7, h8⟩ := hr.rules r hrk
  have ho := hρ.2.2.2.2
  -- the model's view of clashes
  have hvi : ∀ c, c < 5 → vF F (gN σ + idx) c = gW σ idx c := fun c hc => by rw [hv _ (by omega) c hc, cat_r (by omega), show gN σ + idx - gN σ = idx by omega]
  have hbr : brkR (gR σ r) (vF F (gN σ + idx)) = brkR (gR σ r) (gW σ idx) := brk_c ho hvi
  have hct : ∀ k, k < gN σ → clsR (gR σ r) (vF F (gN σ + idx)) (vF F k) = clsR (gR σ r) (gW σ idx) (gV σ k) := fun k hk => cls_c ho.2.1 hvi (hr.v hk)
  have hcs : ∀ k, k < idx → clsR (gR σ r) (vF F (gN σ + idx)) (vF F (gN σ + k)) = clsR (gR σ r) (gW σ idx) (gW σ k) := fun k hk => cls_c ho.2.1 hvi (fun c hc => by rw [hv _ (by omega) c hc, cat_r (by omega), show gN σ + k - gN σ = k by omega])
  let A : Nat → Bool := fun k => clsR (gR σ r) (vF F (gN σ + idx)) (vF F k)
  refine MC.of htr (by decide) (Nat.le_of_ble_eq_true rfl) ?_
  intro x hX hQ hT
  have away : hitR σ idx r = false → EJ θ x 18 [(0, .ref mo), (1, .int (nI r)), (2, .int (nI (gN σ + idx)))] [] ph 0 0 := by
    intro h
    refine e_iconst (v := 0) hX iX12_rejects_18 (by decide) ?_
    exact e_zret hX hQ iX12_rejects_19 rfl nar_0 (by decide) (by decide) (Or.inl ⟨h, rfl, rfl⟩)
  -- what is then kept
  have keep : ∀ (y : Int32) (o : Int32 × Bool), hitR σ idx r = true → rjO σ (gR σ r) idx = some o → (o.2 = true ↔ nI (gN σ) ≤ y) → ((y = -1 ∧ o.1 = -1) ∨ (¬ y = -1 ∧ o.2 = true ∧ o.1 = y - nI (gN σ)) ∨ (¬ y = -1 ∧ o.2 = false ∧ ∃ k0, k0 < gN σ ∧ y = nI k0 ∧ o.1 = gI σ k0)) → EJ θ x 76 [(0, .ref mo), (1, .int (nI r)), (2, .int (nI (gN σ + idx))), (3, .int y)] [] ph 0 0 := by
    intro y o hh hro hst hy
    have m1 : MI θ (e_up ph mo (mobj μ (upd s 14 (nI idx)))) mo μ (upd s 14 (nI idx)) F := hm.fld _
    have m2 : MI θ (e_up ph mo (mobj μ (upd (upd s 14 (nI idx)) 15 (nI r)))) mo μ (upd (upd s 14 (nI idx)) 15 (nI r)) F := hm.fld _
    have m3 : MI θ (e_up ph mo (mobj μ (upd (upd (upd s 14 (nI idx)) 15 (nI r)) 17 (b2i o.2)))) mo μ (upd (upd (upd s 14 (nI idx)) 15 (nI r)) 17 (b2i o.2)) F := hm.fld _
    have last : EJ θ x 140 [(0, .ref mo)] [.int o.1, .ref mo] (e_up ph mo (mobj μ (upd (upd (upd s 14 (nI idx)) 15 (nI r)) 17 (b2i o.2)))) 0 0 := by
      refine e_put (fs' := _) hX iX12_rejects_140 m3.1 rfl (Nat.le_of_ble_eq_true rfl) rfl rfl ?_
      rw [e_up_up]
      refine e_iconst (v := 1) hX iX12_rejects_143 (by decide) ?_
      exact e_zret hX hQ iX12_rejects_144 rfl nar_1 (by decide) (by decide) (Or.inr ⟨o, hh, hro, rfl, rfl⟩)
    have stg : EJ θ x 105 [(0, .ref mo), (1, .int (nI r)), (2, .int (nI (gN σ + idx))), (3, .int y)] [.int (b2i o.2), .ref mo] (e_up ph mo (mobj μ (upd (upd s 14 (nI idx)) 15 (nI r)))) 0 0 := by
      refine e_put (fs' := _) hX iX12_rejects_105 m2.1 rfl (Nat.le_of_ble_eq_true rfl) (nar_b _) (fit_b _) ?_
      rw [e_up_up]
      refine e_aload_n hX 0 iX12_rejects_108 rfl rfl ?_
      refine e_iload_n hX 3 iX12_rejects_109 rfl rfl ?_
      refine e_iconst (v := (-1)) hX iX12_rejects_110 (by decide) ?_
      refine e_icmp_ne hX iX12_rejects_111 (fun c111 => ?_) (fun c111 => ?_)
      · refine e_aload_n hX 0 iX12_rejects_118 rfl rfl ?_
        refine e_get hX iX12_rejects_119 m3.1 rfl ?_
        rw [show upd (upd (upd s 14 (nI idx)) 15 (nI r)) 17 (b2i o.2) 17 = b2i o.2 from upd_s]
        refine e_if_eq hX iX12_rejects_122 (fun c122 => ?_) (fun c122 => ?_)
        · have h2 := b2i_0.mp c122
          rcases hy with hy | hy | ⟨-, -, k0, hk0, hyk, hok⟩
          · exact absurd hy.1 c111
          · rw [h2] at hy; exact absurd hy.2.1 (by decide)
          · refine e_aload_n hX 0 iX12_rejects_134 rfl rfl ?_
            refine e_get hX iX12_rejects_135 m3.1 rfl ?_
            refine e_iload_n hX 3 iX12_rejects_138 rfl rfl ?_
            refine e_iald hX k0 iX12_rejects_139 (m3.i 0 (by decide) (by decide)) hyk (by show _ < 12; omega) (by show 12 < _; decide) ?_
            rw [(hr.2.2.1 k0 hk0).1, ← hok]
            refine e_loc [0] ?_
            exact last
        · have h2 := b2i_n0.mp c122
          rcases hy with hy | hy | hy
          · exact absurd hy.1 c111
          · refine e_iload_n hX 3 iX12_rejects_125 rfl rfl ?_
            refine e_aload_n hX 0 iX12_rejects_126 rfl rfl ?_
            refine e_get hX iX12_rejects_127 m3.1 rfl ?_
            rw [show upd (upd (upd s 14 (nI idx)) 15 (nI r)) 17 (b2i o.2) 1 = nI (gN σ) from hr.1.1]
            refine e_isub hX iX12_rejects_130 ?_
            refine e_goto hX iX12_rejects_131 ?_
            rw [← hy.2.2]
            refine e_loc [0] ?_
            exact last
          · rw [h2] at hy; exact absurd hy.2.1 (by decide)
      · refine e_iconst (v := (-1)) hX iX12_rejects_114 (by decide) ?_
        refine e_goto hX iX12_rejects_115 ?_
        have : o.1 = -1 := by
          rcases hy with hy | hy | hy
          · exact hy.2
          · exact absurd c111 hy.1
          · exact absurd c111 hy.1
        rw [← this]
        refine e_loc [0] ?_
        exact last
    refine e_aload_n hX 0 iX12_rejects_76 rfl rfl ?_
    refine e_iload_n hX 2 iX12_rejects_77 rfl rfl ?_
    refine e_aload_n hX 0 iX12_rejects_78 rfl rfl ?_
    refine e_get hX iX12_rejects_79 hm.1 rfl ?_
    rw [hr.1.1]
    refine e_isub hX iX12_rejects_82 ?_
    rw [pk_sub (Nat.le_add_right _ _), show gN σ + idx - gN σ = idx by omega]
    refine e_put (fs' := _) hX iX12_rejects_83 hm.1 rfl (Nat.le_of_ble_eq_true rfl) rfl rfl ?_
    refine e_aload_n hX 0 iX12_rejects_86 rfl rfl ?_
    refine e_iload_n hX 1 iX12_rejects_87 rfl rfl ?_
    refine e_put (fs' := _) hX iX12_rejects_88 m1.1 rfl (Nat.le_of_ble_eq_true rfl) rfl rfl ?_
    rw [e_up_up]
    refine e_aload_n hX 0 iX12_rejects_91 rfl rfl ?_
    refine e_iload_n hX 3 iX12_rejects_92 rfl rfl ?_
    refine e_aload_n hX 0 iX12_rejects_93 rfl rfl ?_
    refine e_get hX iX12_rejects_94 m2.1 rfl ?_
    rw [show upd (upd s 14 (nI idx)) 15 (nI r) 1 = nI (gN σ) from hr.1.1]
    refine e_icmp_lt hX iX12_rejects_97 (fun c97 => ?_) (fun c97 => ?_)
    · refine e_iconst (v := 0) hX iX12_rejects_104 (by decide) ?_
      have : o.2 = false := by
        cases h : o.2
        · rfl
        · exact absurd (hst.mp h) (Int32.not_le.mpr c97)
      rw [this] at stg
      exact stg
    · refine e_iconst (v := 1) hX iX12_rejects_100 (by decide) ?_
      refine e_goto hX iX12_rejects_101 ?_
      have : o.2 = true := hst.mpr (Int32.not_lt.mp c97)
      rw [this] at stg
      exact stg
  have found : ∀ k0, stR (gR σ r) = true → drR (gR σ r) = false → k0 < gN σ + idx → A k0 = true → (∀ k, k < k0 → A k = false) → EJ θ x 76 [(0, .ref mo), (1, .int (nI r)), (2, .int (nI (gN σ + idx))), (3, .int (nI k0))] [] ph 0 0 := by
    intro k0 hst hdr hk0 hA hA2
    by_cases c : k0 < gN σ
    · have e0 := rjO_t c (by rw [← hct k0 c]; exact hA) (fun k hk => by rw [← hct k (by omega)]; exact hA2 k hk)
      refine keep (nI k0) (gI σ k0, false) (and_tt hst (and_tt (by rw [hdr]; rfl) (by rw [e0]; rfl))) e0 ?_ (Or.inr (Or.inr ⟨m1_ne _ (by omega), rfl, k0, c, rfl, rfl⟩))
      exact ⟨fun h => (by cases h), fun h => absurd h (nI_ge c (by omega))⟩
    · have e0 := rjO_s (σ := σ) (ρ := gR σ r) (idx := idx) (j := k0 - gN σ) (by omega) (by rw [← hcs _ (by omega), show gN σ + (k0 - gN σ) = k0 by omega]; exact hA) (fun k hk => by rw [← hct k hk]; exact hA2 k (by omega)) (fun k hk => by rw [← hcs k (by omega)]; exact hA2 _ (by omega))
      refine keep (nI k0) (nI (k0 - gN σ), true) (and_tt hst (and_tt (by rw [hdr]; rfl) (by rw [e0]; rfl))) e0 ⟨fun _ => nI_le (by omega) (by omega), fun _ => rfl⟩ (Or.inr (Or.inl ⟨m1_ne _ (by omega), rfl, (pk_sub (by omega)).symm⟩))
  have loop : stR (gR σ r) = true → drR (gR σ r) = false → ∀ (z k : Nat), gN σ + idx - k < z → k ≤ gN σ + idx → (∀ k2, k2 < k → A k2 = false) → EJ θ x 25 [(0, .ref mo), (1, .int (nI r)), (2, .int (nI (gN σ + idx))), (3, .int (-1)), (4, .int (nI k))] [] ph 0 0 := by
    intro hst hdr z
    induction z with
    | zero => intro k hz; omega
    | succ z ih =>
      intro k hz hk hinv
      refine e_iload hX iX12_rejects_25 rfl ?_
      refine e_iload_n hX 2 iX12_rejects_27 rfl rfl ?_
      refine e_icmp_ge hX iX12_rejects_28 (fun c28 => ?_) (fun c28 => ?_)
      · have hkn := nI_same hk (by omega) c28
        refine e_iload_n hX 3 iX12_rejects_60 rfl rfl ?_
        refine e_iconst (v := (-1)) hX iX12_rejects_61 (by decide) ?_
        refine e_icmp_ne hX iX12_rejects_62 (fun c62 => ?_) (fun c62 => ?_)
        · exact absurd rfl c62
        · refine e_aload_n hX 0 iX12_rejects_65 rfl rfl ?_
          refine e_iload_n hX 1 iX12_rejects_66 rfl rfl ?_
          refine e_iload_n hX 2 iX12_rejects_67 rfl rfl ?_
          refine e_callV hX iX12_rejects_68 hm.1 (n_breaks htr hm (show r < 10 by omega) (show gN σ + idx < 18 by omega) hρ) rfl rfl ⟨by decide, by decide, by decide, by decide⟩ (Nat.le_of_ble_eq_true rfl) (fun _ _ h => h.elim) (fun v9 ph9 hv9 => ?_)
          obtain ⟨rfl, e9⟩ := hv9
          subst ph9
          rw [hbr]
          refine e_if_ne hX iX12_rejects_71 (fun c71 => ?_) (fun c71 => ?_)
          · have e0 := rjO_b (σ := σ) (ρ := gR σ r) (idx := idx) (b2i_n0.mp c71)
            refine e_loc [0, 1, 2, 3] ?_
            refine keep (-1) (-1, false) (and_tt hst (and_tt (by rw [hdr]; rfl) (by rw [e0]; rfl))) e0 ?_ (Or.inl ⟨rfl, rfl⟩)
            exact ⟨fun h => (by cases h), fun h => absurd (Int32.le_trans (nI_pos' (n := gN σ) (by omega)) h) (by decide)⟩
          · have e0 := rjO_n (σ := σ) (ρ := gR σ r) (idx := idx) (by rw [b2i_0.mp c71]; decide) (fun k2 hk2 => by rw [← hct k2 hk2]; exact hinv k2 (by omega)) (fun k2 hk2 => by rw [← hcs k2 hk2]; exact hinv _ (by omega))
            refine e_iconst (v := 0) hX iX12_rejects_74 (by decide) ?_
            exact e_zret hX hQ iX12_rejects_75 rfl nar_0 (by decide) (by decide) (Or.inl ⟨and_f2 (and_f2 (by rw [e0]; rfl)), rfl, rfl⟩)
      · have hkn := nI_less hk (by omega) c28
        refine e_iload_n hX 3 iX12_rejects_31 rfl rfl ?_
        refine e_iconst (v := (-1)) hX iX12_rejects_32 (by decide) ?_
        refine e_icmp_ne hX iX12_rejects_33 (fun c33 => ?_) (fun c33 => ?_)
        · exact absurd rfl c33
        · refine e_aload_n hX 0 iX12_rejects_36 rfl rfl ?_
          refine e_iload_n hX 1 iX12_rejects_37 rfl rfl ?_
          refine e_iload_n hX 2 iX12_rejects_38 rfl rfl ?_
          refine e_iload hX iX12_rejects_39 rfl ?_
          refine e_callV hX iX12_rejects_41 hm.1 (n_clash htr hm (show r < 10 by omega) (show gN σ + idx < 18 by omega) (show k < 18 by omega) hρ) rfl rfl ⟨by decide, by decide, by decide, by decide⟩ (Nat.le_of_ble_eq_true rfl) (fun _ _ h => h.elim) (fun v9 ph9 hv9 => ?_)
          obtain ⟨rfl, e9⟩ := hv9
          subst ph9
          refine e_if_eq hX iX12_rejects_44 (fun c44 => ?_) (fun c44 => ?_)
          · refine e_iconst (v := (-1)) hX iX12_rejects_52 (by decide) ?_
            refine e_istore_n hX 3 iX12_rejects_53 rfl (by decide) ?_
            refine e_iinc hX iX12_rejects_54 rfl (by first | exact nI_inc _ | rfl) (by decide) ?_
            refine e_goto hX iX12_rejects_57 ?_
            refine e_loc [0, 1, 2, 3, 4] ?_
            refine ih (k + 1) (by omega) (by omega) (fun k2 hk2 => ?_)
            by_cases e : k2 = k
            · subst e; exact b2i_0.mp c44
            · exact hinv k2 (by omega)
          · have fin : EJ θ x 60 [(0, .ref mo), (1, .int (nI r)), (2, .int (nI (gN σ + idx))), (3, .int (nI k))] [] ph 0 0 := by
              refine e_iload_n hX 3 iX12_rejects_60 rfl rfl ?_
              refine e_iconst (v := (-1)) hX iX12_rejects_61 (by decide) ?_
              refine e_icmp_ne hX iX12_rejects_62 (fun c62 => ?_) (fun c62 => ?_)
              · exact found k hst hdr hkn (b2i_n0.mp c44) hinv
              · exact absurd c62 (m1_ne _ (by omega))
            refine e_iload hX iX12_rejects_47 rfl ?_
            refine e_goto hX iX12_rejects_49 ?_
            refine e_istore_n hX 3 iX12_rejects_53 rfl (by decide) ?_
            refine e_iinc hX iX12_rejects_54 rfl (by first | exact nI_inc _ | rfl) (by decide) ?_
            refine e_goto hX iX12_rejects_57 ?_
            refine e_iload hX iX12_rejects_25 rfl ?_
            refine e_iload_n hX 2 iX12_rejects_27 rfl rfl ?_
            refine e_icmp_ge hX iX12_rejects_28 (fun c28 => ?_) (fun c28 => ?_)
            · refine e_loc [0, 1, 2, 3] ?_
              exact fin
            · refine e_iload_n hX 3 iX12_rejects_31 rfl rfl ?_
              refine e_iconst (v := (-1)) hX iX12_rejects_32 (by decide) ?_
              refine e_icmp_ne hX iX12_rejects_33 (fun c33 => ?_) (fun c33 => ?_)
              · refine e_loc [0, 1, 2, 3] ?_
                exact fin
              · exact absurd c33 (m1_ne _ (by omega))
  refine e_aload_n hX 0 iX12_rejects_0 rfl rfl ?_
  refine e_get hX iX12_rejects_1 hm.1 rfl ?_
  refine e_iload_n hX 1 iX12_rejects_4 rfl rfl ?_
  refine e_zald hX r iX12_rejects_5 (hm.z 8 (by decide) (by decide)) rfl (by omega) (by decide) ?_
  rw [h8]
  refine e_if_ne hX iX12_rejects_6 (fun c6 => ?_) (fun c6 => ?_)
  · exact away (and_f2 (and_f1 (by rw [b2i_n0.mp c6]; rfl)))
  · refine e_aload_n hX 0 iX12_rejects_9 rfl rfl ?_
    refine e_get hX iX12_rejects_10 hm.1 rfl ?_
    refine e_iload_n hX 1 iX12_rejects_13 rfl rfl ?_
    refine e_zald hX r iX12_rejects_14 (hm.z 7 (by decide) (by decide)) rfl (by omega) (by decide) ?_
    rw [h7]
    refine e_if_ne hX iX12_rejects_15 (fun c15 => ?_) (fun c15 => ?_)
    · refine e_iconst (v := (-1)) hX iX12_rejects_20 (by decide) ?_
      refine e_istore_n hX 3 iX12_rejects_21 rfl (by decide) ?_
      refine e_iconst (v := 0) hX iX12_rejects_22 (by decide) ?_
      refine e_istore hX iX12_rejects_23 (by decide) ?_
      refine e_loc [0, 1, 2, 3, 4] ?_
      exact loop (b2i_n0.mp c15) (b2i_0.mp c6) (gN σ + idx + 1) 0 (by omega) (by omega) (fun k2 hk2 => absurd hk2 (Nat.not_lt_zero k2))
    · exact away (and_f1 (b2i_0.mp c15))
end MOG
