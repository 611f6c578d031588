/-! the model: groupsAll, groups, groupSize -/
section MONB
variable {l : Launch} {θ : e_T} {ph : e_PH} {mo : Nat} {μ : Nat → Nat} {σ : SG} {t : Int32} {s : Nat → Int32} {F : Nat → Nat → Int32}
theorem MR.group {σ : SG} {s : Nat → Int32} {F : Nat → Nat → Int32} (hr : MR σ s F) (f : Nat → Int32) : MR σ s (updF F 10 f) := hr
theorem n_groupsAll (htr : l.stackTraces = false) (hm : MI θ ph mo μ s F) (hr : MR σ s F) : MC yX12_groupsAll cX12_groupsAll 4 none 4 0 0 l θ [.ref mo] ph (fun z p => z = none ∧ (∃ f, (∀ k, k < gN σ → f k = nI (labN σ k)) ∧ MI θ p mo μ s (updF F 10 f)) ∧ kept ph p (mS mo μ)) (fun _ _ => False) := by
  have hn := hr.ok.1
  have hk10 := hr.ok.2.2.1
  refine MC.of htr (by decide) (Nat.le_of_ble_eq_true rfl) ?_
  intro x hX hQ hT
  have loop2 : ∀ (z r : Nat) (p : e_PH) (f : Nat → Int32), gN σ - r < z → r ≤ gN σ → (∀ j, j < gN σ → f j = nI (lbR (adjS σ) (gN σ) r j)) → MI θ p mo μ s (updF F 10 f) → kept ph p (mS mo μ) → EJ θ x 25 [(0, .ref mo), (1, .int (nI r))] [] p 0 0 := by
    intro z
    induction z with
    | zero => intro r p f hz; omega
    | succ z ih =>
      intro r p f hz hrr hf hmp hkp
      refine e_iload_n hX 1 iX12_groupsAll_25 rfl rfl ?_
      refine e_aload_n hX 0 iX12_groupsAll_26 rfl rfl ?_
      refine e_get hX iX12_groupsAll_27 hmp.1 rfl ?_
      rw [hr.1.1]
      refine e_icmp_ge hX iX12_groupsAll_30 (fun c30 => ?_) (fun c30 => ?_)
      · have hrn := nI_same hrr (by omega) c30
        subst hrn
        exact e_vret hX hQ iX12_groupsAll_112 rfl (by decide) (by decide) ⟨rfl, ⟨f, hf, hmp⟩, hkp⟩
      · have hrn := nI_less hrr (by omega) c30
        have loopK : ∀ (z2 k : Nat) (p : e_PH) (f : Nat → Int32), gN σ - k < z2 → k ≤ gN σ → (∀ j, j < gN σ → f j = nI (lbK (adjS σ) (gN σ) k (lbR (adjS σ) (gN σ) r) j)) → MI θ p mo μ s (updF F 10 f) → kept ph p (mS mo μ) → EJ θ x 35 [(0, .ref mo), (1, .int (nI r)), (2, .int (nI k))] [] p 0 0 := by
          intro z2
          induction z2 with
          | zero => intro k p f hz2; omega
          | succ z2 ih2 =>
            intro k p f hz2 hk hf hmp hkp
            refine e_iload_n hX 2 iX12_groupsAll_35 rfl rfl ?_
            refine e_aload_n hX 0 iX12_groupsAll_36 rfl rfl ?_
            refine e_get hX iX12_groupsAll_37 hmp.1 rfl ?_
            rw [hr.1.1]
            refine e_icmp_ge hX iX12_groupsAll_40 (fun c40 => ?_) (fun c40 => ?_)
            · have hkn := nI_same hk (by omega) c40
              refine e_iinc hX iX12_groupsAll_106 rfl (by first | exact nI_inc _ | rfl) (by decide) ?_
              refine e_goto hX iX12_groupsAll_109 ?_
              refine e_loc [0, 1] ?_
              refine ih (r + 1) p f (by omega) (by omega) (fun j hj => ?_) hmp hkp
              rw [hf j hj, hkn]
              rfl
            · have hkn := nI_less hk (by omega) c40
              have loopI : ∀ (z3 i : Nat) (p : e_PH) (f : Nat → Int32), gN σ - i < z3 → i ≤ gN σ → (∀ j, j < gN σ → f j = nI (lbI (adjS σ) k i (lbK (adjS σ) (gN σ) k (lbR (adjS σ) (gN σ) r)) j)) → MI θ p mo μ s (updF F 10 f) → kept ph p (mS mo μ) → EJ θ x 45 [(0, .ref mo), (1, .int (nI r)), (2, .int (nI k)), (3, .int (nI i))] [] p 0 0 := by
                intro z3
                induction z3 with
                | zero => intro i p f hz3; omega
                | succ z3 ih3 =>
                  intro i p f hz3 hi hf hmp hkp
                  have hb : ∀ j, lbI (adjS σ) k i (lbK (adjS σ) (gN σ) k (lbR (adjS σ) (gN σ) r)) j ≤ j := fun j => Nat.le_trans (lbI_le j i) (Nat.le_trans (lbK_le j k) (lbR_le j r))
                  refine e_iload_n hX 3 iX12_groupsAll_45 rfl rfl ?_
                  refine e_aload_n hX 0 iX12_groupsAll_46 rfl rfl ?_
                  refine e_get hX iX12_groupsAll_47 hmp.1 rfl ?_
                  rw [hr.1.1]
                  refine e_icmp_ge hX iX12_groupsAll_50 (fun c50 => ?_) (fun c50 => ?_)
                  · have hin := nI_same hi (by omega) c50
                    refine e_iinc hX iX12_groupsAll_100 rfl (by first | exact nI_inc _ | rfl) (by decide) ?_
                    refine e_goto hX iX12_groupsAll_103 ?_
                    refine e_loc [0, 1, 2] ?_
                    refine ih2 (k + 1) p f (by omega) (by omega) (fun j hj => ?_) hmp hkp
                    rw [hf j hj, hin]
                    rfl
                  · have hin := nI_less hi (by omega) c50
                    have none : (decide (lbI (adjS σ) k i (lbK (adjS σ) (gN σ) k (lbR (adjS σ) (gN σ) r)) i < lbI (adjS σ) k i (lbK (adjS σ) (gN σ) k (lbR (adjS σ) (gN σ) r)) k) && adjS σ k i) = false → EJ θ x 94 [(0, .ref mo), (1, .int (nI r)), (2, .int (nI k)), (3, .int (nI i))] [] p 0 0 := by
                      intro h
                      refine e_iinc hX iX12_groupsAll_94 rfl (by first | exact nI_inc _ | rfl) (by decide) ?_
                      refine e_goto hX iX12_groupsAll_97 ?_
                      refine e_loc [0, 1, 2, 3] ?_
                      refine ih3 (i + 1) p f (by omega) (by omega) (fun j hj => ?_) hmp hkp
                      rw [hf j hj]
                      show _ = nI (lbS (adjS σ) k i _ j)
                      unfold lbS
                      rw [if_neg (by rw [h]; decide)]
                    refine e_iload_n hX 3 iX12_groupsAll_53 rfl rfl ?_
                    refine e_iload_n hX 2 iX12_groupsAll_54 rfl rfl ?_
                    refine e_icmp_eq hX iX12_groupsAll_55 (fun c55 => ?_) (fun c55 => ?_)
                    · have e : i = k := (nI_eq (by omega) (by omega)).mp c55
                      exact none (and_f2 (by rw [e]; exact adjB_s))
                    · have hne : ¬ i = k := fun e => c55 (by rw [e])
                      refine e_aload_n hX 0 iX12_groupsAll_58 rfl rfl ?_
                      refine e_get hX iX12_groupsAll_59 hmp.1 rfl ?_
                      refine e_iload_n hX 3 iX12_groupsAll_62 rfl rfl ?_
                      refine e_iald hX i iX12_groupsAll_63 (hmp.i 10 (by decide) (by decide)) rfl (by show _ < 12; omega) (by show 12 < _; decide) ?_
                      rw [show updF F 10 f 10 i = nI (lbI (adjS σ) k i (lbK (adjS σ) (gN σ) k (lbR (adjS σ) (gN σ) r)) i) from hf i hin]
                      refine e_aload_n hX 0 iX12_groupsAll_64 rfl rfl ?_
                      refine e_get hX iX12_groupsAll_65 hmp.1 rfl ?_
                      refine e_iload_n hX 2 iX12_groupsAll_68 rfl rfl ?_
                      refine e_iald hX k iX12_groupsAll_69 (hmp.i 10 (by decide) (by decide)) rfl (by show _ < 12; omega) (by show 12 < _; decide) ?_
                      rw [show updF F 10 f 10 k = nI (lbI (adjS σ) k i (lbK (adjS σ) (gN σ) k (lbR (adjS σ) (gN σ) r)) k) from hf k hkn]
                      have b1 := hb i
                      have b2 := hb k
                      refine e_icmp_ge hX iX12_groupsAll_70 (fun c70 => ?_) (fun c70 => ?_)
                      · exact none (and_f1 (decide_eq_false (fun h => absurd ((nI_ltI (by omega) (by omega)).mpr h) (Int32.not_lt.mpr c70))))
                      · have hlt := (nI_ltI (by omega) (by omega)).mp (Int32.not_le.mp c70)
                        refine e_aload_n hX 0 iX12_groupsAll_73 rfl rfl ?_
                        refine e_iload_n hX 2 iX12_groupsAll_74 rfl rfl ?_
                        refine e_iload_n hX 3 iX12_groupsAll_75 rfl rfl ?_
                        refine e_callV hX iX12_groupsAll_76 hmp.1 (n_conflicts htr hmp hr.1.2.2.2.1 hk10 (show mrules (updF F 10 f) (gK σ) (gR σ) from hr.rules) (show k < 18 by omega) (show i < 18 by omega)) rfl rfl ⟨by decide, by decide, by decide, by decide⟩ (Nat.le_of_ble_eq_true rfl) (fun _ _ h => h.elim) (fun v9 ph9 hv9 => ?_)
                        obtain ⟨rfl, e9⟩ := hv9
                        subst ph9
                        rw [show conB (gK σ) (gR σ) (vF (updF F 10 f) k) (vF (updF F 10 f) i) = conB (gK σ) (gR σ) (gV σ k) (gV σ i) from hr.con hkn hin]
                        refine e_if_eq hX iX12_groupsAll_79 (fun c79 => ?_) (fun c79 => ?_)
                        · refine e_loc [0, 1, 2, 3] ?_
                          exact none (and_f2 ((adjB_n hne).trans (b2i_0.mp c79)))
                        · have hadj : adjS σ k i = true := (adjB_n hne).trans (b2i_n0.mp c79)
                          refine e_aload_n hX 0 iX12_groupsAll_82 rfl rfl ?_
                          refine e_get hX iX12_groupsAll_83 hmp.1 rfl ?_
                          refine e_iload_n hX 2 iX12_groupsAll_86 rfl rfl ?_
                          refine e_aload_n hX 0 iX12_groupsAll_87 rfl rfl ?_
                          refine e_get hX iX12_groupsAll_88 hmp.1 rfl ?_
                          refine e_iload_n hX 3 iX12_groupsAll_91 rfl rfl ?_
                          refine e_iald hX i iX12_groupsAll_92 (hmp.i 10 (by decide) (by decide)) rfl (by show _ < 12; omega) (by show 12 < _; decide) ?_
                          refine e_iast hX k iX12_groupsAll_93 (hmp.i 10 (by decide) (by decide)) rfl (by show _ < 12; omega) (by show 12 < _; decide) ?_
                          have g1 := hmp.arrI 10 (by decide) (by decide) (upd f k (f i))
                          rw [updF_2] at g1
                          refine e_iinc hX iX12_groupsAll_94 rfl (by first | exact nI_inc _ | rfl) (by decide) ?_
                          refine e_goto hX iX12_groupsAll_97 ?_
                          refine e_loc [0, 1, 2, 3] ?_
                          refine ih3 (i + 1) _ (upd f k (f i)) (by omega) (by omega) (fun j hj => ?_) g1 (mS.arr hkp (j := 10) (by decide))
                          show _ = nI (lbS (adjS σ) k i _ j)
                          unfold lbS
                          rw [if_pos (and_tt (decide_eq_true hlt) hadj)]
                          show upd f k (f i) j = nI (if j = k then _ else _)
                          by_cases e : j = k
                          · rw [if_pos e, e, upd_s, hf i hin]
                          · rw [if_neg e, upd_n e, hf j hj]
              refine e_iconst (v := 0) hX iX12_groupsAll_43 (by decide) ?_
              refine e_istore_n hX 3 iX12_groupsAll_44 rfl (by decide) ?_
              refine e_loc [0, 1, 2, 3] ?_
              exact loopI (gN σ + 1) 0 p f (by omega) (by omega) hf hmp hkp
        refine e_iconst (v := 0) hX iX12_groupsAll_33 (by decide) ?_
        refine e_istore_n hX 2 iX12_groupsAll_34 rfl (by decide) ?_
        refine e_loc [0, 1, 2] ?_
        exact loopK (gN σ + 1) 0 p f (by omega) (by omega) hf hmp hkp
  have loop1 : ∀ (z k : Nat) (p : e_PH) (f : Nat → Int32), gN σ - k < z → k ≤ gN σ → (∀ j, j < k → f j = nI j) → MI θ p mo μ s (updF F 10 f) → kept ph p (mS mo μ) → EJ θ x 2 [(0, .ref mo), (1, .int (nI k))] [] p 0 0 := by
    intro z
    induction z with
    | zero => intro k p f hz; omega
    | succ z ih =>
      intro k p f hz hk hf hmp hkp
      refine e_iload_n hX 1 iX12_groupsAll_2 rfl rfl ?_
      refine e_aload_n hX 0 iX12_groupsAll_3 rfl rfl ?_
      refine e_get hX iX12_groupsAll_4 hmp.1 rfl ?_
      rw [hr.1.1]
      refine e_icmp_ge hX iX12_groupsAll_7 (fun c7 => ?_) (fun c7 => ?_)
      · have hkn := nI_same hk (by omega) c7
        refine e_iconst (v := 0) hX iX12_groupsAll_23 (by decide) ?_
        refine e_istore_n hX 1 iX12_groupsAll_24 rfl (by decide) ?_
        refine e_loc [0, 1] ?_
        exact loop2 (gN σ + 1) 0 p f (by omega) (by omega) (fun j hj => hf j (by omega)) hmp hkp
      · have hkn := nI_less hk (by omega) c7
        refine e_aload_n hX 0 iX12_groupsAll_10 rfl rfl ?_
        refine e_get hX iX12_groupsAll_11 hmp.1 rfl ?_
        refine e_iload_n hX 1 iX12_groupsAll_14 rfl rfl ?_
        refine e_iload_n hX 1 iX12_groupsAll_15 rfl rfl ?_
        refine e_iast hX k iX12_groupsAll_16 (hmp.i 10 (by decide) (by decide)) rfl (by show _ < 12; omega) (by show 12 < _; decide) ?_
        have g1 := hmp.arrI 10 (by decide) (by decide) (upd f k (nI k))
        rw [updF_2] at g1
        refine e_iinc hX iX12_groupsAll_17 rfl (by first | exact nI_inc _ | rfl) (by decide) ?_
        refine e_goto hX iX12_groupsAll_20 ?_
        refine e_loc [0, 1] ?_
        refine ih (k + 1) _ (upd f k (nI k)) (by omega) (by omega) (fun j hj => ?_) g1 (mS.arr hkp (j := 10) (by decide))
        by_cases e : j = k
        · rw [e, upd_s]
        · rw [upd_n e]; exact hf j (by omega)
  refine e_iconst (v := 0) hX iX12_groupsAll_0 (by decide) ?_
  refine e_istore_n hX 1 iX12_groupsAll_1 rfl (by decide) ?_
  refine e_loc [0, 1] ?_
  refine loop1 (gN σ + 1) 0 ph (F 10) (by omega) (by omega) (fun j hj => absurd hj (Nat.not_lt_zero j)) ?_ kept.refl
  rw [updF_id]
  exact hm
theorem lab_lt {σ : SG} (k : Nat) : labN σ k ≤ k := lbR_le k _
theorem w_groups (htr : l.stackTraces = false) (hm : MP θ ph mo μ σ t) : MC yX12_groups cX12_groups 3 (some .int) 5 0 0 l θ [.ref mo] ph (nP θ ph mo μ σ 0 (.int (nI (a_groups σ)))) (fun _ _ => False) := by
  rw [groups_eq]
  obtain ⟨s, F, hm, hr, rfl⟩ := hm
  have hn := hr.ok.1
  refine MC.of htr (by decide) (Nat.le_of_ble_eq_true rfl) ?_
  intro x hX hQ hT
  refine e_aload_n hX 0 iX12_groups_0 rfl rfl ?_
  refine e_callV hX iX12_groups_1 hm.1 (n_groupsAll htr hm hr) rfl rfl ⟨by decide, by decide, by decide, by decide⟩ (Nat.le_of_ble_eq_true rfl) (fun _ _ h => h.elim) (fun v9 ph9 hv9 => ?_)
  obtain ⟨rfl, ⟨f, hf, hm2⟩, hk2⟩ := hv9
  let P : Nat → Bool := fun k => decide (labN σ k = k)
  have loop : ∀ (z i : Nat), gN σ - i < z → i ≤ gN σ → EJ θ x 8 [(0, .ref mo), (1, .int (nI (cntB i P))), (2, .int (nI i))] [] ph9 0 0 := by
    intro z
    induction z with
    | zero => intro i hz; omega
    | succ z ih =>
      intro i hz hi
      have back : ∀ d, d = (if P i = true then 1 else 0) → i < gN σ → EJ θ x 32 [(0, .ref mo), (1, .int (nI (cntB i P))), (2, .int (nI i))] [.int (nI d), .int (nI (cntB i P))] ph9 0 0 := by
        intro d hd hin
        refine e_iadd hX iX12_groups_32 ?_
        rw [nI_add]
        refine e_istore_n hX 1 iX12_groups_33 rfl (by decide) ?_
        refine e_iinc hX iX12_groups_34 rfl (by first | exact nI_inc _ | rfl) (by decide) ?_
        refine e_goto hX iX12_groups_37 ?_
        refine e_loc [0, 1, 2] ?_
        rw [hd]
        exact ih (i + 1) (by omega) (by omega)
      refine e_iload_n hX 2 iX12_groups_8 rfl rfl ?_
      refine e_aload_n hX 0 iX12_groups_9 rfl rfl ?_
      refine e_get hX iX12_groups_10 hm2.1 rfl ?_
      rw [hr.1.1]
      refine e_icmp_ge hX iX12_groups_13 (fun c13 => ?_) (fun c13 => ?_)
      · have hin := nI_same hi (by omega) c13
        subst hin
        refine e_aload_n hX 0 iX12_groups_40 rfl rfl ?_
        refine e_iload_n hX 1 iX12_groups_41 rfl rfl ?_
        refine e_callV hX iX12_groups_42 hm2.1 (n_tells htr hm2 (nI (cntB (gN σ) P))) rfl rfl ⟨by decide, by decide, by decide, by decide⟩ (Nat.le_of_ble_eq_true rfl) (fun _ _ h => h.elim) (fun v8 ph8 hv8 => ?_)
        obtain ⟨rfl, e8⟩ := hv8
        subst ph8
        exact e_iret hX hQ iX12_groups_45 rfl (by decide) (by decide) (nP.mk (hm2.told (hr.group f) hk2 0) rfl rfl)
      · have hin := nI_less hi (by omega) c13
        refine e_iload_n hX 1 iX12_groups_16 rfl rfl ?_
        refine e_aload_n hX 0 iX12_groups_17 rfl rfl ?_
        refine e_get hX iX12_groups_18 hm2.1 rfl ?_
        refine e_iload_n hX 2 iX12_groups_21 rfl rfl ?_
        refine e_iald hX i iX12_groups_22 (hm2.i 10 (by decide) (by decide)) rfl (by show _ < 12; omega) (by show 12 < _; decide) ?_
        rw [show updF F 10 f 10 i = nI (labN σ i) from hf i hin]
        have hl := lab_lt (σ := σ) i
        refine e_iload_n hX 2 iX12_groups_23 rfl rfl ?_
        refine e_icmp_ne hX iX12_groups_24 (fun c24 => ?_) (fun c24 => ?_)
        · refine e_iconst (v := 0) hX iX12_groups_31 (by decide) ?_
          exact back 0 (if_neg (by show ¬ decide (labN σ i = i) = true; rw [decide_eq_false (fun e => c24 (by rw [e]))]; decide)).symm hin
        · refine e_iconst (v := 1) hX iX12_groups_27 (by decide) ?_
          refine e_goto hX iX12_groups_28 ?_
          exact back 1 (if_pos (decide_eq_true ((nI_eq (by omega) (by omega)).mp (c24)))).symm hin
  refine e_iconst (v := 0) hX iX12_groups_4 (by decide) ?_
  refine e_istore_n hX 1 iX12_groups_5 rfl (by decide) ?_
  refine e_iconst (v := 0) hX iX12_groups_6 (by decide) ?_
  refine e_istore_n hX 2 iX12_groups_7 rfl (by decide) ?_
  refine e_loc [0, 1, 2] ?_
  exact loop (gN σ + 1) 0 (by omega) (by omega)
theorem w_groupSize (htr : l.stackTraces = false) (hm : MP θ ph mo μ σ t) (id : Int32) : MC yX12_groupSize cX12_groupSize 5 (some .int) 5 0 0 l θ [.ref mo, .int id] ph (nP θ ph mo μ σ (k_id σ id) (zI (k_id σ id) (nI (popN (rchN σ (fnd σ id)))))) (fun _ _ => False) := by
  obtain ⟨s, F, hm, hr, rfl⟩ := hm
  have hn := hr.ok.1
  refine MC.of htr (by decide) (Nat.le_of_ble_eq_true rfl) ?_
  intro x hX hQ hT
  refine e_aload_n hX 0 iX12_groupSize_0 rfl rfl ?_
  refine e_iload_n hX 1 iX12_groupSize_1 rfl rfl ?_
  refine e_callV hX iX12_groupSize_2 hm.1 (n_find htr hm hr.1.1 hn id) rfl rfl ⟨by decide, by decide, by decide, by decide⟩ (Nat.le_of_ble_eq_true rfl) (fun _ _ h => h.elim) (fun v9 ph9 hv9 => ?_)
  obtain ⟨rfl, e9⟩ := hv9
  subst ph9
  rw [hr.fnd id]
  by_cases h1 : fnd σ id < gN σ
  · have hk : k_id σ id = 0 := if_pos h1
    rw [if_pos h1]
    refine e_istore_n hX 2 iX12_groupSize_5 rfl (by decide) ?_
    refine e_iload_n hX 2 iX12_groupSize_6 rfl rfl ?_
    refine e_iconst (v := (-1)) hX iX12_groupSize_7 (by decide) ?_
    refine e_icmp_ne hX iX12_groupSize_8 (fun c8 => ?_) (fun c8 => ?_)
    · refine e_aload_n hX 0 iX12_groupSize_17 rfl rfl ?_
      refine e_callV hX iX12_groupSize_18 hm.1 (n_groupsAll htr hm hr) rfl rfl ⟨by decide, by decide, by decide, by decide⟩ (Nat.le_of_ble_eq_true rfl) (fun _ _ h => h.elim) (fun v9 ph9 hv9 => ?_)
      obtain ⟨rfl, ⟨f, hf, hm2⟩, hk2⟩ := hv9
      obtain ⟨q, hq⟩ : ∃ q, q = fnd σ id := ⟨_, rfl⟩
      rw [← hq]
      rw [← hq] at h1
      let P : Nat → Bool := fun k => decide (labN σ k = labN σ q)
      have loop : ∀ (z i : Nat), gN σ - i < z → i ≤ gN σ → EJ θ x 26 [(0, .ref mo), (2, .int (nI q)), (3, .int (nI (cntB i P))), (4, .int (nI i))] [] ph9 0 0 := by
        intro z
        induction z with
        | zero => intro i hz; omega
        | succ z ih =>
          intro i hz hi
          have back : ∀ d, d = (if P i = true then 1 else 0) → i < gN σ → EJ θ x 57 [(0, .ref mo), (2, .int (nI q)), (3, .int (nI (cntB i P))), (4, .int (nI i))] [.int (nI d), .int (nI (cntB i P))] ph9 0 0 := by
            intro d hd hin
            refine e_iadd hX iX12_groupSize_57 ?_
            rw [nI_add]
            refine e_istore_n hX 3 iX12_groupSize_58 rfl (by decide) ?_
            refine e_iinc hX iX12_groupSize_59 rfl (by first | exact nI_inc _ | rfl) (by decide) ?_
            refine e_goto hX iX12_groupSize_62 ?_
            refine e_loc [0, 2, 3, 4] ?_
            rw [hd]
            exact ih (i + 1) (by omega) (by omega)
          refine e_iload hX iX12_groupSize_26 rfl ?_
          refine e_aload_n hX 0 iX12_groupSize_28 rfl rfl ?_
          refine e_get hX iX12_groupSize_29 hm2.1 rfl ?_
          rw [hr.1.1]
          refine e_icmp_ge hX iX12_groupSize_32 (fun c32 => ?_) (fun c32 => ?_)
          · have hin := nI_same hi (by omega) c32
            subst hin
            refine e_aload_n hX 0 iX12_groupSize_65 rfl rfl ?_
            refine e_iload_n hX 3 iX12_groupSize_66 rfl rfl ?_
            refine e_callV hX iX12_groupSize_67 hm2.1 (n_tells htr hm2 (nI (cntB (gN σ) P))) rfl rfl ⟨by decide, by decide, by decide, by decide⟩ (Nat.le_of_ble_eq_true rfl) (fun _ _ h => h.elim) (fun v8 ph8 hv8 => ?_)
            obtain ⟨rfl, e8⟩ := hv8
            subst ph8
            exact e_iret hX hQ iX12_groupSize_70 rfl (by decide) (by decide) (nP.mk (hm2.told (hr.group f) hk2 0) (by rw [hk]; rfl) (by rw [zI_0 hk, ← hq, grpSize_eq hn h1]))
          · have hin := nI_less hi (by omega) c32
            refine e_iload_n hX 3 iX12_groupSize_35 rfl rfl ?_
            refine e_aload_n hX 0 iX12_groupSize_36 rfl rfl ?_
            refine e_get hX iX12_groupSize_37 hm2.1 rfl ?_
            refine e_iload hX iX12_groupSize_40 rfl ?_
            refine e_iald hX i iX12_groupSize_42 (hm2.i 10 (by decide) (by decide)) rfl (by show _ < 12; omega) (by show 12 < _; decide) ?_
            rw [show updF F 10 f 10 i = nI (labN σ i) from hf i hin]
            refine e_aload_n hX 0 iX12_groupSize_43 rfl rfl ?_
            refine e_get hX iX12_groupSize_44 hm2.1 rfl ?_
            refine e_iload_n hX 2 iX12_groupSize_47 rfl rfl ?_
            refine e_iald hX q iX12_groupSize_48 (hm2.i 10 (by decide) (by decide)) rfl (by show _ < 12; omega) (by show 12 < _; decide) ?_
            rw [show updF F 10 f 10 q = nI (labN σ q) from hf q h1]
            have hl := lab_lt (σ := σ) i
            have hl2 := lab_lt (σ := σ) q
            refine e_icmp_ne hX iX12_groupSize_49 (fun c49 => ?_) (fun c49 => ?_)
            · refine e_iconst (v := 0) hX iX12_groupSize_56 (by decide) ?_
              exact back 0 (if_neg (by show ¬ decide (labN σ i = labN σ q) = true; rw [decide_eq_false (fun e => c49 (by rw [e]))]; decide)).symm hin
            · refine e_iconst (v := 1) hX iX12_groupSize_52 (by decide) ?_
              refine e_goto hX iX12_groupSize_53 ?_
              exact back 1 (if_pos (decide_eq_true ((nI_eq (by omega) (by omega)).mp (c49)))).symm hin
      refine e_iconst (v := 0) hX iX12_groupSize_21 (by decide) ?_
      refine e_istore_n hX 3 iX12_groupSize_22 rfl (by decide) ?_
      refine e_iconst (v := 0) hX iX12_groupSize_23 (by decide) ?_
      refine e_istore hX iX12_groupSize_24 (by decide) ?_
      refine e_loc [0, 2, 3, 4] ?_
      exact loop (gN σ + 1) 0 (by omega) (by omega)
    · exact absurd c8 (m1_ne _ (by omega))
  · have hk : k_id σ id = 1 := if_neg h1
    rw [if_neg h1]
    refine e_istore_n hX 2 iX12_groupSize_5 rfl (by decide) ?_
    refine e_iload_n hX 2 iX12_groupSize_6 rfl rfl ?_
    refine e_iconst (v := (-1)) hX iX12_groupSize_7 (by decide) ?_
    refine e_icmp_ne hX iX12_groupSize_8 (fun c8 => ?_) (fun c8 => ?_)
    · exact absurd rfl c8
    · refine e_aload_n hX 0 iX12_groupSize_11 rfl rfl ?_
      refine e_iconst (v := 1) hX iX12_groupSize_12 (by decide) ?_
      refine e_callV hX iX12_groupSize_13 hm.1 (n_fails htr hm 1) rfl rfl ⟨by decide, by decide, by decide, by decide⟩ (Nat.le_of_ble_eq_true rfl) (fun _ _ h => h.elim) (fun v9 ph9 hv9 => ?_)
      obtain ⟨rfl, e9⟩ := hv9
      subst ph9
      exact e_iret hX hQ iX12_groupSize_16 rfl (by decide) (by decide) (nP.mk (hm.told hr kept.refl 1) (by rw [hk]; rfl) (by rw [zI_n (by omega)]))
end MONB
