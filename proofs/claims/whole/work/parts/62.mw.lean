/-! the model: findsRepair, the method -/
section MOW
variable {l : Launch} {θ : e_T} {ph : e_PH} {mo : Nat} {μ : Nat → Nat} {σ : SG} {s : Nat → Int32} {F : Nat → Nat → Int32}
theorem MR.against {σ : SG} {s : Nat → Int32} {F : Nat → Nat → Int32} (hr : MR σ s F) (f : Nat → Int32) : MR σ s (updF F 9 f) := hr
theorem MR.best {σ : SG} {s : Nat → Int32} {F : Nat → Nat → Int32} (hr : MR σ s F) (b : Int32) : MR σ (upd s 20 b) F := hr
theorem n_findsRepair (htr : l.stackTraces = false) (hm : MI θ ph mo μ s F) (hr : MR σ s F) : MC yX12_findsRepair cX12_findsRepair 5 (some .int) 4 0 0 l θ [.ref mo] ph (fun z p => z = some (.int (nI (frK σ (s 20) (2 ^ gN σ)).1)) ∧ (∃ f, MI θ p mo μ (upd s 20 (frK σ (s 20) (2 ^ gN σ)).2) (updF F 9 f)) ∧ kept ph p (mS mo μ)) (fun _ _ => False) := by
  have hn := hr.ok.1
  have hk10 := hr.ok.2.2.1
  have hp2 := Nat.pow_le_pow_right (n := 2) (by decide) hn
  have hp1 := Nat.two_pow_pos (gN σ)
  refine MC.of htr (by decide) (Nat.le_of_ble_eq_true rfl) ?_
  intro x hX hQ hT
  -- the third loop: all sets
  have loop3 : ∀ (f : Nat → Int32), (∀ i, i < gN σ → f i = nI (conR σ i)) → ∀ (z k : Nat) (p : e_PH), 2 ^ gN σ - k < z → k ≤ 2 ^ gN σ → MI θ p mo μ (upd s 20 (frK σ (s 20) k).2) (updF F 9 f) → kept ph p (mS mo μ) → EJ θ x 102 [(0, .ref mo), (1, .int (nI (badR σ))), (2, .int (nI (frK σ (s 20) k).1)), (3, .int (nI k))] [] p 0 0 := by
    intro f hf z
    induction z with
    | zero => intro k p hz; omega
    | succ z ih =>
      intro k p hz hk hmp hkp
      have e1 : upd s 20 (frK σ (s 20) k).2 1 = nI (gN σ) := hr.1.1
      have hle := frK_le (σ := σ) (b := s 20) k
      have next : ∀ p2, frK σ (s 20) (k + 1) = frK σ (s 20) k → k < 2 ^ gN σ → p2 = p → EJ θ x 145 [(0, .ref mo), (1, .int (nI (badR σ))), (2, .int (nI (frK σ (s 20) k).1)), (3, .int (nI k))] [] p2 0 0 := by
        intro p2 he hkn hp
        subst hp
        refine e_iinc hX iX12_findsRepair_145 rfl (by first | exact nI_inc _ | rfl) (by decide) ?_
        refine e_goto hX iX12_findsRepair_148 ?_
        refine e_loc [0, 1, 2, 3] ?_
        have := ih (k + 1) p2 (by omega) (by omega) (by rw [he]; exact hmp) hkp
        rw [he] at this
        exact this
      refine e_iload_n hX 3 iX12_findsRepair_102 rfl rfl ?_
      refine e_iconst (v := 1) hX iX12_findsRepair_103 (by decide) ?_
      refine e_aload_n hX 0 iX12_findsRepair_104 rfl rfl ?_
      refine e_get hX iX12_findsRepair_105 hmp.1 rfl ?_
      rw [e1]
      refine e_ishl hX iX12_findsRepair_108 ?_
      rw [sh1 _ (by omega)]
      refine e_icmp_ge hX iX12_findsRepair_109 (fun c109 => ?_) (fun c109 => ?_)
      · have hkn := nI_same hk (by omega) c109
        subst hkn
        refine e_iload_n hX 2 iX12_findsRepair_151 rfl rfl ?_
        exact e_iret hX hQ iX12_findsRepair_152 rfl (by decide) (by decide) ⟨rfl, ⟨f, hmp⟩, hkp⟩
      · have hkn := nI_less hk (by omega) c109
        have hcl : cntR σ k ≤ gN σ := cntB_le _ _
        refine e_aload_n hX 0 iX12_findsRepair_112 rfl rfl ?_
        refine e_iload_n hX 3 iX12_findsRepair_113 rfl rfl ?_
        refine e_callV hX iX12_findsRepair_114 hmp.1 (n_bitsOf htr hmp e1 hn) rfl rfl ⟨by decide, by decide, by decide, by decide⟩ (Nat.le_of_ble_eq_true rfl) (fun _ _ h => h.elim) (fun v9 ph9 hv9 => ?_)
        obtain ⟨rfl, e9⟩ := hv9
        subst ph9
        refine e_istore hX iX12_findsRepair_117 (by decide) ?_
        refine e_iload hX iX12_findsRepair_119 rfl ?_
        refine e_iload_n hX 2 iX12_findsRepair_121 rfl rfl ?_
        refine e_icmp_ge hX iX12_findsRepair_122 (fun c122 => ?_) (fun c122 => ?_)
        · refine e_loc [0, 1, 2, 3] ?_
          exact next _ (if_neg (by
            rw [decide_eq_false (show ¬ cntR σ k < (frK σ (s 20) k).1 from fun h => absurd c122 (nI_ge h (by omega)))]; exact fun h => Bool.noConfusion h)) hkn rfl
        · have c := (nI_ltI (show cntR σ k < 2 ^ 31 by omega) (by omega)).mp (Int32.not_le.mp c122)
          refine e_aload_n hX 0 iX12_findsRepair_125 rfl rfl ?_
          refine e_iload_n hX 3 iX12_findsRepair_126 rfl rfl ?_
          refine e_iload_n hX 1 iX12_findsRepair_127 rfl rfl ?_
          refine e_callV hX iX12_findsRepair_128 hmp.1 (n_isRepair htr hmp e1 hn (show k < 2 ^ 12 by omega) (show badR σ < 2 ^ 12 from rvM_lt hn _ (Nat.le_refl _)) (M := conR σ) (fun i hi => hf i hi) (fun i _ => rvM_lt hn _ (Nat.le_refl _))) rfl rfl ⟨by decide, by decide, by decide, by decide⟩ (Nat.le_of_ble_eq_true rfl) (fun _ _ h => h.elim) (fun v9 ph9 hv9 => ?_)
          obtain ⟨rfl, e9⟩ := hv9
          subst ph9
          refine e_if_ne hX iX12_findsRepair_131 (fun c131 => ?_) (fun c131 => ?_)
          · have c2 := b2i_n0.mp c131
            have e0 : frK σ (s 20) (k + 1) = (cntR σ k, nI k) := if_pos (by rw [decide_eq_true c, c2]; rfl)
            refine e_iload hX iX12_findsRepair_137 rfl ?_
            refine e_istore_n hX 2 iX12_findsRepair_139 rfl (by decide) ?_
            refine e_aload_n hX 0 iX12_findsRepair_140 rfl rfl ?_
            refine e_iload_n hX 3 iX12_findsRepair_141 rfl rfl ?_
            refine e_put (fs' := _) hX iX12_findsRepair_142 hmp.1 rfl (Nat.le_of_ble_eq_true rfl) rfl rfl ?_
            have g1 : MI θ (e_up p mo (mobj μ (upd s 20 (nI k)))) mo μ (upd s 20 (nI k)) (updF F 9 f) := hmp.fld _
            refine e_iinc hX iX12_findsRepair_145 rfl (by first | exact nI_inc _ | rfl) (by decide) ?_
            refine e_goto hX iX12_findsRepair_148 ?_
            refine e_loc [0, 1, 2, 3] ?_
            have := ih (k + 1) (e_up p mo (mobj μ (upd s 20 (nI k)))) (by omega) (by omega) (by rw [e0]; exact g1) (mS.fld hkp)
            rw [e0] at this
            exact this
          · have c2 := b2i_0.mp c131
            refine e_goto hX iX12_findsRepair_134 ?_
            refine e_loc [0, 1, 2, 3] ?_
            exact next _ (if_neg (by rw [c2, Bool.and_false]; decide)) hkn rfl
  -- the first loop: bad rows and partners
  have loop1 : ∀ (z k : Nat) (p : e_PH) (f : Nat → Int32), gN σ - k < z → k ≤ gN σ → (∀ i, i < k → f i = nI (conR σ i)) → MI θ p mo μ s (updF F 9 f) → kept ph p (mS mo μ) → EJ θ x 4 [(0, .ref mo), (1, .int (nI (rvM (gN σ) (fun i => badB (gK σ) (gR σ) (gV σ i)) k))), (2, .int (nI k))] [] p 0 0 := by
    intro z
    induction z with
    | zero => intro k p f hz; omega
    | succ z ih =>
      intro k p f hz hk hf hmp hkp
      refine e_iload_n hX 2 iX12_findsRepair_4 rfl rfl ?_
      refine e_aload_n hX 0 iX12_findsRepair_5 rfl rfl ?_
      refine e_get hX iX12_findsRepair_6 hmp.1 rfl ?_
      rw [hr.1.1]
      refine e_icmp_ge hX iX12_findsRepair_9 (fun c9 => ?_) (fun c9 => ?_)
      · have hkn := nI_same hk (by omega) c9
        subst hkn
        refine e_aload_n hX 0 iX12_findsRepair_93 rfl rfl ?_
        refine e_get hX iX12_findsRepair_94 hmp.1 rfl ?_
        rw [hr.1.1]
        refine e_iconst (v := 1) hX iX12_findsRepair_97 (by decide) ?_
        refine e_iadd hX iX12_findsRepair_98 ?_
        rw [show nI (gN σ) + 1 = nI (gN σ + 1) from nI_1 _]
        refine e_istore_n hX 2 iX12_findsRepair_99 rfl (by decide) ?_
        refine e_iconst (v := 0) hX iX12_findsRepair_100 (by decide) ?_
        refine e_istore_n hX 3 iX12_findsRepair_101 rfl (by decide) ?_
        refine e_loc [0, 1, 2, 3] ?_
        refine loop3 f hf (2 ^ gN σ + 1) 0 p (by omega) (by omega) ?_ hkp
        rw [show upd s 20 (frK σ (s 20) 0).2 = s by
          funext a
          show upd s 20 (s 20) a = s a
          by_cases e : a = 20
          · rw [e, upd_s]
          · rw [upd_n e]]
        exact hmp
      · have hkn := nI_less hk (by omega) c9
        have inner : ∀ (z' j : Nat) (p' : e_PH) (f' : Nat → Int32), gN σ - j < z' → j ≤ gN σ → (∀ i, i < k → f' i = nI (conR σ i)) → f' k = nI (rvM (gN σ) (adjB (gK σ) (gR σ) (gV σ) k) j) → MI θ p' mo μ s (updF F 9 f') → kept ph p' (mS mo μ) → EJ θ x 41 [(0, .ref mo), (1, .int (nI (rvM (gN σ) (fun i => badB (gK σ) (gR σ) (gV σ i)) (k + 1)))), (2, .int (nI k)), (3, .int (nI j))] [] p' 0 0 := by
          intro z'
          induction z' with
          | zero => intro j p' f' hz'; omega
          | succ z' ih' =>
            intro j p' f' hz' hj hf' hfk hmp' hkp'
            refine e_iload_n hX 3 iX12_findsRepair_41 rfl rfl ?_
            refine e_aload_n hX 0 iX12_findsRepair_42 rfl rfl ?_
            refine e_get hX iX12_findsRepair_43 hmp'.1 rfl ?_
            rw [hr.1.1]
            refine e_icmp_ge hX iX12_findsRepair_46 (fun c46 => ?_) (fun c46 => ?_)
            · have hjn := nI_same hj (by omega) c46
              refine e_iinc hX iX12_findsRepair_87 rfl (by first | exact nI_inc _ | rfl) (by decide) ?_
              refine e_goto hX iX12_findsRepair_90 ?_
              refine e_loc [0, 1, 2] ?_
              refine ih (k + 1) p' f' (by omega) (by omega) (fun i hi => ?_) hmp' hkp'
              by_cases e : i = k
              · subst e; rw [hfk, hjn]; rfl
              · exact hf' i (by omega)
            · have hjn := nI_less hj (by omega) c46
              have back : ∀ d, rvM (gN σ) (adjB (gK σ) (gR σ) (gV σ) k) (j + 1) = rvM (gN σ) (adjB (gK σ) (gR σ) (gV σ) k) j ||| d → EJ θ x 79 [(0, .ref mo), (1, .int (nI (rvM (gN σ) (fun i => badB (gK σ) (gR σ) (gV σ i)) (k + 1)))), (2, .int (nI k)), (3, .int (nI j))] [.int (nI d), .int (nI (rvM (gN σ) (adjB (gK σ) (gR σ) (gV σ) k) j)), .int (nI k), .ref (μ 9)] p' 0 0 := by
                intro d hd
                refine e_ior hX iX12_findsRepair_79 ?_
                rw [nI_or, ← hd]
                refine e_iast hX k iX12_findsRepair_80 (hmp'.i 9 (by decide) (by decide)) rfl (by show _ < 12; omega) (by show 12 < _; decide) ?_
                have g1 := hmp'.arrI 9 (by decide) (by decide) (upd f' k (nI (rvM (gN σ) (adjB (gK σ) (gR σ) (gV σ) k) (j + 1))))
                rw [updF_2] at g1
                refine e_iinc hX iX12_findsRepair_81 rfl (by first | exact nI_inc _ | rfl) (by decide) ?_
                refine e_goto hX iX12_findsRepair_84 ?_
                refine e_loc [0, 1, 2, 3] ?_
                exact ih' (j + 1) _ (upd f' k (nI (rvM (gN σ) (adjB (gK σ) (gR σ) (gV σ) k) (j + 1)))) (by omega) (by omega) (fun i hi => by rw [upd_n (by omega)]; exact hf' i hi) upd_s g1 (mS.arr hkp' (j := 9) (by decide))
              have none : adjB (gK σ) (gR σ) (gV σ) k j = false → rvM (gN σ) (adjB (gK σ) (gR σ) (gV σ) k) (j + 1) = rvM (gN σ) (adjB (gK σ) (gR σ) (gV σ) k) j ||| 0 := fun h => by
                show _ ||| (if _ then _ else _) = _
                rw [if_neg (by rw [h]; decide)]
              refine e_aload_n hX 0 iX12_findsRepair_49 rfl rfl ?_
              refine e_get hX iX12_findsRepair_50 hmp'.1 rfl ?_
              refine e_iload_n hX 2 iX12_findsRepair_53 rfl rfl ?_
              refine e_dup2 hX iX12_findsRepair_54 rfl rfl ?_
              refine e_iald hX k iX12_findsRepair_55 (hmp'.i 9 (by decide) (by decide)) rfl (by show _ < 12; omega) (by show 12 < _; decide) ?_
              rw [show updF F 9 f' 9 k = nI (rvM (gN σ) (adjB (gK σ) (gR σ) (gV σ) k) j) from hfk]
              refine e_iload_n hX 3 iX12_findsRepair_56 rfl rfl ?_
              refine e_iload_n hX 2 iX12_findsRepair_57 rfl rfl ?_
              refine e_icmp_eq hX iX12_findsRepair_58 (fun c58 => ?_) (fun c58 => ?_)
              · have e : j = k := (nI_eq (by omega) (by omega)).mp c58
                refine e_iconst (v := 0) hX iX12_findsRepair_78 (by decide) ?_
                exact back 0 (none (by rw [e]; exact adjB_s))
              · have hne : ¬ j = k := fun e => c58 (by rw [e])
                refine e_aload_n hX 0 iX12_findsRepair_61 rfl rfl ?_
                refine e_iload_n hX 2 iX12_findsRepair_62 rfl rfl ?_
                refine e_iload_n hX 3 iX12_findsRepair_63 rfl rfl ?_
                refine e_callV hX iX12_findsRepair_64 hmp'.1 (n_conflicts htr hmp' hr.1.2.2.2.1 hk10 (show mrules (updF F 9 f') (gK σ) (gR σ) from hr.rules) (show k < 18 by omega) (show j < 18 by omega)) rfl rfl ⟨by decide, by decide, by decide, by decide⟩ (Nat.le_of_ble_eq_true rfl) (fun _ _ h => h.elim) (fun v9 ph9 hv9 => ?_)
                obtain ⟨rfl, e9⟩ := hv9
                subst ph9
                rw [show conB (gK σ) (gR σ) (vF (updF F 9 f') k) (vF (updF F 9 f') j) = conB (gK σ) (gR σ) (gV σ k) (gV σ j) from hr.con hkn hjn]
                refine e_if_eq hX iX12_findsRepair_67 (fun c67 => ?_) (fun c67 => ?_)
                · refine e_iconst (v := 0) hX iX12_findsRepair_78 (by decide) ?_
                  refine e_loc [0, 1, 2, 3] ?_
                  exact back 0 (none ((adjB_n hne).trans (b2i_0.mp c67)))
                · refine e_aload_n hX 0 iX12_findsRepair_70 rfl rfl ?_
                  refine e_iload_n hX 3 iX12_findsRepair_71 rfl rfl ?_
                  refine e_callV hX iX12_findsRepair_72 hmp'.1 (n_bit htr hmp' hr.1.1 hn hjn) rfl rfl ⟨by decide, by decide, by decide, by decide⟩ (Nat.le_of_ble_eq_true rfl) (fun _ _ h => h.elim) (fun v9 ph9 hv9 => ?_)
                  obtain ⟨rfl, e9⟩ := hv9
                  subst ph9
                  refine e_goto hX iX12_findsRepair_75 ?_
                  refine e_loc [0, 1, 2, 3] ?_
                  exact back _ (by show _ ||| (if _ then _ else _) = _; rw [if_pos ((adjB_n hne).trans (b2i_n0.mp c67))])
        have cont : ∀ d, rvM (gN σ) (fun i => badB (gK σ) (gR σ) (gV σ i)) (k + 1) = rvM (gN σ) (fun i => badB (gK σ) (gR σ) (gV σ i)) k ||| d → EJ θ x 30 [(0, .ref mo), (2, .int (nI k))] [.int (nI d), .int (nI (rvM (gN σ) (fun i => badB (gK σ) (gR σ) (gV σ i)) k))] p 0 0 := by
          intro d hd
          refine e_ior hX iX12_findsRepair_30 ?_
          rw [nI_or, ← hd]
          refine e_istore_n hX 1 iX12_findsRepair_31 rfl (by decide) ?_
          refine e_aload_n hX 0 iX12_findsRepair_32 rfl rfl ?_
          refine e_get hX iX12_findsRepair_33 hmp.1 rfl ?_
          refine e_iload_n hX 2 iX12_findsRepair_36 rfl rfl ?_
          refine e_iconst (v := 0) hX iX12_findsRepair_37 (by decide) ?_
          refine e_iast hX k iX12_findsRepair_38 (hmp.i 9 (by decide) (by decide)) rfl (by show _ < 12; omega) (by show 12 < _; decide) ?_
          have g1 := hmp.arrI 9 (by decide) (by decide) (upd f k 0)
          rw [updF_2] at g1
          refine e_iconst (v := 0) hX iX12_findsRepair_39 (by decide) ?_
          refine e_istore_n hX 3 iX12_findsRepair_40 rfl (by decide) ?_
          refine e_loc [0, 1, 2, 3] ?_
          exact inner (gN σ + 1) 0 _ (upd f k 0) (by omega) (by omega) (fun i hi => by rw [upd_n (by omega)]; exact hf i hi) upd_s g1 (mS.arr hkp (j := 9) (by decide))
        refine e_iload_n hX 1 iX12_findsRepair_12 rfl rfl ?_
        refine e_aload_n hX 0 iX12_findsRepair_13 rfl rfl ?_
        refine e_iload_n hX 2 iX12_findsRepair_14 rfl rfl ?_
        refine e_callV hX iX12_findsRepair_15 hmp.1 (n_badRow htr hmp hr.1.2.2.2.1 hk10 (show mrules (updF F 9 f) (gK σ) (gR σ) from hr.rules) (show k < 18 by omega)) rfl rfl ⟨by decide, by decide, by decide, by decide⟩ (Nat.le_of_ble_eq_true rfl) (fun _ _ h => h.elim) (fun v9 ph9 hv9 => ?_)
        obtain ⟨rfl, e9⟩ := hv9
        subst ph9
        rw [show badB (gK σ) (gR σ) (vF (updF F 9 f) k) = badB (gK σ) (gR σ) (gV σ k) from hr.bad hkn]
        refine e_if_eq hX iX12_findsRepair_18 (fun c18 => ?_) (fun c18 => ?_)
        · refine e_iconst (v := 0) hX iX12_findsRepair_29 (by decide) ?_
          refine e_loc [0, 2] ?_
          exact cont 0 (by show _ ||| (if _ then _ else _) = _; rw [if_neg (show ¬ badB (gK σ) (gR σ) (gV σ k) = true by rw [b2i_0.mp c18]; decide)])
        · refine e_aload_n hX 0 iX12_findsRepair_21 rfl rfl ?_
          refine e_iload_n hX 2 iX12_findsRepair_22 rfl rfl ?_
          refine e_callV hX iX12_findsRepair_23 hmp.1 (n_bit htr hmp hr.1.1 hn hkn) rfl rfl ⟨by decide, by decide, by decide, by decide⟩ (Nat.le_of_ble_eq_true rfl) (fun _ _ h => h.elim) (fun v9 ph9 hv9 => ?_)
          obtain ⟨rfl, e9⟩ := hv9
          subst ph9
          refine e_goto hX iX12_findsRepair_26 ?_
          refine e_loc [0, 2] ?_
          exact cont _ (by show _ ||| (if _ then _ else _) = _; rw [if_pos (show badB (gK σ) (gR σ) (gV σ k) = true from b2i_n0.mp c18)])
  refine e_iconst (v := 0) hX iX12_findsRepair_0 (by decide) ?_
  refine e_istore_n hX 1 iX12_findsRepair_1 rfl (by decide) ?_
  refine e_iconst (v := 0) hX iX12_findsRepair_2 (by decide) ?_
  refine e_istore_n hX 2 iX12_findsRepair_3 rfl (by decide) ?_
  refine e_loc [0, 1, 2] ?_
  refine loop1 (gN σ + 1) 0 ph (F 9) (by omega) (by omega) (fun i hi => absurd hi (Nat.not_lt_zero i)) ?_ kept.refl
  rw [updF_id]
  exact hm
end MOW
