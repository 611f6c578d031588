/-! the model: counts, saveProfile, drifted, drift, mostDrifted -/
def ixN (x : Int32) : Nat := x.toNatClampNeg
theorem bkt0 : ∀ k, k < 201 → ixN (bktG (nI k - 100)) < 11 ∧ bktG (nI k - 100) = nI (ixN (bktG (nI k - 100))) := by decide +kernel
theorem bkt_ok {y : Int32} (h : okV y) : ∃ b, b < 11 ∧ bktG y = nI b := by
  obtain ⟨k, hk, rfl⟩ := okV_nat h
  exact ⟨_, bkt0 k (by omega)⟩
/-- how many of the first k values fall into bucket b of column c -/
def cuK (σ : SG) (c b k : Nat) : Nat := cntB k (fun j => decide (j % 5 = c) && decide (bktG (gV σ (j / 5) (j % 5)) = nI b))
theorem cu5 : ∀ c, c < 5 → ∀ D : Bool, cntB 5 (fun i => decide (i = c) && D) = if D = true then 1 else 0 := by decide +kernel
theorem cu_all {σ : SG} {c b : Nat} (hc : c < 5) : ∀ m, cuK σ c b (5 * m) = cntB m (fun i => decide (bktG (gV σ i c) = nI b))
  | 0 => rfl
  | m + 1 => by
    have e : cuK σ c b (5 * (m + 1)) = cuK σ c b (5 * m) + cntB 5 (fun i => decide (i = c) && decide (bktG (gV σ m c) = nI b)) := by
      show cntB (5 * m + 5) _ = _
      rw [cntB_add]
      refine congrArg (fun z => cuK σ c b (5 * m) + z) (cntB_c (fun i hi => ?_))
      have e1 : (5 * m + i) % 5 = i := by omega
      have e2 : (5 * m + i) / 5 = m := by omega
      show (decide ((5 * m + i) % 5 = c) && decide (bktG (gV σ ((5 * m + i) / 5) ((5 * m + i) % 5)) = nI b)) = _
      rw [e1, e2]
      by_cases h : i = c
      · rw [h]
      · rw [decide_eq_false h, Bool.false_and, Bool.false_and]
    rw [e, cu5 c hc, cu_all hc m]
    rfl
theorem cuK_s {σ : SG} {c b k : Nat} : cuK σ c b (k + 1) = cuK σ c b k + (if (decide (k % 5 = c) && decide (bktG (gV σ (k / 5) (k % 5)) = nI b)) = true then 1 else 0) := cntB_n
theorem bktN_le {σ : SG} {c b : Nat} : bktN σ c b ≤ gN σ := cntB_le _ _
theorem MR.counted {σ : SG} {s : Nat → Int32} {F : Nat → Nat → Int32} (hr : MR σ s F) (f : Nat → Int32) : MR σ s (updF F 13 f) := hr
theorem MR.save {σ : SG} {s : Nat → Int32} {F : Nat → Nat → Int32} (hr : MR σ s F) {f : Nat → Int32} (hf : ∀ c, c < 5 → ∀ b, b < 11 → f (11 * c + b) = nI (bktN σ c b)) {s' : Nat → Int32} (h23 : s' 23 = nI (gN σ)) (hs : ∀ j, j ≠ 23 → s' j = s j) : MR (s_save σ) s' (updF F 12 f) := by
  obtain ⟨⟨a1, a2, a3, a4, a5, a6, b, a7⟩, ⟨b1, b2⟩, c1, c2, c3, c4, c5, ok⟩ := hr
  have sv : ∀ j, j < 5 → ∀ b, b < 11 → svQ σ 5 0 j b = nI (bktN σ j b) := fun j hj b hb => if_pos ⟨Or.inl hj, hb⟩
  refine ⟨⟨by rw [hs 1 (by decide)]; exact a1, by rw [hs 2 (by decide)]; exact a2, by rw [hs 3 (by decide)]; exact a3, by rw [hs 7 (by decide)]; exact a4, by rw [hs 22 (by decide)]; exact a5, h23, b, by rw [hs 17 (by decide)]; exact a7⟩, ⟨by rw [hs 14 (by decide)]; exact b1, fun h => by rw [hs 15 (by decide), hs 16 (by decide), hs 17 (by decide)]; exact b2 h⟩, c1, c2, c3, c4, fun j hj b hb => ?_, ⟨ok.1, ok.2.1, ok.2.2.1, ok.1, ok.2.2.2.2.1, ok.2.2.2.2.2.1, fun j hj b hb => ?_, ok.2.2.2.2.2.2.2⟩⟩
  · show f (11 * j + b) = svQ σ 5 0 j b
    rw [hf j hj b hb, sv j hj b hb]
  · show ∃ t, t ≤ 12 ∧ svQ σ 5 0 j b = nI t
    exact ⟨_, Nat.le_trans bktN_le ok.1, sv j hj b hb⟩
section MONC
variable {l : Launch} {θ : e_T} {ph : e_PH} {mo : Nat} {μ : Nat → Nat} {σ : SG} {t : Int32} {s : Nat → Int32} {F : Nat → Nat → Int32}
theorem n_counts (htr : l.stackTraces = false) (hm : MI θ ph mo μ s F) (hr : MR σ s F) {j : Nat} (hj : j = 12 ∨ j = 13) : MC yX12_counts cX12_counts 3 none 0 0 0 l θ [.ref mo, .ref (μ j)] ph (fun z p => z = none ∧ (∃ f, (∀ c, c < 5 → ∀ b, b < 11 → f (11 * c + b) = nI (bktN σ c b)) ∧ MI θ p mo μ s (updF F j f)) ∧ kept ph p (mS mo μ)) (fun _ _ => False) := by
  have hn := hr.ok.1
  have hj14 : j < 14 := by omega
  have hj7 : ¬ (j = 7 ∨ j = 8) := by omega
  have hz : msz j = 55 := by rcases hj with rfl | rfl <;> rfl
  have h55 : ∀ {p : e_PH} {F' : Nat → Nat → Int32}, MI θ p mo μ s F' → p (μ j) = some (e_I θ 55 (F' j)) := fun hmp => by
    have := hmp.i j hj14 hj7
    rw [hz] at this
    exact this
  have ar : ∀ {p : e_PH} {F' : Nat → Nat → Int32} (f : Nat → Int32), MI θ p mo μ s F' → MI θ (e_up p (μ j) (e_I θ 55 f)) mo μ s (updF F' j f) := fun f hmp => by
    have := hmp.arrI j hj14 hj7 f
    rw [hz] at this
    exact this
  have uj : ∀ (f : Nat → Int32), updF F j f j = f := fun f => if_pos rfl
  have u1 : ∀ (f : Nat → Int32), updF F j f 1 = F 1 := fun f => if_neg (by omega)
  refine MC.of htr (by decide) (Nat.le_of_ble_eq_true rfl) ?_
  intro x hX hQ hT
  have loop2 : ∀ (z k : Nat) (p : e_PH) (f : Nat → Int32), 5 * gN σ - k < z → k ≤ 5 * gN σ → (∀ c, c < 5 → ∀ b, b < 11 → f (11 * c + b) = nI (cuK σ c b k)) → MI θ p mo μ s (updF F j f) → kept ph p (mS mo μ) → EJ θ x 20 [(0, .ref mo), (1, .ref (μ j)), (2, .int (nI k))] [] p 0 0 := by
    intro z
    induction z with
    | zero => intro k p f hz; omega
    | succ z ih =>
      intro k p f hz hk hf hmp hkp
      refine e_iload_n hX 2 iX12_counts_20 rfl rfl ?_
      refine e_iconst (v := 5) hX iX12_counts_21 (by decide) ?_
      refine e_aload_n hX 0 iX12_counts_22 rfl rfl ?_
      refine e_get hX iX12_counts_23 hmp.1 rfl ?_
      rw [hr.1.1]
      refine e_imul hX iX12_counts_26 ?_
      rw [show (5 : Int32) = nI 5 from rfl, pk_mul]
      refine e_icmp_ge hX iX12_counts_27 (fun c27 => ?_) (fun c27 => ?_)
      · have hkn := nI_same hk (by omega) c27
        exact e_vret hX hQ iX12_counts_77 rfl (by decide) (by decide) ⟨rfl, ⟨f, fun c hc b hb => by rw [hf c hc b hb, hkn, cu_all hc]; rfl, hmp⟩, hkp⟩
      · have hkn := nI_less hk (by omega) c27
        have hd : k / 5 < gN σ := by omega
        have hm5 : k % 5 < 5 := Nat.mod_lt _ (by decide)
        have ev : F 1 k = gV σ (k / 5) (k % 5) := by
          have := hr.v hd (k % 5) hm5
          unfold vF at this
          rw [show 5 * (k / 5) + k % 5 = k by omega] at this
          exact this
        obtain ⟨b0, hb0, eb⟩ := bkt_ok (hr.ok.2.2.2.2.1 (k / 5) hd (k % 5) hm5)
        have hix : 11 * (k % 5) + b0 < 55 := by omega
        have cont : EJ θ x 65 [(0, .ref mo), (1, .ref (μ j)), (2, .int (nI k))] [.int (nI b0), .int (nI (11 * (k % 5))), .ref (μ j)] p 0 0 := by
          refine e_iadd hX iX12_counts_65 ?_
          rw [nI_add]
          refine e_dup2 hX iX12_counts_66 rfl rfl ?_
          refine e_iald hX (11 * (k % 5) + b0) iX12_counts_67 (h55 hmp) rfl hix (by decide) ?_
          rw [uj]
          refine e_iconst (v := 1) hX iX12_counts_68 (by decide) ?_
          refine e_iadd hX iX12_counts_69 ?_
          refine e_iast hX (11 * (k % 5) + b0) iX12_counts_70 (h55 hmp) rfl hix (by decide) ?_
          rw [uj]
          have g1 := ar (upd f (11 * (k % 5) + b0) (f (11 * (k % 5) + b0) + 1)) hmp
          rw [updF_2] at g1
          refine e_iinc hX iX12_counts_71 rfl (by first | exact nI_inc _ | rfl) (by decide) ?_
          refine e_goto hX iX12_counts_74 ?_
          refine e_loc [0, 1, 2] ?_
          refine ih (k + 1) _ (upd f (11 * (k % 5) + b0) (f (11 * (k % 5) + b0) + 1)) (by omega) (by omega) (fun c hc b hb => ?_) g1 (mS.arr hkp (j := j) hj14)
          rw [cuK_s]
          by_cases e : 11 * c + b = 11 * (k % 5) + b0
          · have e1 : k % 5 = c := by omega
            have e2 : b0 = b := by omega
            rw [e, upd_s, ← e, hf c hc b hb, nI_1, if_pos (and_tt (decide_eq_true e1) (decide_eq_true (by rw [eb, e2])))]
          · rw [upd_n e, hf c hc b hb]
            by_cases e1 : k % 5 = c
            · rw [if_neg (by
                rw [eb, decide_eq_false (show ¬ nI b0 = nI b from fun q => e (by rw [(nI_eq (by omega) (by omega)).mp q, e1])), Bool.and_false]; decide)]
              rfl
            · rw [if_neg (by rw [decide_eq_false e1, Bool.false_and]; decide)]
              rfl
        refine e_aload_n hX 1 iX12_counts_30 rfl rfl ?_
        refine e_bipush (v := 11) hX iX12_counts_31 (by decide) ?_
        refine e_iload_n hX 2 iX12_counts_33 rfl rfl ?_
        refine e_iconst (v := 5) hX iX12_counts_34 (by decide) ?_
        refine e_irem hX iX12_counts_35 (by decide) ?_
        rw [show (5 : Int32) = nI 5 from rfl, pk_rem (by omega) (by decide) (by decide)]
        refine e_imul hX iX12_counts_36 ?_
        rw [show (11 : Int32) = nI 11 from rfl, pk_mul]
        refine e_aload_n hX 0 iX12_counts_37 rfl rfl ?_
        refine e_get hX iX12_counts_38 hmp.1 rfl ?_
        refine e_iload_n hX 2 iX12_counts_41 rfl rfl ?_
        refine e_iald hX k iX12_counts_42 (hmp.i 1 (by decide) (by decide)) rfl (by show _ < 90; omega) (by show 90 < _; decide) ?_
        rw [u1, ev]
        refine e_bipush (v := 100) hX iX12_counts_43 (by decide) ?_
        refine e_icmp_ne hX iX12_counts_45 (fun c45 => ?_) (fun c45 => ?_)
        · refine e_aload_n hX 0 iX12_counts_53 rfl rfl ?_
          refine e_get hX iX12_counts_54 hmp.1 rfl ?_
          refine e_iload_n hX 2 iX12_counts_57 rfl rfl ?_
          refine e_iald hX k iX12_counts_58 (hmp.i 1 (by decide) (by decide)) rfl (by show _ < 90; omega) (by show 90 < _; decide) ?_
          rw [u1, ev]
          refine e_bipush (v := 100) hX iX12_counts_59 (by decide) ?_
          refine e_iadd hX iX12_counts_61 ?_
          refine e_bipush (v := 20) hX iX12_counts_62 (by decide) ?_
          refine e_idiv hX iX12_counts_64 (by decide) ?_
          refine e_loc [0, 1, 2] ?_
          have e : (gV σ (k / 5) (k % 5) + 100) / 20 = nI b0 := by
            rw [← eb]
            unfold bktG
            rw [if_pos (by unfold pres; exact decide_eq_true c45)]
          rw [e]
          exact cont
        · refine e_bipush (v := 10) hX iX12_counts_48 (by decide) ?_
          refine e_goto hX iX12_counts_50 ?_
          refine e_loc [0, 1, 2] ?_
          have e : (10 : Int32) = nI b0 := by
            rw [← eb]
            unfold bktG
            rw [if_neg (by unfold pres; rw [decide_eq_false (fun q => q c45)]; decide)]
          rw [e]
          exact cont
  have loop1 : ∀ (z k : Nat) (p : e_PH) (f : Nat → Int32), 55 - k < z → k ≤ 55 → (∀ i, i < k → f i = 0) → MI θ p mo μ s (updF F j f) → kept ph p (mS mo μ) → EJ θ x 2 [(0, .ref mo), (1, .ref (μ j)), (2, .int (nI k))] [] p 0 0 := by
    intro z
    induction z with
    | zero => intro k p f hz; omega
    | succ z ih =>
      intro k p f hz hk hf hmp hkp
      refine e_iload_n hX 2 iX12_counts_2 rfl rfl ?_
      refine e_bipush (v := 55) hX iX12_counts_3 (by decide) ?_
      refine e_icmp_ge hX iX12_counts_5 (fun c5 => ?_) (fun c5 => ?_)
      · have hkn : k = 55 := nI_same hk (by decide) c5
        refine e_iconst (v := 0) hX iX12_counts_18 (by decide) ?_
        refine e_istore_n hX 2 iX12_counts_19 rfl (by decide) ?_
        refine e_loc [0, 1, 2] ?_
        exact loop2 (5 * gN σ + 1) 0 p f (by omega) (by omega) (fun c hc b hb => hf _ (by omega)) hmp hkp
      · have hkn : k < 55 := nI_less hk (by decide) c5
        refine e_aload_n hX 1 iX12_counts_8 rfl rfl ?_
        refine e_iload_n hX 2 iX12_counts_9 rfl rfl ?_
        refine e_iconst (v := 0) hX iX12_counts_10 (by decide) ?_
        refine e_iast hX k iX12_counts_11 (h55 hmp) rfl hkn (by decide) ?_
        rw [uj]
        have g1 := ar (upd f k 0) hmp
        rw [updF_2] at g1
        refine e_iinc hX iX12_counts_12 rfl (by first | exact nI_inc _ | rfl) (by decide) ?_
        refine e_goto hX iX12_counts_15 ?_
        refine e_loc [0, 1, 2] ?_
        refine ih (k + 1) _ (upd f k 0) (by omega) (by omega) (fun i hi => ?_) g1 (mS.arr hkp (j := j) hj14)
        by_cases e : i = k
        · rw [e, upd_s]
        · rw [upd_n e]; exact hf i (by omega)
  refine e_iconst (v := 0) hX iX12_counts_0 (by decide) ?_
  refine e_istore_n hX 2 iX12_counts_1 rfl (by decide) ?_
  refine e_loc [0, 1, 2] ?_
  refine loop1 56 0 ph (F j) (by omega) (by omega) (fun i hi => absurd hi (Nat.not_lt_zero i)) ?_ kept.refl
  rw [updF_id]
  exact hm
theorem w_saveProfile (htr : l.stackTraces = false) (hm : MP θ ph mo μ σ t) : MC yX12_saveProfile cX12_saveProfile 1 (some .int) 1 0 0 l θ [.ref mo] ph (nP θ ph mo μ (if k_save σ = 0 then s_save σ else σ) (k_save σ) (zI (k_save σ) (nI (gN σ)))) (fun _ _ => False) := by
  obtain ⟨s, F, hm, hr, rfl⟩ := hm
  have hn := hr.ok.1
  refine MC.of htr (by decide) (Nat.le_of_ble_eq_true rfl) ?_
  intro x hX hQ hT
  refine e_aload_n hX 0 iX12_saveProfile_0 rfl rfl ?_
  refine e_get hX iX12_saveProfile_1 hm.1 rfl ?_
  rw [hr.1.1]
  refine e_if_ne hX iX12_saveProfile_4 (fun c4 => ?_) (fun c4 => ?_)
  · have h0 : ¬ gN σ = 0 := fun e => c4 (by rw [e]; rfl)
    have hk : k_save σ = 0 := if_neg h0
    refine e_aload_n hX 0 iX12_saveProfile_13 rfl rfl ?_
    refine e_aload_n hX 0 iX12_saveProfile_14 rfl rfl ?_
    refine e_get hX iX12_saveProfile_15 hm.1 rfl ?_
    refine e_callV hX iX12_saveProfile_18 hm.1 (n_counts htr hm hr (j := 12) (Or.inl rfl)) rfl rfl ⟨by decide, by decide, by decide, by decide⟩ (Nat.le_of_ble_eq_true rfl) (fun _ _ h => h.elim) (fun v9 ph9 hv9 => ?_)
    obtain ⟨rfl, ⟨f, hf, hm2⟩, hk2⟩ := hv9
    refine e_aload_n hX 0 iX12_saveProfile_21 rfl rfl ?_
    refine e_aload_n hX 0 iX12_saveProfile_22 rfl rfl ?_
    refine e_get hX iX12_saveProfile_23 hm2.1 rfl ?_
    rw [hr.1.1]
    refine e_put (fs' := _) hX iX12_saveProfile_26 hm2.1 rfl (Nat.le_of_ble_eq_true rfl) rfl rfl ?_
    have hm3 : MI θ (e_up ph9 mo (mobj μ (upd s 23 (nI (gN σ))))) mo μ (upd s 23 (nI (gN σ))) (updF F 12 f) := hm2.fld _
    have hr3 := hr.save hf (s' := upd s 23 (nI (gN σ))) upd_s (fun j hj => upd_n hj)
    refine e_aload_n hX 0 iX12_saveProfile_29 rfl rfl ?_
    refine e_aload_n hX 0 iX12_saveProfile_30 rfl rfl ?_
    refine e_get hX iX12_saveProfile_31 hm3.1 rfl ?_
    rw [show upd s 23 (nI (gN σ)) 23 = nI (gN σ) from upd_s]
    refine e_callV hX iX12_saveProfile_34 hm3.1 (n_tells htr hm3 (nI (gN σ))) rfl rfl ⟨by decide, by decide, by decide, by decide⟩ (Nat.le_of_ble_eq_true rfl) (fun _ _ h => h.elim) (fun v8 ph8 hv8 => ?_)
    obtain ⟨rfl, e8⟩ := hv8
    subst ph8
    exact e_iret hX hQ iX12_saveProfile_37 rfl (by decide) (by decide) (by rw [if_pos hk]; exact nP.mk (hm3.told hr3 (mS.fld hk2) 0) (by rw [hk]; rfl) (by rw [zI_0 hk]))
  · have h0 : gN σ = 0 := (nI_eq (by omega) (by decide)).mp c4
    have hk : k_save σ = 1 := if_pos h0
    refine e_aload_n hX 0 iX12_saveProfile_7 rfl rfl ?_
    refine e_iconst (v := 1) hX iX12_saveProfile_8 (by decide) ?_
    refine e_callV hX iX12_saveProfile_9 hm.1 (n_fails htr hm 1) rfl rfl ⟨by decide, by decide, by decide, by decide⟩ (Nat.le_of_ble_eq_true rfl) (fun _ _ h => h.elim) (fun v9 ph9 hv9 => ?_)
    obtain ⟨rfl, e9⟩ := hv9
    subst ph9
    exact e_iret hX hQ iX12_saveProfile_12 rfl (by decide) (by decide) (by rw [if_neg (show ¬ k_save σ = 0 by omega)]; exact nP.mk (hm.told hr kept.refl 1) (by rw [hk]; rfl) (by rw [zI_n (by omega)]))
theorem n_drifted (htr : l.stackTraces = false) (hm : MI θ ph mo μ s F) (hr : MR σ s F) {c : Nat} (hc : c < 5) (hn0 : ¬ gN σ = 0) (hp0 : ¬ gP σ = 0) : MC yX12_drifted cX12_drifted 4 (some .int) 1 0 0 l θ [.ref mo, .int (nI c)] ph (fun z p => z = some (.int (drfN σ c)) ∧ (∃ f, MI θ p mo μ s (updF F 13 f)) ∧ kept ph p (mS mo μ)) (fun _ _ => False) := by
  have hn := hr.ok.1
  have hp12 := hr.ok.2.2.2.1
  refine MC.of htr (by decide) (Nat.le_of_ble_eq_true rfl) ?_
  intro x hX hQ hT
  refine e_aload_n hX 0 iX12_drifted_0 rfl rfl ?_
  refine e_aload_n hX 0 iX12_drifted_1 rfl rfl ?_
  refine e_get hX iX12_drifted_2 hm.1 rfl ?_
  refine e_callV hX iX12_drifted_5 hm.1 (n_counts htr hm hr (j := 13) (Or.inr rfl)) rfl rfl ⟨by decide, by decide, by decide, by decide⟩ (Nat.le_of_ble_eq_true rfl) (fun _ _ h => h.elim) (fun v9 ph9 hv9 => ?_)
  obtain ⟨rfl, ⟨f, hf, hm2⟩, hk2⟩ := hv9
  have loop : ∀ (z i : Nat), 11 - i < z → i ≤ 11 → EJ θ x 15 [(0, .ref mo), (1, .int (nI c)), (2, .int (sumI (drfB σ c) i)), (3, .int (nI (11 * c + i)))] [] ph9 0 0 := by
    intro z
    induction z with
    | zero => intro i hz; omega
    | succ z ih =>
      intro i hz hi
      refine e_iload_n hX 3 iX12_drifted_15 rfl rfl ?_
      refine e_bipush (v := 11) hX iX12_drifted_16 (by decide) ?_
      refine e_iload_n hX 1 iX12_drifted_18 rfl rfl ?_
      refine e_iconst (v := 1) hX iX12_drifted_19 (by decide) ?_
      refine e_iadd hX iX12_drifted_20 ?_
      rw [show nI c + 1 = nI (c + 1) from nI_1 c]
      refine e_imul hX iX12_drifted_21 ?_
      rw [show (11 : Int32) = nI 11 from rfl, pk_mul]
      refine e_icmp_ge hX iX12_drifted_22 (fun c22 => ?_) (fun c22 => ?_)
      · have h1 : 11 * c + i = 11 * (c + 1) := nI_same (by omega) (by omega) c22
        have h2 : i = 11 := by omega
        subst h2
        refine e_sipush (v := 1000) hX iX12_drifted_60 (by decide) ?_
        refine e_iload_n hX 2 iX12_drifted_63 rfl rfl ?_
        refine e_imul hX iX12_drifted_64 ?_
        refine e_iconst (v := 2) hX iX12_drifted_65 (by decide) ?_
        refine e_aload_n hX 0 iX12_drifted_66 rfl rfl ?_
        refine e_get hX iX12_drifted_67 hm2.1 rfl ?_
        rw [hr.1.1]
        refine e_imul hX iX12_drifted_70 ?_
        refine e_aload_n hX 0 iX12_drifted_71 rfl rfl ?_
        refine e_get hX iX12_drifted_72 hm2.1 rfl ?_
        rw [show s 23 = nI (gP σ) from hr.1.2.2.2.2.2.1]
        refine e_imul hX iX12_drifted_75 ?_
        refine e_idiv hX iX12_drifted_76 (drf_n0 _ (by omega) _ (by omega) hn0 hp0) ?_
        exact e_iret hX hQ iX12_drifted_77 rfl (by decide) (by decide) ⟨rfl, ⟨f, hm2⟩, hk2⟩
      · have h1 : 11 * c + i < 11 * (c + 1) := nI_less (by omega) (by omega) c22
        have h2 : i < 11 := by omega
        refine e_iload_n hX 2 iX12_drifted_25 rfl rfl ?_
        refine e_aload_n hX 0 iX12_drifted_26 rfl rfl ?_
        refine e_get hX iX12_drifted_27 hm2.1 rfl ?_
        refine e_iload_n hX 3 iX12_drifted_30 rfl rfl ?_
        refine e_iald hX (11 * c + i) iX12_drifted_31 (hm2.i 13 (by decide) (by decide)) rfl (by show _ < 55; omega) (by show 55 < _; decide) ?_
        rw [show updF F 13 f 13 (11 * c + i) = nI (bktN σ c i) from hf c hc i h2]
        refine e_aload_n hX 0 iX12_drifted_32 rfl rfl ?_
        refine e_get hX iX12_drifted_33 hm2.1 rfl ?_
        rw [show s 23 = nI (gP σ) from hr.1.2.2.2.2.2.1]
        refine e_imul hX iX12_drifted_36 ?_
        refine e_aload_n hX 0 iX12_drifted_37 rfl rfl ?_
        refine e_get hX iX12_drifted_38 hm2.1 rfl ?_
        refine e_iload_n hX 3 iX12_drifted_41 rfl rfl ?_
        refine e_iald hX (11 * c + i) iX12_drifted_42 (hm2.i 12 (by decide) (by decide)) rfl (by show _ < 55; omega) (by show 55 < _; decide) ?_
        rw [show updF F 13 f 12 (11 * c + i) = gQ σ c i from hr.2.2.2.2.2.2.1 c hc i h2]
        refine e_aload_n hX 0 iX12_drifted_43 rfl rfl ?_
        refine e_get hX iX12_drifted_44 hm2.1 rfl ?_
        rw [hr.1.1]
        refine e_imul hX iX12_drifted_47 ?_
        refine e_isub hX iX12_drifted_48 ?_
        refine e_callS hX iX12_drifted_49 (n_size htr _) rfl rfl ⟨by decide, by decide, by decide, by decide⟩ (Nat.le_of_ble_eq_true rfl) (fun _ _ h => h.elim) (fun v8 ph8 hv8 => ?_)
        obtain ⟨rfl, e8⟩ := hv8
        subst ph8
        refine e_iadd hX iX12_drifted_52 ?_
        refine e_istore_n hX 2 iX12_drifted_53 rfl (by decide) ?_
        refine e_iinc hX iX12_drifted_54 rfl (by first | exact nI_inc _ | rfl) (by decide) ?_
        refine e_goto hX iX12_drifted_57 ?_
        refine e_loc [0, 1, 2, 3] ?_
        exact ih (i + 1) (by omega) (by omega)
  refine e_iconst (v := 0) hX iX12_drifted_8 (by decide) ?_
  refine e_istore_n hX 2 iX12_drifted_9 rfl (by decide) ?_
  refine e_bipush (v := 11) hX iX12_drifted_10 (by decide) ?_
  refine e_iload_n hX 1 iX12_drifted_12 rfl rfl ?_
  refine e_imul hX iX12_drifted_13 ?_
  rw [show (11 : Int32) = nI 11 from rfl, pk_mul]
  refine e_istore_n hX 3 iX12_drifted_14 rfl (by decide) ?_
  refine e_loc [0, 1, 2, 3] ?_
  exact loop 12 0 (by omega) (by omega)
theorem w_drift (htr : l.stackTraces = false) (hm : MP θ ph mo μ σ t) (c : Int32) : MC yX12_drift cX12_drift 2 (some .int) 2 0 0 l θ [.ref mo, .int c] ph (nP θ ph mo μ σ (k_drift σ c) (zI (k_drift σ c) (drfN σ (ix c)))) (fun _ _ => False) := by
  obtain ⟨s, F, hm, hr, rfl⟩ := hm
  have hn := hr.ok.1
  have hp12 := hr.ok.2.2.2.1
  refine MC.of htr (by decide) (Nat.le_of_ble_eq_true rfl) ?_
  intro x hX hQ hT
  have bad : ∀ k, ¬ k = 0 → k_drift σ c = k → nP θ ph mo μ σ (k_drift σ c) (zI (k_drift σ c) (drfN σ (ix c))) (some (.int 0)) (e_up ph mo (mobj μ (upd s 0 (nI k)))) := fun k hk0 hk => nP.mk (hm.told hr kept.refl (nI k)) (by rw [hk]) (by rw [zI_n (by omega)])
  refine e_iload_n hX 1 iX12_drift_0 rfl rfl ?_
  refine e_callS hX iX12_drift_1 (n_isColumn htr c) rfl rfl ⟨by decide, by decide, by decide, by decide⟩ (Nat.le_of_ble_eq_true rfl) (fun _ _ h => h.elim) (fun v9 ph9 hv9 => ?_)
  obtain ⟨rfl, e9⟩ := hv9
  subst ph9
  refine e_if_ne hX iX12_drift_4 (fun c4 => ?_) (fun c4 => ?_)
  · have h1 := b2i_n0.mp c4
    obtain ⟨c', hc', rfl⟩ := colB_t.mp h1
    have hix : ix (nI c') = c' := ix_n (by omega)
    refine e_aload_n hX 0 iX12_drift_13 rfl rfl ?_
    refine e_get hX iX12_drift_14 hm.1 rfl ?_
    rw [show s 23 = nI (gP σ) from hr.1.2.2.2.2.2.1]
    refine e_if_ne hX iX12_drift_17 (fun c17 => ?_) (fun c17 => ?_)
    · have h2 : ¬ gP σ = 0 := fun e => c17 (by rw [e]; rfl)
      refine e_aload_n hX 0 iX12_drift_26 rfl rfl ?_
      refine e_get hX iX12_drift_27 hm.1 rfl ?_
      rw [hr.1.1]
      refine e_if_ne hX iX12_drift_30 (fun c30 => ?_) (fun c30 => ?_)
      · have h3 : ¬ gN σ = 0 := fun e => c30 (by rw [e]; rfl)
        have hk : k_drift σ (nI c') = 0 := ((if_pos h1).trans (if_neg h2)).trans (if_neg h3)
        refine e_aload_n hX 0 iX12_drift_41 rfl rfl ?_
        refine e_aload_n hX 0 iX12_drift_42 rfl rfl ?_
        refine e_iload_n hX 1 iX12_drift_43 rfl rfl ?_
        refine e_callV hX iX12_drift_44 hm.1 (n_drifted htr hm hr hc' h3 h2) rfl rfl ⟨by decide, by decide, by decide, by decide⟩ (Nat.le_of_ble_eq_true rfl) (fun _ _ h => h.elim) (fun v9 ph9 hv9 => ?_)
        obtain ⟨rfl, ⟨f, hm2⟩, hk2⟩ := hv9
        refine e_callV hX iX12_drift_47 hm2.1 (n_tells htr hm2 (drfN σ c')) rfl rfl ⟨by decide, by decide, by decide, by decide⟩ (Nat.le_of_ble_eq_true rfl) (fun _ _ h => h.elim) (fun v8 ph8 hv8 => ?_)
        obtain ⟨rfl, e8⟩ := hv8
        subst ph8
        exact e_iret hX hQ iX12_drift_50 rfl (by decide) (by decide) (nP.mk (hm2.told (hr.counted f) hk2 0) (by rw [hk]; rfl) (by rw [zI_0 hk, hix]))
      · have h3 : gN σ = 0 := (nI_eq (by omega) (by decide)).mp c30
        refine e_aload_n hX 0 iX12_drift_33 rfl rfl ?_
        refine e_iconst (v := 3) hX iX12_drift_34 (by decide) ?_
        refine e_callV hX iX12_drift_35 hm.1 (n_fails htr hm 3) rfl rfl ⟨by decide, by decide, by decide, by decide⟩ (Nat.le_of_ble_eq_true rfl) (fun _ _ h => h.elim) (fun v9 ph9 hv9 => ?_)
        obtain ⟨rfl, e9⟩ := hv9
        subst ph9
        refine e_goto hX iX12_drift_38 ?_
        exact e_iret hX hQ iX12_drift_50 rfl (by decide) (by decide) (bad 3 (by decide) (((if_pos h1).trans (if_neg h2)).trans (if_pos h3)))
    · have h2 : gP σ = 0 := (nI_eq (by omega) (by decide)).mp c17
      refine e_aload_n hX 0 iX12_drift_20 rfl rfl ?_
      refine e_iconst (v := 2) hX iX12_drift_21 (by decide) ?_
      refine e_callV hX iX12_drift_22 hm.1 (n_fails htr hm 2) rfl rfl ⟨by decide, by decide, by decide, by decide⟩ (Nat.le_of_ble_eq_true rfl) (fun _ _ h => h.elim) (fun v9 ph9 hv9 => ?_)
      obtain ⟨rfl, e9⟩ := hv9
      subst ph9
      exact e_iret hX hQ iX12_drift_25 rfl (by decide) (by decide) (bad 2 (by decide) ((if_pos h1).trans (if_pos h2)))
  · refine e_aload_n hX 0 iX12_drift_7 rfl rfl ?_
    refine e_iconst (v := 1) hX iX12_drift_8 (by decide) ?_
    refine e_callV hX iX12_drift_9 hm.1 (n_fails htr hm 1) rfl rfl ⟨by decide, by decide, by decide, by decide⟩ (Nat.le_of_ble_eq_true rfl) (fun _ _ h => h.elim) (fun v9 ph9 hv9 => ?_)
    obtain ⟨rfl, e9⟩ := hv9
    subst ph9
    exact e_iret hX hQ iX12_drift_12 rfl (by decide) (by decide) (bad 1 (by decide) (if_neg (by rw [b2i_0.mp c4]; decide)))
theorem abs0 : ∀ x, x < 145 → ∀ y, y < 145 → ixN (absI (nI x - nI y)) < 145 ∧ absI (nI x - nI y) = nI (ixN (absI (nI x - nI y))) := by decide +kernel
theorem mul_145 {a b : Nat} (ha : a ≤ 12) (hb : b ≤ 12) : a * b < 145 := Nat.lt_succ_of_le (Nat.mul_le_mul ha hb)
theorem sumI_nat {f : Nat → Int32} : ∀ n, (∀ i, i < n → ∃ t, t < 145 ∧ f i = nI t) → ∃ S, S ≤ 145 * n ∧ sumI f n = nI S
  | 0, _ => ⟨0, Nat.le_refl _, rfl⟩
  | n + 1, h => by
    obtain ⟨S, h1, h2⟩ := sumI_nat (f := f) n (fun i hi => h i (by omega))
    obtain ⟨t, h3, h4⟩ := h n (by omega)
    refine ⟨S + t, by omega, ?_⟩
    show sumI f n + f n = _
    rw [h2, h4, nI_add]
theorem drf_pos {σ : SG} (ok : okS σ) {c : Nat} (hc : c < 5) (hn0 : ¬ gN σ = 0) (hp0 : ¬ gP σ = 0) : (-1 : Int32) < drfN σ c := by
  obtain ⟨S, h1, h2⟩ := sumI_nat (f := drfB σ c) 11 (fun b hb => by
    obtain ⟨q, hq, e⟩ := ok.2.2.2.2.2.2.1 c hc b hb
    have hb2 : bktN σ c b ≤ 12 := Nat.le_trans bktN_le ok.1
    have := abs0 (bktN σ c b * gP σ) (mul_145 hb2 ok.2.2.2.1) (q * gN σ) (mul_145 hq ok.1)
    unfold drfB
    rw [e, pk_mul, pk_mul]
    exact ⟨_, this⟩)
  have hd : 2 * gN σ * gP σ ≤ 2 * 12 * 12 := Nat.mul_le_mul (Nat.mul_le_mul (Nat.le_refl 2) ok.1) ok.2.2.2.1
  have hd0 : 0 < 2 * gN σ * gP σ := Nat.mul_pos (Nat.mul_pos (by decide) (by omega)) (by omega)
  have e : drfN σ c = nI (1000 * S / (2 * gN σ * gP σ)) := by
    unfold drfN
    rw [h2, show (1000 : Int32) = nI 1000 from rfl, show (2 : Int32) = nI 2 from rfl, pk_mul, pk_mul, pk_mul, pk_div (by omega) hd0 (by omega)]
  have hlt : 1000 * S / (2 * gN σ * gP σ) < 2 ^ 31 := Nat.lt_of_le_of_lt (Nat.div_le_self _ _) (by omega)
  rw [e]
  exact Int32.lt_of_lt_of_le (by decide) (nI_pos' hlt)
theorem mst_s {d : Nat → Int32} {c : Nat} : mstG d (c + 1) = if (mstG d c).2 < d c then (c, d c) else mstG d c := rfl
theorem mst_1 {d : Nat → Int32} (h0 : (-1 : Int32) < d 0) : mstG d (0 + 1) = (0, d 0) := if_pos h0
theorem mst_2 {d : Nat → Int32} (h0 : (-1 : Int32) < d 0) : ∀ c, (mstG d (c + 1)).2 = d (mstG d (c + 1)).1
  | 0 => by rw [mst_1 h0]
  | c + 1 => by
    rw [mst_s (c := c + 1)]
    split
    · rfl
    · exact mst_2 h0 c
theorem w_mostDrifted (htr : l.stackTraces = false) (hm : MP θ ph mo μ σ t) : MC yX12_mostDrifted cX12_mostDrifted 3 (some .int) 2 0 0 l θ [.ref mo] ph (nP θ ph mo μ σ (k_most σ) (zI (k_most σ) (nI (mstG (drfN σ) 5).1))) (fun _ _ => False) := by
  obtain ⟨s, F, hm, hr, rfl⟩ := hm
  have hn := hr.ok.1
  have hp12 := hr.ok.2.2.2.1
  refine MC.of htr (by decide) (Nat.le_of_ble_eq_true rfl) ?_
  intro x hX hQ hT
  have bad : ∀ k, ¬ k = 0 → k_most σ = k → nP θ ph mo μ σ (k_most σ) (zI (k_most σ) (nI (mstG (drfN σ) 5).1)) (some (.int 0)) (e_up ph mo (mobj μ (upd s 0 (nI k)))) := fun k hk0 hk => nP.mk (hm.told hr kept.refl (nI k)) (by rw [hk]) (by rw [zI_n (by omega)])
  refine e_aload_n hX 0 iX12_mostDrifted_0 rfl rfl ?_
  refine e_get hX iX12_mostDrifted_1 hm.1 rfl ?_
  rw [show s 23 = nI (gP σ) from hr.1.2.2.2.2.2.1]
  refine e_if_ne hX iX12_mostDrifted_4 (fun c4 => ?_) (fun c4 => ?_)
  · have h2 : ¬ gP σ = 0 := fun e => c4 (by rw [e]; rfl)
    refine e_aload_n hX 0 iX12_mostDrifted_13 rfl rfl ?_
    refine e_get hX iX12_mostDrifted_14 hm.1 rfl ?_
    rw [hr.1.1]
    refine e_if_ne hX iX12_mostDrifted_17 (fun c17 => ?_) (fun c17 => ?_)
    · have h3 : ¬ gN σ = 0 := fun e => c17 (by rw [e]; rfl)
      have hk : k_most σ = 0 := (if_neg h2).trans (if_neg h3)
      have hd0 := drf_pos hr.ok (c := 0) (by decide) h3 h2
      have loop : ∀ (z c : Nat) (p : e_PH) (f : Nat → Int32), 5 - c < z → 1 ≤ c → c ≤ 5 → MI θ p mo μ s (updF F 13 f) → kept ph p (mS mo μ) → EJ θ x 30 [(0, .ref mo), (1, .int (nI (mstG (drfN σ) c).1)), (2, .int (nI c))] [] p 0 0 := by
        intro z
        induction z with
        | zero => intro c p f hz; omega
        | succ z ih =>
          intro c p f hz hc1 hc hmp hkp
          have hml := mstG_le (d := drfN σ) c
          obtain ⟨c0, hc0⟩ : ∃ c0, c = c0 + 1 := ⟨c - 1, by omega⟩
          have hm2 : (mstG (drfN σ) c).2 = drfN σ (mstG (drfN σ) c).1 := by rw [hc0]; exact mst_2 hd0 c0
          have hml5 : (mstG (drfN σ) c).1 < 5 := by
            rw [hc0, mst_s]
            split
            · show c0 < 5; omega
            · have := mstG_le (d := drfN σ) c0; omega
          refine e_iload_n hX 2 iX12_mostDrifted_30 rfl rfl ?_
          refine e_iconst (v := 5) hX iX12_mostDrifted_31 (by decide) ?_
          refine e_icmp_ge hX iX12_mostDrifted_32 (fun c32 => ?_) (fun c32 => ?_)
          · have h5 : c = 5 := nI_same hc (by decide) c32
            subst h5
            refine e_aload_n hX 0 iX12_mostDrifted_60 rfl rfl ?_
            refine e_iload_n hX 1 iX12_mostDrifted_61 rfl rfl ?_
            refine e_callV hX iX12_mostDrifted_62 hmp.1 (n_tells htr hmp (nI (mstG (drfN σ) 5).1)) rfl rfl ⟨by decide, by decide, by decide, by decide⟩ (Nat.le_of_ble_eq_true rfl) (fun _ _ h => h.elim) (fun v9 ph9 hv9 => ?_)
            obtain ⟨rfl, e9⟩ := hv9
            subst ph9
            exact e_iret hX hQ iX12_mostDrifted_65 rfl (by decide) (by decide) (nP.mk (hmp.told (hr.counted f) hkp 0) (by rw [hk]; rfl) (by rw [zI_0 hk]))
          · have h5 : c < 5 := nI_less hc (by decide) c32
            refine e_aload_n hX 0 iX12_mostDrifted_35 rfl rfl ?_
            refine e_iload_n hX 2 iX12_mostDrifted_36 rfl rfl ?_
            refine e_callV hX iX12_mostDrifted_37 hmp.1 (n_drifted htr hmp (hr.counted f) h5 h3 h2) rfl rfl ⟨by decide, by decide, by decide, by decide⟩ (Nat.le_of_ble_eq_true rfl) (fun _ _ h => h.elim) (fun v9 ph9 hv9 => ?_)
            obtain ⟨rfl, ⟨f9, hm9⟩, hk9⟩ := hv9
            rw [updF_2] at hm9
            refine e_aload_n hX 0 iX12_mostDrifted_40 rfl rfl ?_
            refine e_iload_n hX 1 iX12_mostDrifted_41 rfl rfl ?_
            refine e_callV hX iX12_mostDrifted_42 hm9.1 (n_drifted htr hm9 (hr.counted f9) hml5 h3 h2) rfl rfl ⟨by decide, by decide, by decide, by decide⟩ (Nat.le_of_ble_eq_true rfl) (fun _ _ h => h.elim) (fun v8 ph8 hv8 => ?_)
            obtain ⟨rfl, ⟨f8, hm8⟩, hk8⟩ := hv8
            rw [updF_2] at hm8
            have hkp8 := (hkp.trans hk9).trans hk8
            have back : ∀ v, v = (mstG (drfN σ) (c + 1)).1 → EJ θ x 53 [(0, .ref mo), (2, .int (nI c))] [.int (nI v)] ph8 0 0 := by
              intro v hv
              rw [hv]
              refine e_istore_n hX 1 iX12_mostDrifted_53 rfl (by decide) ?_
              refine e_iinc hX iX12_mostDrifted_54 rfl (by first | exact nI_inc _ | rfl) (by decide) ?_
              refine e_goto hX iX12_mostDrifted_57 ?_
              refine e_loc [0, 1, 2] ?_
              exact ih (c + 1) ph8 f8 (by omega) (by omega) (by omega) hm8 hkp8
            refine e_icmp_le hX iX12_mostDrifted_45 (fun c45 => ?_) (fun c45 => ?_)
            · refine e_iload_n hX 1 iX12_mostDrifted_52 rfl rfl ?_
              refine e_loc [0, 2] ?_
              exact back _ (by rw [mst_s, if_neg (by rw [hm2]; exact Int32.not_lt.mpr c45)])
            · refine e_iload_n hX 2 iX12_mostDrifted_48 rfl rfl ?_
              refine e_goto hX iX12_mostDrifted_49 ?_
              refine e_loc [0, 2] ?_
              exact back _ (by rw [mst_s, if_pos (by rw [hm2]; exact Int32.not_le.mp c45)])
      refine e_iconst (v := 0) hX iX12_mostDrifted_26 (by decide) ?_
      refine e_istore_n hX 1 iX12_mostDrifted_27 rfl (by decide) ?_
      refine e_iconst (v := 1) hX iX12_mostDrifted_28 (by decide) ?_
      refine e_istore_n hX 2 iX12_mostDrifted_29 rfl (by decide) ?_
      refine e_loc [0, 1, 2] ?_
      have := loop 5 1 ph (F 13) (by omega) (by omega) (by omega) (by rw [updF_id]; exact hm) kept.refl
      rw [show (mstG (drfN σ) 1).1 = 0 from congrArg (fun z => z.1) (mst_1 hd0)] at this
      exact this
    · have h3 : gN σ = 0 := (nI_eq (by omega) (by decide)).mp c17
      refine e_aload_n hX 0 iX12_mostDrifted_20 rfl rfl ?_
      refine e_iconst (v := 2) hX iX12_mostDrifted_21 (by decide) ?_
      refine e_callV hX iX12_mostDrifted_22 hm.1 (n_fails htr hm 2) rfl rfl ⟨by decide, by decide, by decide, by decide⟩ (Nat.le_of_ble_eq_true rfl) (fun _ _ h => h.elim) (fun v9 ph9 hv9 => ?_)
      obtain ⟨rfl, e9⟩ := hv9
      subst ph9
      exact e_iret hX hQ iX12_mostDrifted_25 rfl (by decide) (by decide) (bad 2 (by decide) ((if_neg h2).trans (if_pos h3)))
  · have h2 : gP σ = 0 := (nI_eq (by omega) (by decide)).mp c4
    refine e_aload_n hX 0 iX12_mostDrifted_7 rfl rfl ?_
    refine e_iconst (v := 1) hX iX12_mostDrifted_8 (by decide) ?_
    refine e_callV hX iX12_mostDrifted_9 hm.1 (n_fails htr hm 1) rfl rfl ⟨by decide, by decide, by decide, by decide⟩ (Nat.le_of_ble_eq_true rfl) (fun _ _ h => h.elim) (fun v9 ph9 hv9 => ?_)
    obtain ⟨rfl, e9⟩ := hv9
    subst ph9
    exact e_iret hX hQ iX12_mostDrifted_12 rfl (by decide) (by decide) (bad 1 (by decide) (if_pos h2))
end MONC
