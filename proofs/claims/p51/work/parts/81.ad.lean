/-! the law: cell, number, adds -/
section AD
variable {l : Launch} {θ : e_T} {ph : e_PH} {g : Nat} {X : Nat → Prop} {σ : SG} {D : Nat} {s0 : e_K}
theorem q_cell (htr : l.stackTraces = false) (hL : s0.2.1 ≤ 260) {k : Nat} (hk : k < 2 ^ 31) : MCN yL_cell cL_cell 2 (some .int) 0 0 0 l θ s0 [.ref s0.1, .int (nI k)] ph (fun z p => (∃ v, z = some (.int v)) ∧ p = ph) := by
  refine MCN.of htr (by decide) (Nat.le_of_ble_eq_true rfl) ?_
  intro x hX hQ hN
  refine e_iload_n hX 1 iL_cell_0 rfl rfl ?_
  refine e_aload_n hX 0 iL_cell_1 rfl rfl ?_
  refine e_slen hX hN iL_cell_2 ?_
  refine e_icmp_ge hX iL_cell_3 (fun c3 => ?_) (fun c3 => ?_)
  · refine e_ldc hX iL_cell_12 kcRL_7 ?_
    refine e_iload_n hX 1 iL_cell_14 rfl rfl ?_
    refine e_imul hX iL_cell_15 ?_
    refine e_bipush (v := 11) hX iL_cell_16 (by decide) ?_
    refine e_iadd hX iL_cell_18 ?_
    exact e_iret hX hQ iL_cell_19 rfl (by decide) (by decide) ⟨⟨_, rfl⟩, rfl⟩
  · have hlt : k < s0.2.1 := by
      rcases Nat.lt_or_ge k s0.2.1 with h | h
      · exact h
      · exact absurd (nI_le h (by omega)) c3
    refine e_aload_n hX 0 iL_cell_6 rfl rfl ?_
    refine e_iload_n hX 1 iL_cell_7 rfl rfl ?_
    refine e_sld hX hN k iL_cell_8 rfl hlt (by omega) ?_
    refine e_goto hX iL_cell_9 ?_
    exact e_iret hX hQ iL_cell_19 rfl (by decide) (by decide) ⟨⟨_, rfl⟩, rfl⟩
theorem num_ok {q : Nat} (hq : q < 5) : okVB (nI q - 2) = true := (by decide : ∀ q, q < 5 → okVB (nI q - 2) = true) q hq
theorem q_number (htr : l.stackTraces = false) (v : Int32) : MC yL_number cL_number 1 (some .int) 0 0 0 l θ [.int v] ph (fun z p => (∃ w, z = some (.int w) ∧ okVB w = true) ∧ p = ph) (fun _ _ => False) := by
  refine MC.of htr (by decide) (Nat.le_of_ble_eq_true rfl) ?_
  intro x hX hQ hT
  refine e_iload_n hX 0 iL_number_0 rfl rfl ?_
  refine e_bipush (v := 15) hX iL_number_1 (by decide) ?_
  refine e_iand hX iL_number_3 ?_
  refine e_if_ne hX iL_number_4 (fun c4 => ?_) (fun c4 => ?_)
  · refine e_iload_n hX 0 iL_number_12 rfl rfl ?_
    refine e_iconst (v := 4) hX iL_number_13 (by decide) ?_
    refine e_ishr hX iL_number_14 ?_
    refine e_bipush (v := 63) hX iL_number_15 (by decide) ?_
    refine e_iand hX iL_number_17 ?_
    obtain ⟨j, hj, e⟩ := pk_andE (v >>> ((4 : Int32) &&& 31)) (m := 63) 6 (by decide)
    rw [e]
    refine e_iconst (v := 5) hX iL_number_18 (by decide) ?_
    refine e_irem hX iL_number_19 (by decide) ?_
    rw [show (5 : Int32) = nI 5 from rfl, pk_rem (by omega) (by decide) (by decide)]
    refine e_iconst (v := 2) hX iL_number_20 (by decide) ?_
    refine e_isub hX iL_number_21 ?_
    exact e_iret hX hQ iL_number_22 rfl (by decide) (by decide) ⟨⟨_, rfl, num_ok (Nat.mod_lt _ (by decide))⟩, rfl⟩
  · refine e_bipush (v := 100) hX iL_number_7 (by decide) ?_
    refine e_goto hX iL_number_9 ?_
    exact e_iret hX hQ iL_number_22 rfl (by decide) (by decide) ⟨⟨_, rfl, by decide⟩, rfl⟩
/-- the state that adds leaves -/
def aP (θ : e_T) (g : Nat) (X : Nat → Prop) (σ : SG) (ph : e_PH) : Option Value → e_PH → Prop := fun z p => ∃ a σ', z = some (.int a) ∧ GP θ p g X σ' ∧ kx ph p X ∧ (gN σ' = gN σ ∧ gI σ' = gI σ) ∧ ∀ D, iv D σ → iv D σ'
theorem qP_a {k : Nat} {a : Int32} {ρ : RU} {z : Option Value} {p : e_PH} (h : qP θ ph g X k a (s_add σ ρ) σ z p) : aP θ g X σ ph z p := by
  obtain ⟨h1, h2, h3⟩ := h
  refine ⟨_, _, h1, h2, h3, ?_, fun D hv => ?_⟩
  · by_cases e : k = 0
    · rw [if_pos e]; exact ⟨rfl, rfl⟩
    · rw [if_neg e]; exact ⟨rfl, rfl⟩
  · by_cases e : k = 0
    · rw [if_pos e]; exact hv
    · rw [if_neg e]; exact hv
theorem q_adds (htr : l.stackTraces = false) (hg : GP θ ph g X σ) (v : Int32) : MCN yL_adds cL_adds 6 (some .int) 9 2 26 l θ s0 [.ref g, .int v] ph (aP θ g X σ ph) := by
  refine MCN.of htr (by decide) (Nat.le_of_ble_eq_true rfl) ?_
  intro x hX hQ hN
  refine e_iload_n hX 1 iL_adds_0 rfl rfl ?_
  refine e_bipush (v := 8) hX iL_adds_1 (by decide) ?_
  refine e_idiv hX iL_adds_3 (by decide) ?_
  refine e_iconst (v := 5) hX iL_adds_4 (by decide) ?_
  refine e_irem hX iL_adds_5 (by decide) ?_
  refine e_istore_n hX 2 iL_adds_6 rfl (by decide) ?_
  refine e_iload_n hX 1 iL_adds_7 rfl rfl ?_
  refine e_bipush (v := 64) hX iL_adds_8 (by decide) ?_
  refine e_idiv hX iL_adds_10 (by decide) ?_
  refine e_iconst (v := 5) hX iL_adds_11 (by decide) ?_
  refine e_irem hX iL_adds_12 (by decide) ?_
  refine e_istore_n hX 3 iL_adds_13 rfl (by decide) ?_
  refine e_iload_n hX 1 iL_adds_14 rfl rfl ?_
  refine e_sipush (v := 512) hX iL_adds_15 (by decide) ?_
  refine e_idiv hX iL_adds_18 (by decide) ?_
  refine e_iconst (v := 3) hX iL_adds_19 (by decide) ?_
  refine e_irem hX iL_adds_20 (by decide) ?_
  refine e_z0 hX iL_adds_21 iL_adds_24 iL_adds_25 iL_adds_28 ?_
  refine e_istore hX iL_adds_29 (by decide) ?_
  refine e_iload_n hX 1 iL_adds_31 rfl rfl ?_
  refine e_bipush (v := 8) hX iL_adds_32 (by decide) ?_
  refine e_irem hX iL_adds_34 (by decide) ?_
  refine e_istore hX iL_adds_35 (by decide) ?_
  refine e_iload hX iL_adds_37 rfl ?_
  refine e_if_ne hX iL_adds_39 (fun c39 => ?_) (fun c39 => ?_)
  · refine e_iload hX iL_adds_68 rfl ?_
    refine e_iconst (v := 1) hX iL_adds_70 (by decide) ?_
    refine e_icmp_ne hX iL_adds_71 (fun c71 => ?_) (fun c71 => ?_)
    · refine e_iload hX iL_adds_82 rfl ?_
      refine e_iconst (v := 2) hX iL_adds_84 (by decide) ?_
      refine e_icmp_ne hX iL_adds_85 (fun c85 => ?_) (fun c85 => ?_)
      · refine e_iload hX iL_adds_106 rfl ?_
        refine e_iconst (v := 5) hX iL_adds_108 (by decide) ?_
        refine e_icmp_ge hX iL_adds_109 (fun c109 => ?_) (fun c109 => ?_)
        · refine e_aload_n hX 0 iL_adds_122 rfl rfl ?_
          refine e_iload_n hX 1 iL_adds_123 rfl rfl ?_
          refine e_sipush (v := 2048) hX iL_adds_124 (by decide) ?_
          refine e_idiv hX iL_adds_127 (by decide) ?_
          refine e_bipush (v := 32) hX iL_adds_128 (by decide) ?_
          refine e_irem hX iL_adds_130 (by decide) ?_
          refine e_iconst (v := 1) hX iL_adds_131 (by decide) ?_
          refine e_iload_n hX 2 iL_adds_132 rfl rfl ?_
          refine e_ishl hX iL_adds_133 ?_
          refine e_iconst (v := (-1)) hX iL_adds_134 (by decide) ?_
          refine e_ixor hX iL_adds_135 ?_
          refine e_iand hX iL_adds_136 ?_
          refine e_iload_n hX 2 iL_adds_137 rfl rfl ?_
          refine e_iload hX iL_adds_138 rfl ?_
          refine e_callW hX hN.nc iW_L_adds_140 (l_addDependency htr hg _ _ _) rfl rfl ⟨by decide, by decide, by decide, by decide⟩ (Nat.le_of_ble_eq_true rfl) (fun v9 ph9 hv9 => ?_)
          obtain ⟨a, σ', rfl, h2⟩ := qP_a hv9
          exact e_iret hX hQ iL_adds_143 rfl (by decide) (by decide) ⟨a, σ', rfl, h2⟩
        · refine e_aload_n hX 0 iL_adds_112 rfl rfl ?_
          refine e_iload_n hX 2 iL_adds_113 rfl rfl ?_
          refine e_iload hX iL_adds_114 rfl ?_
          refine e_callW hX hN.nc iW_L_adds_116 (l_addUnique htr hg _ _) rfl rfl ⟨by decide, by decide, by decide, by decide⟩ (Nat.le_of_ble_eq_true rfl) (fun v9 ph9 hv9 => ?_)
          obtain ⟨a, σ', rfl, h2⟩ := qP_a hv9
          refine e_goto hX iL_adds_119 ?_
          exact e_iret hX hQ iL_adds_143 rfl (by decide) (by decide) ⟨a, σ', rfl, h2⟩
      · refine e_iload_n hX 2 iL_adds_88 rfl rfl ?_
        refine e_iload_n hX 3 iL_adds_89 rfl rfl ?_
        refine e_icmp_ne hX iL_adds_90 (fun c90 => ?_) (fun c90 => ?_)
        · refine e_aload_n hX 0 iL_adds_97 rfl rfl ?_
          refine e_iload_n hX 2 iL_adds_98 rfl rfl ?_
          refine e_iload_n hX 3 iL_adds_99 rfl rfl ?_
          refine e_iload hX iL_adds_100 rfl ?_
          refine e_callW hX hN.nc iW_L_adds_102 (l_addOrder htr hg _ _ _) rfl rfl ⟨by decide, by decide, by decide, by decide⟩ (Nat.le_of_ble_eq_true rfl) (fun v9 ph9 hv9 => ?_)
          obtain ⟨a, σ', rfl, h2⟩ := qP_a hv9
          exact e_iret hX hQ iL_adds_105 rfl (by decide) (by decide) ⟨a, σ', rfl, h2⟩
        · refine e_iconst (v := 0) hX iL_adds_93 (by decide) ?_
          refine e_goto hX iL_adds_94 ?_
          exact e_iret hX hQ iL_adds_105 rfl (by decide) (by decide) ⟨_, σ, rfl, hg, kx.refl, ⟨rfl, rfl⟩, fun _ h => h⟩
    · refine e_aload_n hX 0 iL_adds_74 rfl rfl ?_
      refine e_iload_n hX 2 iL_adds_75 rfl rfl ?_
      refine e_iload hX iL_adds_76 rfl ?_
      refine e_callW hX hN.nc iW_L_adds_78 (l_addRequired htr hg _ _) rfl rfl ⟨by decide, by decide, by decide, by decide⟩ (Nat.le_of_ble_eq_true rfl) (fun v9 ph9 hv9 => ?_)
      obtain ⟨a, σ', rfl, h2⟩ := qP_a hv9
      exact e_iret hX hQ iL_adds_81 rfl (by decide) (by decide) ⟨a, σ', rfl, h2⟩
  · refine e_aload_n hX 0 iL_adds_42 rfl rfl ?_
    refine e_iload_n hX 2 iL_adds_43 rfl rfl ?_
    refine e_iconst (v := (-1)) hX iL_adds_44 (by decide) ?_
    refine e_iload_n hX 1 iL_adds_45 rfl rfl ?_
    refine e_sipush (v := 2048) hX iL_adds_46 (by decide) ?_
    refine e_idiv hX iL_adds_49 (by decide) ?_
    refine e_iconst (v := 2) hX iL_adds_50 (by decide) ?_
    refine e_irem hX iL_adds_51 (by decide) ?_
    refine e_isub hX iL_adds_52 ?_
    refine e_iconst (v := 1) hX iL_adds_53 (by decide) ?_
    refine e_iload_n hX 1 iL_adds_54 rfl rfl ?_
    refine e_sipush (v := 4096) hX iL_adds_55 (by decide) ?_
    refine e_idiv hX iL_adds_58 (by decide) ?_
    refine e_iconst (v := 2) hX iL_adds_59 (by decide) ?_
    refine e_irem hX iL_adds_60 (by decide) ?_
    refine e_iadd hX iL_adds_61 ?_
    refine e_iload hX iL_adds_62 rfl ?_
    refine e_callW hX hN.nc iW_L_adds_64 (l_addRange htr hg _ _ _ _) rfl rfl ⟨by decide, by decide, by decide, by decide⟩ (Nat.le_of_ble_eq_true rfl) (fun v9 ph9 hv9 => ?_)
    obtain ⟨a, σ', rfl, h2⟩ := qP_a hv9
    exact e_iret hX hQ iL_adds_67 rfl (by decide) (by decide) ⟨a, σ', rfl, h2⟩
end AD
