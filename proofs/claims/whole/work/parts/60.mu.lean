/-! the model: isRepair -/
section MOU
variable {l : Launch} {θ : e_T} {ph : e_PH} {mo : Nat} {μ : Nat → Nat} {s : Nat → Int32} {F : Nat → Nat → Int32}
theorem n_isRepair (htr : l.stackTraces = false) (hm : MI θ ph mo μ s F) {n k B : Nat} {M : Nat → Nat} (h1 : s 1 = nI n) (hn : n ≤ 12) (hk : k < 2 ^ 12) (hB : B < 2 ^ 12) (h9 : ∀ i, i < n → F 9 i = nI (M i)) (hM : ∀ i, i < n → M i < 2 ^ 12) : MC yX12_isRepair cX12_isRepair 5 (some .boolean) 1 0 0 l θ [.ref mo, .int (nI k), .int (nI B)] ph (fun z p => z = some (.int (b2i (repM n B M k))) ∧ p = ph) (fun _ _ => False) := by
  refine MC.of htr (by decide) (Nat.le_of_ble_eq_true rfl) ?_
  intro x hX hQ hT
  let P : Nat → Bool := fun i => k.testBit (n - 1 - i) || subN (M i) k
  have loop : ∀ (z i : Nat), n - i < z → i ≤ n → EJ θ x 16 [(0, .ref mo), (1, .int (nI k)), (2, .int (nI B)), (3, .int (b2i (subN B k && allB i P))), (4, .int (nI i))] [] ph 0 0 := by
    intro z
    induction z with
    | zero => intro i hz; omega
    | succ z ih =>
      intro i hz hi
      have back : ∀ b, b = (subN B k && allB (i + 1) P) → i < n → EJ θ x 59 [(0, .ref mo), (1, .int (nI k)), (2, .int (nI B)), (4, .int (nI i))] [.int (b2i b)] ph 0 0 := by
        intro b hb hin
        refine e_istore_n hX 3 iX12_isRepair_59 rfl (by decide) ?_
        refine e_iinc hX iX12_isRepair_60 rfl (by first | exact nI_inc _ | rfl) (by decide) ?_
        refine e_goto hX iX12_isRepair_63 ?_
        refine e_loc [0, 1, 2, 3, 4] ?_
        rw [hb]
        exact ih (i + 1) (by omega) (by omega)
      refine e_iload hX iX12_isRepair_16 rfl ?_
      refine e_aload_n hX 0 iX12_isRepair_18 rfl rfl ?_
      refine e_get hX iX12_isRepair_19 hm.1 rfl ?_
      rw [h1]
      refine e_icmp_ge hX iX12_isRepair_22 (fun c22 => ?_) (fun c22 => ?_)
      · have hin := nI_same hi (by omega) c22
        subst hin
        refine e_iload_n hX 3 iX12_isRepair_66 rfl rfl ?_
        exact e_zret hX hQ iX12_isRepair_67 rfl (nar_b _) (by decide) (by decide) ⟨rfl, rfl⟩
      · have hin := nI_less hi (by omega) c22
        refine e_iload_n hX 3 iX12_isRepair_25 rfl rfl ?_
        refine e_if_eq hX iX12_isRepair_26 (fun c26 => ?_) (fun c26 => ?_)
        · have h0 := b2i_0.mp c26
          have e0 : repM n B M k = false := by
            cases h2 : repM n B M k
            · rfl
            · have h3 : (subN B k && allB n P) = true := h2
              rw [Bool.and_eq_true] at h3
              rw [h3.1, allB_t.mpr (fun j hj => allB_t.mp h3.2 j (by omega))] at h0
              cases h0
          rw [h0]
          refine e_iload_n hX 3 iX12_isRepair_66 rfl rfl ?_
          exact e_zret hX hQ iX12_isRepair_67 rfl (nar_b _) (by decide) (by decide) ⟨by rw [e0], rfl⟩
        · have ht := b2i_n0.mp c26
          have ea : (subN B k && allB (i + 1) P) = P i := by rw [allB_s, ← Bool.and_assoc, ht]; rfl
          refine e_iload_n hX 1 iX12_isRepair_29 rfl rfl ?_
          refine e_aload_n hX 0 iX12_isRepair_30 rfl rfl ?_
          refine e_iload hX iX12_isRepair_31 rfl ?_
          refine e_callV hX iX12_isRepair_33 hm.1 (n_bit htr hm h1 hn hin) rfl rfl ⟨by decide, by decide, by decide, by decide⟩ (Nat.le_of_ble_eq_true rfl) (fun _ _ h => h.elim) (fun v9 ph9 hv9 => ?_)
          obtain ⟨rfl, e9⟩ := hv9
          subst ph9
          refine e_iand hX iX12_isRepair_36 ?_
          refine e_if_ne hX iX12_isRepair_37 (fun c37 => ?_) (fun c37 => ?_)
          · have hb : k.testBit (n - 1 - i) = true := by
              cases h : k.testBit (n - 1 - i)
              · exact absurd ((and_pow hk (by omega)).mpr h) c37
              · rfl
            refine e_iconst (v := 1) hX iX12_isRepair_54 (by decide) ?_
            refine e_goto hX iX12_isRepair_55 ?_
            refine e_loc [0, 1, 2, 4] ?_
            exact back true (by rw [ea]; exact (or_t1 hb).symm) hin
          · have hb := (and_pow hk (by omega)).mp c37
            refine e_aload_n hX 0 iX12_isRepair_40 rfl rfl ?_
            refine e_get hX iX12_isRepair_41 hm.1 rfl ?_
            refine e_iload hX iX12_isRepair_44 rfl ?_
            refine e_iald hX i iX12_isRepair_46 (hm.i 9 (by decide) (by decide)) rfl (by show _ < 12; omega) (by show 12 < _; decide) ?_
            rw [h9 i hin]
            refine e_iload_n hX 1 iX12_isRepair_47 rfl rfl ?_
            refine e_iconst (v := (-1)) hX iX12_isRepair_48 (by decide) ?_
            refine e_ixor hX iX12_isRepair_49 ?_
            refine e_iand hX iX12_isRepair_50 ?_
            refine e_if_ne hX iX12_isRepair_51 (fun c51 => ?_) (fun c51 => ?_)
            · refine e_iconst (v := 0) hX iX12_isRepair_58 (by decide) ?_
              refine e_loc [0, 1, 2, 4] ?_
              refine back false ?_ hin
              rw [ea]
              refine (or_ff hb ?_).symm
              cases h : subN (M i) k
              · rfl
              · exact absurd ((nota_t (hM i hin)).mpr h) c51
            · refine e_iconst (v := 1) hX iX12_isRepair_54 (by decide) ?_
              refine e_goto hX iX12_isRepair_55 ?_
              refine e_loc [0, 1, 2, 4] ?_
              exact back true (by rw [ea]; exact (or_t2 ((nota_t (hM i hin)).mp c51)).symm) hin
  have start : ∀ b, b = subN B k → EJ θ x 12 [(0, .ref mo), (1, .int (nI k)), (2, .int (nI B))] [.int (b2i b)] ph 0 0 := by
    intro b hb
    refine e_istore_n hX 3 iX12_isRepair_12 rfl (by decide) ?_
    refine e_iconst (v := 0) hX iX12_isRepair_13 (by decide) ?_
    refine e_istore hX iX12_isRepair_14 (by decide) ?_
    refine e_loc [0, 1, 2, 3, 4] ?_
    have := loop (n + 1) 0 (by omega) (by omega)
    rw [show (subN B k && allB 0 P) = b by rw [hb]; exact Bool.and_true _] at this
    exact this
  refine e_iload_n hX 1 iX12_isRepair_0 rfl rfl ?_
  refine e_iload_n hX 2 iX12_isRepair_1 rfl rfl ?_
  refine e_iand hX iX12_isRepair_2 ?_
  refine e_iload_n hX 2 iX12_isRepair_3 rfl rfl ?_
  refine e_icmp_ne hX iX12_isRepair_4 (fun c4 => ?_) (fun c4 => ?_)
  · refine e_iconst (v := 0) hX iX12_isRepair_11 (by decide) ?_
    refine start false ?_
    cases h : subN B k
    · rfl
    · exact absurd ((and_sub hk hB).mpr h) c4
  · refine e_iconst (v := 1) hX iX12_isRepair_7 (by decide) ?_
    refine e_goto hX iX12_isRepair_8 ?_
    exact start true ((and_sub hk hB).mp c4).symm
end MOU
