section MOR2
variable {l : Launch} {θ : e_T} {ph : e_PH} {mo : Nat} {μ : Nat → Nat} {σ : SG} {t : Int32} {s : Nat → Int32} {F : Nat → Nat → Int32}
theorem w_errorOf (htr : l.stackTraces = false) (hm : MP θ ph mo μ σ t) (y c : Int32) : MC yX12_errorOf cX12_errorOf 7 (some .int) 3 0 0 l θ [.ref mo, .int y, .int c] ph (nP θ ph mo μ σ (k_err y c) (zI (k_err y c) (nI (errN y (ix c) (gN σ) (gV σ))))) (fun _ _ => False) := by
  obtain ⟨s, F, hm, hr, rfl⟩ := hm
  have hn := hr.ok.1
  refine MC.of htr (by decide) (Nat.le_of_ble_eq_true rfl) ?_
  intro x hX hQ hT
  refine e_iload_n hX 2 iX12_errorOf_0 rfl rfl ?_
  refine e_callS hX iX12_errorOf_1 (n_isColumn htr c) rfl rfl ⟨by decide, by decide, by decide, by decide⟩ (Nat.le_of_ble_eq_true rfl) (fun _ _ h => h.elim) (fun v9 ph9 hv9 => ?_)
  obtain ⟨rfl, e9⟩ := hv9
  subst ph9
  refine e_if_ne hX iX12_errorOf_4 (fun c4 => ?_) (fun c4 => ?_)
  · have h2 := b2i_n0.mp c4
    obtain ⟨c', hc', rfl⟩ := colB_t.mp h2
    have hix : ix (nI c') = c' := ix_n (by omega)
    have th : (¬ (setB y && !(ix y).testBit (ix (nI c'))) = true) → EJ θ x 29 [(0, .ref mo), (1, .int y), (2, .int (nI c'))] [] ph 0 0 := by
      intro h
      have hk : k_err y (nI c') = 2 := (if_pos h2).trans (if_neg h)
      refine e_aload_n hX 0 iX12_errorOf_29 rfl rfl ?_
      refine e_iconst (v := 2) hX iX12_errorOf_30 (by decide) ?_
      refine e_callV hX iX12_errorOf_31 hm.1 (n_fails htr hm 2) rfl rfl ⟨by decide, by decide, by decide, by decide⟩ (Nat.le_of_ble_eq_true rfl) (fun _ _ h => h.elim) (fun v9 ph9 hv9 => ?_)
      obtain ⟨rfl, e9⟩ := hv9
      subst ph9
      exact e_iret hX hQ iX12_errorOf_34 rfl (by decide) (by decide) (nP.mk (hm.told hr kept.refl 2) (by rw [hk]; rfl) (by rw [zI_n (by omega)]))
    refine e_iload_n hX 1 iX12_errorOf_13 rfl rfl ?_
    refine e_callS hX iX12_errorOf_14 (n_isSet htr y) rfl rfl ⟨by decide, by decide, by decide, by decide⟩ (Nat.le_of_ble_eq_true rfl) (fun _ _ h => h.elim) (fun v9 ph9 hv9 => ?_)
    obtain ⟨rfl, e9⟩ := hv9
    subst ph9
    refine e_if_eq hX iX12_errorOf_17 (fun c17 => ?_) (fun c17 => ?_)
    · exact th (by rw [b2i_0.mp c17]; exact fun h => Bool.noConfusion h)
    · have h5 := b2i_n0.mp c17
      obtain ⟨y', hy', rfl⟩ := setB_t.mp h5
      have hiy : ix (nI y') = y' := ix_n (by omega)
      refine e_iload_n hX 1 iX12_errorOf_20 rfl rfl ?_
      refine e_iload_n hX 2 iX12_errorOf_21 rfl rfl ?_
      refine e_ishr hX iX12_errorOf_22 ?_
      refine e_iconst (v := 1) hX iX12_errorOf_23 (by decide) ?_
      refine e_iand hX iX12_errorOf_24 ?_
      refine e_iconst (v := 1) hX iX12_errorOf_25 (by decide) ?_
      refine e_icmp_ne hX iX12_errorOf_26 (fun c26 => ?_) (fun c26 => ?_)
      · have hb : y'.testBit c' = false := by
          have : ¬ sb (nI y') c' = true := fun q => c26 (sb_1.mpr q)
          rw [sb_n y' (show c' < 32 by omega)] at this
          simpa using this
        have h1 : (setB (nI y') && !(ix (nI y')).testBit (ix (nI c'))) = true := by rw [h5, hiy, hix, hb]; rfl
        have hk : k_err (nI y') (nI c') = 0 := (if_pos h2).trans (if_pos h1)
        let G : Nat → Nat := fun k => if allB k (fun i => !eqIn (nI y') (gV σ k) (gV σ i)) = true then mosM (nI y') c' (gN σ) (gV σ) k else 0
        have herr := @err_eq (nI y') c' (gN σ) (gV σ)
        have outer : ∀ (z k : Nat), gN σ - k < z → k ≤ gN σ → EJ θ x 40 [(0, .ref mo), (1, .int (nI y')), (2, .int (nI c')), (3, .int (nI (sumN k G))), (4, .int (nI k))] [] ph 0 0 := by
          intro z
          induction z with
          | zero => intro k hz; omega
          | succ z ih =>
            intro k hz hk2
            refine e_iload hX iX12_errorOf_40 rfl ?_
            refine e_aload_n hX 0 iX12_errorOf_42 rfl rfl ?_
            refine e_get hX iX12_errorOf_43 hm.1 rfl ?_
            rw [hr.1.1]
            refine e_icmp_ge hX iX12_errorOf_46 (fun c46 => ?_) (fun c46 => ?_)
            · have hkn := nI_same hk2 (by omega) c46
              have hs : sumN k G = kepM (nI y') c' (gN σ) (gV σ) := by rw [hkn]; rfl
              refine e_aload_n hX 0 iX12_errorOf_118 rfl rfl ?_
              refine e_aload_n hX 0 iX12_errorOf_119 rfl rfl ?_
              refine e_get hX iX12_errorOf_120 hm.1 rfl ?_
              rw [hr.1.1]
              refine e_iload_n hX 3 iX12_errorOf_123 rfl rfl ?_
              refine e_isub hX iX12_errorOf_124 ?_
              rw [pk_sub (by omega), show gN σ - sumN k G = errN (nI y') c' (gN σ) (gV σ) by omega]
              refine e_callV hX iX12_errorOf_125 hm.1 (n_tells htr hm (nI (errN (nI y') c' (gN σ) (gV σ)))) rfl rfl ⟨by decide, by decide, by decide, by decide⟩ (Nat.le_of_ble_eq_true rfl) (fun _ _ h => h.elim) (fun v9 ph9 hv9 => ?_)
              obtain ⟨rfl, e9⟩ := hv9
              subst ph9
              exact e_iret hX hQ iX12_errorOf_128 rfl (by decide) (by decide) (nP.mk (hm.told hr kept.refl 0) (by rw [hk]; rfl) (by rw [zI_0 hk, hix]))
            · have hkn := nI_less hk2 (by omega) c46
              let Q : Nat → Bool := fun i => !eqIn (nI y') (gV σ k) (gV σ i)
              have inner : ∀ (z' i : Nat), k - i < z' → i ≤ k → EJ θ x 55 [(0, .ref mo), (1, .int (nI y')), (2, .int (nI c')), (3, .int (nI (sumN k G))), (4, .int (nI k)), (5, .int (b2i (allB i Q))), (6, .int (nI i))] [] ph 0 0 := by
                intro z'
                induction z' with
                | zero => intro i hz'; omega
                | succ z' ih' =>
                  intro i hz' hi
                  have back : ∀ b, b = allB (i + 1) Q → i < k → EJ θ x 84 [(0, .ref mo), (1, .int (nI y')), (2, .int (nI c')), (3, .int (nI (sumN k G))), (4, .int (nI k)), (6, .int (nI i))] [.int (b2i b)] ph 0 0 := by
                    intro b hb hin
                    refine e_istore hX iX12_errorOf_84 (by decide) ?_
                    refine e_iinc hX iX12_errorOf_86 rfl (by first | exact nI_inc _ | rfl) (by decide) ?_
                    refine e_goto hX iX12_errorOf_89 ?_
                    refine e_loc [0, 1, 2, 3, 4, 5, 6] ?_
                    rw [hb]
                    exact ih' (i + 1) (by omega) (by omega)
                  refine e_iload hX iX12_errorOf_55 rfl ?_
                  refine e_iload hX iX12_errorOf_57 rfl ?_
                  refine e_icmp_ge hX iX12_errorOf_59 (fun c59 => ?_) (fun c59 => ?_)
                  · have hin := nI_same hi (by omega) c59
                    subst hin
                    have fin : ∀ d, d = G i → EJ θ x 110 [(0, .ref mo), (1, .int (nI y')), (2, .int (nI c')), (4, .int (nI i))] [.int (nI d), .int (nI (sumN i G))] ph 0 0 := by
                      intro d hd
                      refine e_iadd hX iX12_errorOf_110 ?_
                      rw [nI_add, hd]
                      refine e_istore_n hX 3 iX12_errorOf_111 rfl (by decide) ?_
                      refine e_iinc hX iX12_errorOf_112 rfl (by first | exact nI_inc _ | rfl) (by decide) ?_
                      refine e_goto hX iX12_errorOf_115 ?_
                      refine e_loc [0, 1, 2, 3, 4] ?_
                      exact ih (i + 1) (by omega) (by omega)
                    refine e_iload_n hX 3 iX12_errorOf_92 rfl rfl ?_
                    refine e_iload hX iX12_errorOf_93 rfl ?_
                    refine e_if_eq hX iX12_errorOf_95 (fun c95 => ?_) (fun c95 => ?_)
                    · refine e_iconst (v := 0) hX iX12_errorOf_109 (by decide) ?_
                      refine e_loc [0, 1, 2, 4] ?_
                      exact fin 0 (if_neg (by rw [show allB i (fun z => !eqIn (nI y') (gV σ i) (gV σ z)) = false from b2i_0.mp c95]; decide)).symm
                    · refine e_aload_n hX 0 iX12_errorOf_98 rfl rfl ?_
                      refine e_iload_n hX 1 iX12_errorOf_99 rfl rfl ?_
                      refine e_iload_n hX 2 iX12_errorOf_100 rfl rfl ?_
                      refine e_iload hX iX12_errorOf_101 rfl ?_
                      refine e_callV hX iX12_errorOf_103 hm.1 (n_mostIn htr hm hr (nI y') hc' hkn) rfl rfl ⟨by decide, by decide, by decide, by decide⟩ (Nat.le_of_ble_eq_true rfl) (fun _ _ h => h.elim) (fun v9 ph9 hv9 => ?_)
                      obtain ⟨rfl, e9⟩ := hv9
                      subst ph9
                      refine e_goto hX iX12_errorOf_106 ?_
                      refine e_loc [0, 1, 2, 4] ?_
                      exact fin _ (if_pos (b2i_n0.mp c95)).symm
                  · have hin := nI_less hi (by omega) c59
                    refine e_iload hX iX12_errorOf_62 rfl ?_
                    refine e_if_eq hX iX12_errorOf_64 (fun c64 => ?_) (fun c64 => ?_)
                    · refine e_iconst (v := 0) hX iX12_errorOf_83 (by decide) ?_
                      refine e_loc [0, 1, 2, 3, 4, 6] ?_
                      exact back false (by rw [allB_s, b2i_0.mp c64]; rfl) hin
                    · refine e_aload_n hX 0 iX12_errorOf_67 rfl rfl ?_
                      refine e_iload_n hX 1 iX12_errorOf_68 rfl rfl ?_
                      refine e_iload hX iX12_errorOf_69 rfl ?_
                      refine e_iload hX iX12_errorOf_71 rfl ?_
                      refine e_callV hX iX12_errorOf_73 hm.1 (n_alike htr hm (nI y') (show k < 18 by omega) (show i < 18 by omega)) rfl rfl ⟨by decide, by decide, by decide, by decide⟩ (Nat.le_of_ble_eq_true rfl) (fun _ _ h => h.elim) (fun v9 ph9 hv9 => ?_)
                      obtain ⟨rfl, e9⟩ := hv9
                      subst ph9
                      rw [hr.eq (nI y') hkn (by omega)]
                      refine e_if_ne hX iX12_errorOf_76 (fun c76 => ?_) (fun c76 => ?_)
                      · refine e_iconst (v := 0) hX iX12_errorOf_83 (by decide) ?_
                        refine e_loc [0, 1, 2, 3, 4, 6] ?_
                        exact back false (by rw [allB_s, b2i_n0.mp c64]; show false = !eqIn (nI y') (gV σ k) (gV σ i); rw [b2i_n0.mp c76]; rfl) hin
                      · refine e_iconst (v := 1) hX iX12_errorOf_79 (by decide) ?_
                        refine e_goto hX iX12_errorOf_80 ?_
                        refine e_loc [0, 1, 2, 3, 4, 6] ?_
                        exact back true (by rw [allB_s, b2i_n0.mp c64]; show true = !eqIn (nI y') (gV σ k) (gV σ i); rw [b2i_0.mp c76]; rfl) hin
              refine e_iconst (v := 1) hX iX12_errorOf_49 (by decide) ?_
              refine e_istore hX iX12_errorOf_50 (by decide) ?_
              refine e_iconst (v := 0) hX iX12_errorOf_52 (by decide) ?_
              refine e_istore hX iX12_errorOf_53 (by decide) ?_
              refine e_loc [0, 1, 2, 3, 4, 5, 6] ?_
              exact inner (k + 1) 0 (by omega) (by omega)
        refine e_iconst (v := 0) hX iX12_errorOf_35 (by decide) ?_
        refine e_istore_n hX 3 iX12_errorOf_36 rfl (by decide) ?_
        refine e_iconst (v := 0) hX iX12_errorOf_37 (by decide) ?_
        refine e_istore hX iX12_errorOf_38 (by decide) ?_
        refine e_loc [0, 1, 2, 3, 4] ?_
        exact outer (gN σ + 1) 0 (by omega) (by omega)
      · have hb : y'.testBit c' = true := by
          have : sb (nI y') c' = true := sb_1.mp c26
          rw [sb_n y' (show c' < 32 by omega)] at this
          exact this
        exact th (by rw [hiy, hix, hb, Bool.not_true, Bool.and_false]; decide)
  · have hk : k_err y c = 1 := if_neg (by rw [b2i_0.mp c4]; decide)
    refine e_aload_n hX 0 iX12_errorOf_7 rfl rfl ?_
    refine e_iconst (v := 1) hX iX12_errorOf_8 (by decide) ?_
    refine e_callV hX iX12_errorOf_9 hm.1 (n_fails htr hm 1) rfl rfl ⟨by decide, by decide, by decide, by decide⟩ (Nat.le_of_ble_eq_true rfl) (fun _ _ h => h.elim) (fun v9 ph9 hv9 => ?_)
    obtain ⟨rfl, e9⟩ := hv9
    subst ph9
    exact e_iret hX hQ iX12_errorOf_12 rfl (by decide) (by decide) (nP.mk (hm.told hr kept.refl 1) (by rw [hk]; rfl) (by rw [zI_n (by omega)]))
end MOR2
