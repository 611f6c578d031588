/-! the model: mostIn, errorOf -/
section MOQ
variable {l : Launch} {θ : e_T} {ph : e_PH} {mo : Nat} {μ : Nat → Nat} {σ : SG} {t : Int32} {s : Nat → Int32} {F : Nat → Nat → Int32}
theorem n_mostIn (htr : l.stackTraces = false) (hm : MI θ ph mo μ s F) (hr : MR σ s F) (y : Int32) {c r : Nat} (hc : c < 5) (hrn : r < gN σ) : MC yX12_mostIn cX12_mostIn 8 (some .int) 2 0 0 l θ [.ref mo, .int y, .int (nI c), .int (nI r)] ph (fun z p => z = some (.int (nI (mosM y c (gN σ) (gV σ) r))) ∧ p = ph) (fun _ _ => False) := by
  have hn := hr.ok.1
  let C : Nat → Nat → Bool := fun k i => eqIn y (gV σ i) (gV σ r) && decide (gV σ i c = gV σ k c)
  let G : Nat → Nat := fun k => if eqIn y (gV σ k) (gV σ r) = true then cntB (gN σ) (C k) else 0
  have hG : ∀ k, G k ≤ 12 := fun k => by
    show (if _ then _ else _) ≤ 12
    split
    · exact Nat.le_trans (cntB_le _ _) hn
    · exact Nat.zero_le _
  have hmx : ∀ k, mxN k G ≤ 12 := fun k => mxN_le (fun i _ => hG i)
  refine MC.of htr (by decide) (Nat.le_of_ble_eq_true rfl) ?_
  intro x hX hQ hT
  have outer : ∀ (z k : Nat), gN σ - k < z → k ≤ gN σ → EJ θ x 6 [(0, .ref mo), (1, .int y), (2, .int (nI c)), (3, .int (nI r)), (4, .int (nI (mxN k G))), (5, .int (nI k))] [] ph 0 0 := by
    intro z
    induction z with
    | zero => intro k hz; omega
    | succ z ih =>
      intro k hz hk
      refine e_iload hX iX12_mostIn_6 rfl ?_
      refine e_aload_n hX 0 iX12_mostIn_8 rfl rfl ?_
      refine e_get hX iX12_mostIn_9 hm.1 rfl ?_
      rw [hr.1.1]
      refine e_icmp_ge hX iX12_mostIn_12 (fun c12 => ?_) (fun c12 => ?_)
      · have hkn := nI_same hk (by omega) c12
        subst hkn
        refine e_iload hX iX12_mostIn_107 rfl ?_
        exact e_iret hX hQ iX12_mostIn_109 rfl (by decide) (by decide) ⟨rfl, rfl⟩
      · have hkn := nI_less hk (by omega) c12
        have done : ∀ g, g = G k → EJ θ x 85 [(0, .ref mo), (1, .int y), (2, .int (nI c)), (3, .int (nI r)), (4, .int (nI (mxN k G))), (5, .int (nI k)), (6, .int (nI g))] [] ph 0 0 := by
          intro g hg
          have hb1 := hG k
          have hb2 := hmx k
          have nxt : EJ θ x 99 [(0, .ref mo), (1, .int y), (2, .int (nI c)), (3, .int (nI r)), (5, .int (nI k))] [.int (nI (mxN (k + 1) G))] ph 0 0 := by
            refine e_istore hX iX12_mostIn_99 (by decide) ?_
            refine e_iinc hX iX12_mostIn_101 rfl (by first | exact nI_inc _ | rfl) (by decide) ?_
            refine e_goto hX iX12_mostIn_104 ?_
            refine e_loc [0, 1, 2, 3, 4, 5] ?_
            exact ih (k + 1) (by omega) (by omega)
          refine e_iload hX iX12_mostIn_85 rfl ?_
          refine e_iload hX iX12_mostIn_87 rfl ?_
          refine e_icmp_le hX iX12_mostIn_89 (fun c89 => ?_) (fun c89 => ?_)
          · refine e_iload hX iX12_mostIn_97 rfl ?_
            refine e_loc [0, 1, 2, 3, 5] ?_
            rw [show mxN (k + 1) G = mxN k G from if_neg (fun h => by rw [← hg] at h; exact absurd c89 (nI_ge h (by omega)))] at nxt
            exact nxt
          · refine e_iload hX iX12_mostIn_92 rfl ?_
            refine e_goto hX iX12_mostIn_94 ?_
            refine e_loc [0, 1, 2, 3, 5] ?_
            have h5 : mxN k G < G k := by
              rcases Nat.lt_or_ge (mxN k G) (G k) with h | h
              · exact h
              · exact absurd (nI_le (by rw [hg]; exact h) (by omega)) c89
            rw [show mxN (k + 1) G = G k from if_pos h5, ← hg] at nxt
            exact nxt
        have inner : eqIn y (gV σ k) (gV σ r) = true → ∀ (z' i : Nat), gN σ - i < z' → i ≤ gN σ → EJ θ x 21 [(0, .ref mo), (1, .int y), (2, .int (nI c)), (3, .int (nI r)), (4, .int (nI (mxN k G))), (5, .int (nI k)), (6, .int (nI (cntB i (C k)))), (7, .int (nI i))] [] ph 0 0 := by
          intro he z'
          induction z' with
          | zero => intro i hz'; omega
          | succ z' ih' =>
            intro i hz' hi
            refine e_iload hX iX12_mostIn_21 rfl ?_
            refine e_aload_n hX 0 iX12_mostIn_23 rfl rfl ?_
            refine e_get hX iX12_mostIn_24 hm.1 rfl ?_
            rw [hr.1.1]
            refine e_icmp_ge hX iX12_mostIn_27 (fun c27 => ?_) (fun c27 => ?_)
            · have hin := nI_same hi (by omega) c27
              subst hin
              refine e_loc [0, 1, 2, 3, 4, 5, 6] ?_
              exact done _ (if_pos he).symm
            · have hin := nI_less hi (by omega) c27
              have next : ∀ d, cntB (i + 1) (C k) = cntB i (C k) + d → EJ θ x 76 [(0, .ref mo), (1, .int y), (2, .int (nI c)), (3, .int (nI r)), (4, .int (nI (mxN k G))), (5, .int (nI k)), (7, .int (nI i))] [.int (nI d), .int (nI (cntB i (C k)))] ph 0 0 := by
                intro d hd
                refine e_iadd hX iX12_mostIn_76 ?_
                rw [nI_add, ← hd]
                refine e_istore hX iX12_mostIn_77 (by decide) ?_
                refine e_iinc hX iX12_mostIn_79 rfl (by first | exact nI_inc _ | rfl) (by decide) ?_
                refine e_goto hX iX12_mostIn_82 ?_
                refine e_loc [0, 1, 2, 3, 4, 5, 6, 7] ?_
                exact ih' (i + 1) (by omega) (by omega)
              refine e_aload_n hX 0 iX12_mostIn_30 rfl rfl ?_
              refine e_iload_n hX 1 iX12_mostIn_31 rfl rfl ?_
              refine e_iload hX iX12_mostIn_32 rfl ?_
              refine e_iload_n hX 3 iX12_mostIn_34 rfl rfl ?_
              refine e_callV hX iX12_mostIn_35 hm.1 (n_alike htr hm y (show k < 18 by omega) (show r < 18 by omega)) rfl rfl ⟨by decide, by decide, by decide, by decide⟩ (Nat.le_of_ble_eq_true rfl) (fun _ _ h => h.elim) (fun v9 ph9 hv9 => ?_)
              obtain ⟨rfl, e9⟩ := hv9
              subst ph9
              rw [hr.eq y hkn hrn, he]
              refine e_if_eq hX iX12_mostIn_38 (fun c38 => ?_) (fun c38 => ?_)
              · exact absurd c38 (by decide)
              · refine e_iload hX iX12_mostIn_41 rfl ?_
                refine e_aload_n hX 0 iX12_mostIn_43 rfl rfl ?_
                refine e_iload_n hX 1 iX12_mostIn_44 rfl rfl ?_
                refine e_iload hX iX12_mostIn_45 rfl ?_
                refine e_iload_n hX 3 iX12_mostIn_47 rfl rfl ?_
                refine e_callV hX iX12_mostIn_48 hm.1 (n_alike htr hm y (show i < 18 by omega) (show r < 18 by omega)) rfl rfl ⟨by decide, by decide, by decide, by decide⟩ (Nat.le_of_ble_eq_true rfl) (fun _ _ h => h.elim) (fun v9 ph9 hv9 => ?_)
                obtain ⟨rfl, e9⟩ := hv9
                subst ph9
                rw [hr.eq y hin hrn]
                refine e_if_eq hX iX12_mostIn_51 (fun c51 => ?_) (fun c51 => ?_)
                · refine e_iconst (v := 0) hX iX12_mostIn_75 (by decide) ?_
                  refine e_loc [0, 1, 2, 3, 4, 5, 7] ?_
                  exact next 0 (cntB_s0 (and_f1 (b2i_0.mp c51)))
                · refine e_aload_n hX 0 iX12_mostIn_54 rfl rfl ?_
                  refine e_iload hX iX12_mostIn_55 rfl ?_
                  refine e_iload_n hX 2 iX12_mostIn_57 rfl rfl ?_
                  refine e_callV hX iX12_mostIn_58 hm.1 (n_at htr hm (show i < 18 by omega) hc) rfl rfl ⟨by decide, by decide, by decide, by decide⟩ (Nat.le_of_ble_eq_true rfl) (fun _ _ h => h.elim) (fun v9 ph9 hv9 => ?_)
                  obtain ⟨rfl, e9⟩ := hv9
                  subst ph9
                  refine e_aload_n hX 0 iX12_mostIn_61 rfl rfl ?_
                  refine e_iload hX iX12_mostIn_62 rfl ?_
                  refine e_iload_n hX 2 iX12_mostIn_64 rfl rfl ?_
                  refine e_callV hX iX12_mostIn_65 hm.1 (n_at htr hm (show k < 18 by omega) hc) rfl rfl ⟨by decide, by decide, by decide, by decide⟩ (Nat.le_of_ble_eq_true rfl) (fun _ _ h => h.elim) (fun v9 ph9 hv9 => ?_)
                  obtain ⟨rfl, e9⟩ := hv9
                  subst ph9
                  rw [hr.v hin c hc, hr.v hkn c hc]
                  refine e_icmp_ne hX iX12_mostIn_68 (fun c68 => ?_) (fun c68 => ?_)
                  · refine e_iconst (v := 0) hX iX12_mostIn_75 (by decide) ?_
                    refine e_loc [0, 1, 2, 3, 4, 5, 7] ?_
                    exact next 0 (cntB_s0 (and_f2 (decide_eq_false c68)))
                  · refine e_iconst (v := 1) hX iX12_mostIn_71 (by decide) ?_
                    refine e_goto hX iX12_mostIn_72 ?_
                    refine e_loc [0, 1, 2, 3, 4, 5, 7] ?_
                    exact next 1 (cntB_s1 (and_tt (b2i_n0.mp c51) (decide_eq_true c68)))
        by_cases he : eqIn y (gV σ k) (gV σ r) = true
        · refine e_iconst (v := 0) hX iX12_mostIn_15 (by decide) ?_
          refine e_istore hX iX12_mostIn_16 (by decide) ?_
          refine e_iconst (v := 0) hX iX12_mostIn_18 (by decide) ?_
          refine e_istore hX iX12_mostIn_19 (by decide) ?_
          refine e_loc [0, 1, 2, 3, 4, 5, 6, 7] ?_
          exact inner he (gN σ + 1) 0 (by omega) (by omega)
        · refine e_iconst (v := 0) hX iX12_mostIn_15 (by decide) ?_
          refine e_istore hX iX12_mostIn_16 (by decide) ?_
          refine e_iconst (v := 0) hX iX12_mostIn_18 (by decide) ?_
          refine e_istore hX iX12_mostIn_19 (by decide) ?_
          refine e_iload hX iX12_mostIn_21 rfl ?_
          refine e_aload_n hX 0 iX12_mostIn_23 rfl rfl ?_
          refine e_get hX iX12_mostIn_24 hm.1 rfl ?_
          rw [hr.1.1]
          refine e_icmp_ge hX iX12_mostIn_27 (fun c27 => ?_) (fun c27 => ?_)
          · exact absurd c27 (nI_ge (show 0 < gN σ by omega) (by omega))
          · refine e_aload_n hX 0 iX12_mostIn_30 rfl rfl ?_
            refine e_iload_n hX 1 iX12_mostIn_31 rfl rfl ?_
            refine e_iload hX iX12_mostIn_32 rfl ?_
            refine e_iload_n hX 3 iX12_mostIn_34 rfl rfl ?_
            refine e_callV hX iX12_mostIn_35 hm.1 (n_alike htr hm y (show k < 18 by omega) (show r < 18 by omega)) rfl rfl ⟨by decide, by decide, by decide, by decide⟩ (Nat.le_of_ble_eq_true rfl) (fun _ _ h => h.elim) (fun v9 ph9 hv9 => ?_)
            obtain ⟨rfl, e9⟩ := hv9
            subst ph9
            rw [hr.eq y hkn hrn]
            refine e_if_eq hX iX12_mostIn_38 (fun c38 => ?_) (fun c38 => ?_)
            · refine e_loc [0, 1, 2, 3, 4, 5, 6] ?_
              exact done 0 (if_neg he).symm
            · exact absurd (b2i_n0.mp c38) he
  refine e_iconst (v := 0) hX iX12_mostIn_0 (by decide) ?_
  refine e_istore hX iX12_mostIn_1 (by decide) ?_
  refine e_iconst (v := 0) hX iX12_mostIn_3 (by decide) ?_
  refine e_istore hX iX12_mostIn_4 (by decide) ?_
  refine e_loc [0, 1, 2, 3, 4, 5] ?_
  exact outer (gN σ + 1) 0 (by omega) (by omega)
end MOQ
