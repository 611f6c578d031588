theorem GP.go {θ : e_T} {ph : e_PH} {g : Nat} {X : Nat → Prop} {σ : SG} (h : GP θ ph g X σ) : ∃ fs, ph g = some (e_O 0 fs) := by
  obtain ⟨κ, te, be, ue, r, wr, b, wb, u, h⟩ := h
  exact ⟨_, h.1⟩
theorem GP.xne {θ : e_T} {ph : e_PH} {g : Nat} {X : Nat → Prop} {σ : SG} (h : GP θ ph g X σ) : ∀ a, X a → ph a ≠ none := by
  obtain ⟨κ, te, be, ue, r, wr, b, wb, u, h⟩ := h
  exact h.2.2.2.2.2.2.2.2.2.1
theorem GP.ok {θ : e_T} {ph : e_PH} {g : Nat} {X : Nat → Prop} {σ : SG} (h : GP θ ph g X σ) : okS σ := by
  obtain ⟨κ, te, be, ue, r, wr, b, wb, u, h⟩ := h
  exact h.2.2.2.2.2.2.2.2.1
section GNF
variable {l : Launch} {θ : e_T} {ph : e_PH} {g : Nat} {X : Nat → Prop} {σ : SG}
theorem m_isConsistent (htr : l.stackTraces = false) (hg : GP θ ph g X σ) : MC yX11_isConsistent cX11_isConsistent 3 (some .boolean) 17 330 1980 l θ [.ref g] ph (oP θ ph g X 0 (some (.int 1)) σ) (fun _ _ => False) := by
  have hn := hg.ok.1
  refine MC.of htr (by decide) (Nat.le_of_ble_eq_true rfl) ?_
  intro x hX hQ hT
  have loopC : ∀ (z c : Nat) (p : e_PH), 5 - c < z → c ≤ 5 → GP θ p g X σ → kx ph p X → EJ θ x 15 [(0, .ref g), (1, .int (nI c))] [] p (66 * c) (396 * c) := by
    intro z
    induction z with
    | zero => intro c p hz; omega
    | succ z ih =>
      intro c p hz hc hgp hxp
      refine e_iload_n hX 1 iX11_isConsistent_15 rfl rfl ?_
      refine e_iconst (v := 5) hX iX11_isConsistent_16 (by decide) ?_
      refine e_icmp_ge hX iX11_isConsistent_17 (fun c17 => ?_) (fun c17 => ?_)
      · have hc5 : c = 5 := nI_same hc (by decide) c17
        refine e_iconst (v := 1) hX iX11_isConsistent_72 (by decide) ?_
        exact e_zret hX hQ iX11_isConsistent_73 rfl nar_1 (by omega) (by omega) ⟨rfl, rfl, hgp, hxp⟩
      · have hc5 : c < 5 := nI_less hc (by decide) c17
        have hcb : colB (nI c) = true := colB_t.mpr ⟨c, hc5, rfl⟩
        have hkc : k_col (nI c) = 0 := if_pos hcb
        have hix : ix (nI c) = c := ix_n (by omega)
        obtain ⟨fs, hgo⟩ := hgp.go
        refine e_aload_n hX 0 iX11_isConsistent_20 rfl rfl ?_
        refine e_iload_n hX 1 iX11_isConsistent_21 rfl rfl ?_
        refine e_callV hX iX11_isConsistent_22 hgo (m_minimalCount htr hgp (nI c)) rfl rfl ⟨by decide, by decide, by show _ ≤ 330; omega, by show _ ≤ 1980; omega⟩ (Nat.le_of_ble_eq_true rfl) (fun _ _ h => absurd hkc h.1) (fun v9 ph9 hv9 => ?_)
        obtain ⟨-, rfl, hg9, hx9⟩ := hv9
        obtain ⟨fs9, hgo9⟩ := hg9.go
        refine e_aload_n hX 0 iX11_isConsistent_25 rfl rfl ?_
        refine e_iload_n hX 1 iX11_isConsistent_26 rfl rfl ?_
        refine e_callV hX iX11_isConsistent_27 hgo9 (m_minimalCountT htr hg9 (nI c)) rfl rfl ⟨by decide, by decide, by show _ ≤ 330; omega, by show _ ≤ 1980; omega⟩ (Nat.le_of_ble_eq_true rfl) (fun _ _ h => absurd hkc h.1) (fun v8 ph8 hv8 => ?_)
        obtain ⟨-, rfl, hg8, hx8⟩ := hv8
        rw [hix, show pop32 (minM σ c) = a_minT σ c from minCnt_p.symm.trans minCnt_T]
        have loopS : ∀ (z2 i : Nat) (p2 : e_PH), 32 - i < z2 → i ≤ 32 → GP θ p2 g X σ → kx ph p2 X → EJ θ x 37 [(0, .ref g), (1, .int (nI c)), (2, .int (nI i))] [] p2 (66 * c + 2 + 2 * i) (396 * c + 12 + 12 * i) := by
          intro z2
          induction z2 with
          | zero => intro i p2 hz2; omega
          | succ z2 ih2 =>
            intro i p2 hz2 hi hgp2 hxp2
            refine e_iload_n hX 2 iX11_isConsistent_37 rfl rfl ?_
            refine e_bipush (v := 32) hX iX11_isConsistent_38 (by decide) ?_
            refine e_icmp_ge hX iX11_isConsistent_40 (fun c40 => ?_) (fun c40 => ?_)
            · have hi5 : i = 32 := nI_same hi (by decide) c40
              refine e_iinc hX iX11_isConsistent_66 rfl (by first | exact nI_inc _ | rfl) (by decide) ?_
              refine e_goto hX iX11_isConsistent_69 ?_
              refine e_loc [0, 1] ?_
              refine e_wid (k' := 66 * (c + 1)) (n' := 396 * (c + 1)) (by omega) (by omega) ?_
              exact ih (c + 1) p2 (by omega) (by omega) hgp2 hxp2
            · have hi5 : i < 32 := nI_less hi (by decide) c40
              have hkd : k_det (nI i) (nI c) = 0 := (if_pos (setB_t.mpr ⟨i, hi5, rfl⟩)).trans (if_pos hcb)
              obtain ⟨fs2, hgo2⟩ := hgp2.go
              refine e_aload_n hX 0 iX11_isConsistent_43 rfl rfl ?_
              refine e_iload_n hX 2 iX11_isConsistent_44 rfl rfl ?_
              refine e_iload_n hX 1 iX11_isConsistent_45 rfl rfl ?_
              refine e_callV hX iX11_isConsistent_46 hgo2 (m_determines htr hgp2 (nI i) (nI c)) rfl rfl ⟨by decide, by decide, by show _ ≤ 330; omega, by show _ ≤ 1980; omega⟩ (Nat.le_of_ble_eq_true rfl) (fun _ _ h => absurd hkd h.1) (fun v7 ph7 hv7 => ?_)
              obtain ⟨-, rfl, hg7, hx7⟩ := hv7
              obtain ⟨fs7, hgo7⟩ := hg7.go
              refine e_aload_n hX 0 iX11_isConsistent_49 rfl rfl ?_
              refine e_iload_n hX 2 iX11_isConsistent_50 rfl rfl ?_
              refine e_iload_n hX 1 iX11_isConsistent_51 rfl rfl ?_
              refine e_callV hX iX11_isConsistent_52 hgo7 (m_determinesP htr hg7 (nI i) (nI c)) rfl rfl ⟨by decide, by decide, by show _ ≤ 330; omega, by show _ ≤ 1980; omega⟩ (Nat.le_of_ble_eq_true rfl) (fun _ _ h => absurd hkd h.1) (fun v6 ph6 hv6 => ?_)
              obtain ⟨-, rfl, hg6, hx6⟩ := hv6
              refine e_icmp_eq hX iX11_isConsistent_55 (fun c55 => ?_) (fun c55 => ?_)
              · refine e_iinc hX iX11_isConsistent_60 rfl (by first | exact nI_inc _ | rfl) (by decide) ?_
                refine e_goto hX iX11_isConsistent_63 ?_
                refine e_loc [0, 1, 2] ?_
                refine e_wid (k' := 66 * c + 2 + 2 * (i + 1)) (n' := 396 * c + 12 + 12 * (i + 1)) (by omega) (by omega) ?_
                exact ih2 (i + 1) ph6 (by omega) (by omega) hg6 ((hxp2.trans hx7).trans hx6)
              · exact absurd rfl c55
        refine e_icmp_eq hX iX11_isConsistent_30 (fun c30 => ?_) (fun c30 => ?_)
        · refine e_iconst (v := 0) hX iX11_isConsistent_35 (by decide) ?_
          refine e_istore_n hX 2 iX11_isConsistent_36 rfl (by decide) ?_
          refine e_loc [0, 1, 2] ?_
          refine e_wid (k' := 66 * c + 2 + 2 * 0) (n' := 396 * c + 12 + 12 * 0) (by omega) (by omega) ?_
          exact loopS 33 0 ph8 (by omega) (by omega) hg8 ((hxp.trans hx9).trans hx8)
        · exact absurd rfl c30
  obtain ⟨fs, hgo⟩ := hg.go
  refine e_aload_n hX 0 iX11_isConsistent_0 rfl rfl ?_
  refine e_callV hX iX11_isConsistent_1 hgo (m_fewest htr hg) rfl rfl ⟨by decide, by decide, by show _ ≤ 330; omega, by show _ ≤ 1980; omega⟩ (Nat.le_of_ble_eq_true rfl) (fun _ _ h => h.elim) (fun v9 ph9 hv9 => ?_)
  obtain ⟨-, rfl, hg9, hx9⟩ := hv9
  obtain ⟨fs9, hgo9⟩ := hg9.go
  refine e_aload_n hX 0 iX11_isConsistent_4 rfl rfl ?_
  refine e_callV hX iX11_isConsistent_5 hgo9 (m_fewestT htr hg9) rfl rfl ⟨by decide, by decide, by show _ ≤ 330; omega, by show _ ≤ 1980; omega⟩ (Nat.le_of_ble_eq_true rfl) (fun _ _ h => h.elim) (fun v8 ph8 hv8 => ?_)
  obtain ⟨-, rfl, hg8, hx8⟩ := hv8
  rw [try_eq hn]
  refine e_icmp_eq hX iX11_isConsistent_8 (fun c8 => ?_) (fun c8 => ?_)
  · refine e_iconst (v := 0) hX iX11_isConsistent_13 (by decide) ?_
    refine e_istore_n hX 1 iX11_isConsistent_14 rfl (by decide) ?_
    refine e_loc [0, 1] ?_
    exact loopC 6 0 ph8 (by omega) (by omega) hg8 (hx9.trans hx8)
  · exact absurd rfl c8
end GNF
