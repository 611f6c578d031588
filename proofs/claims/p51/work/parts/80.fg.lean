/-! the law: figures -/
section FG
variable {l : Launch} {θ : e_T} {ph : e_PH} {g : Nat} {X : Nat → Prop} {σ : SG} {D : Nat} {s0 : e_K}
theorem kmed_n {c : Nat} (hc : c < 5) : k_med σ (nI c) = if prsN σ c = 0 then 2 else 0 := (if_pos (colB_t.mpr ⟨c, hc, rfl⟩)).trans (by rw [ix_n (by omega)])
theorem r_med0 (htr : l.stackTraces = false) (hg : GP θ ph g X σ) {c : Nat} (hc : c < 5) (h0 : prsN σ c = 0) : W_medianOf l θ [.ref g, .int (nI c)] ph (rP θ ph g X σ (-1002)) := by
  have h := l_medianOf htr hg (nI c)
  rw [qP_r, kmed_n hc, if_pos h0, show qA 2 (medN σ (ix (nI c))) = -1002 from (if_neg (by decide)).trans (by decide)] at h
  exact h
theorem r_med1 (htr : l.stackTraces = false) (hg : GP θ ph g X σ) {c : Nat} (hc : c < 5) (h0 : ¬ prsN σ c = 0) : W_medianOf l θ [.ref g, .int (nI c)] ph (rP θ ph g X σ (medN σ c)) := by
  have h := l_medianOf htr hg (nI c)
  rw [qP_0 ((kmed_n hc).trans (if_neg h0)), ix_n (by omega)] at h
  exact h
theorem r_spr0 (htr : l.stackTraces = false) (hg : GP θ ph g X σ) {c : Nat} (hc : c < 5) (h0 : prsN σ c = 0) : W_spreadOf l θ [.ref g, .int (nI c)] ph (rP θ ph g X σ (-1002)) := by
  have h := l_spreadOf htr hg (nI c)
  rw [qP_r, kmed_n hc, if_pos h0, show qA 2 (sprN σ (ix (nI c)) (medN σ (ix (nI c)))) = -1002 from (if_neg (by decide)).trans (by decide)] at h
  exact h
theorem r_spr1 (htr : l.stackTraces = false) (hg : GP θ ph g X σ) {c : Nat} (hc : c < 5) (h0 : ¬ prsN σ c = 0) : W_spreadOf l θ [.ref g, .int (nI c)] ph (rP θ ph g X σ (sprN σ c (medN σ c))) := by
  have h := l_spreadOf htr hg (nI c)
  rw [qP_0 ((kmed_n hc).trans (if_neg h0)), ix_n (by omega)] at h
  exact h
theorem r_outl (htr : l.stackTraces = false) (hg : GP θ ph g X σ) {c : Nat} (hc : c < 5) : W_outliers l θ [.ref g, .int (nI c)] ph (rP θ ph g X σ (nI (cntB (gN σ) (fun i => a_out σ i c)))) := by
  have h := l_outliers htr hg (nI c)
  rw [qP_0 (show k_col (nI c) = 0 from if_pos (colB_t.mpr ⟨c, hc, rfl⟩)), ix_n (by omega)] at h
  exact h
theorem out_no {i c : Nat} (h : pres (gV σ i c) = false) : a_out σ i c = false := by
  unfold a_out
  rw [h]; rfl
theorem prs_no {c : Nat} (h0 : prsN σ c = 0) {i : Nat} (hi : i < gN σ) : pres (gV σ i c) = false := by
  cases e : pres (gV σ i c)
  · rfl
  · have : cntB (gN σ) (fun _ => false) < cntB (gN σ) (fun i => pres (gV σ i c)) := cntB_lt (k := i) rfl e hi (fun _ _ q => by cases q)
    unfold prsN at h0
    omega
theorem q_figs (htr : l.stackTraces = false) (hg : GP θ ph g X σ) (hv : idS D σ) (hD : D < 2 ^ 30) {c : Nat} (hc : c < 5) (hn0 : 0 < gN σ) : MCN yL_figures cL_figures 10 (some .boolean) 7 60 360 l θ s0 [.ref g, .int (nI c), .int (gI σ 0)] ph (rP θ ph g X σ 1) := by
  have hn := hg.ok.1
  have hok := hg.ok
  refine MCN.of htr (by decide) (Nat.le_of_ble_eq_true rfl) ?_
  intro x hX hQ hN
  refine e_aload_n hX 0 iL_figures_0 rfl rfl ?_
  refine e_iload_n hX 1 iL_figures_1 rfl rfl ?_
  by_cases h0 : prsN σ c = 0
  · refine e_callW hX hN.nc iW_L_figures_2 (r_med0 htr hg hc h0) rfl rfl ⟨by decide, by decide, by show _ ≤ 60; omega, by show _ ≤ 360; omega⟩ (Nat.le_of_ble_eq_true rfl) (fun v1 ph1 hv1 => ?_)
    obtain ⟨rfl, hg1, hx1⟩ := hv1
    refine e_istore_n hX 3 iL_figures_5 rfl (by decide) ?_
    refine e_iload_n hX 3 iL_figures_6 rfl rfl ?_
    refine e_sipush (v := (-1002)) hX iL_figures_7 (by decide) ?_
    refine e_icmp_ne hX iL_figures_10 (fun c10 => ?_) (fun c10 => ?_)
    · exact absurd rfl c10
    · refine e_aload_n hX 0 iL_figures_13 rfl rfl ?_
      refine e_iload_n hX 1 iL_figures_14 rfl rfl ?_
      refine e_callW hX hN.nc iW_L_figures_15 (r_spr0 htr hg1 hc h0) rfl rfl ⟨by decide, by decide, by show _ ≤ 60; omega, by show _ ≤ 360; omega⟩ (Nat.le_of_ble_eq_true rfl) (fun v2 ph2 hv2 => ?_)
      obtain ⟨rfl, hg2, hx2⟩ := hv2
      refine e_sipush (v := (-1002)) hX iL_figures_18 (by decide) ?_
      refine e_icmp_ne hX iL_figures_21 (fun c21 => ?_) (fun c21 => ?_)
      · exact absurd rfl c21
      · refine e_aload_n hX 0 iL_figures_24 rfl rfl ?_
        refine e_iload_n hX 1 iL_figures_25 rfl rfl ?_
        refine e_callW hX hN.nc iW_L_figures_26 (r_outl htr hg2 hc) rfl rfl ⟨by decide, by decide, by show _ ≤ 60; omega, by show _ ≤ 360; omega⟩ (Nat.le_of_ble_eq_true rfl) (fun v3 ph3 hv3 => ?_)
        obtain ⟨rfl, hg3, hx3⟩ := hv3
        have ho : cntB (gN σ) (fun i => a_out σ i c) = 0 := by
          have := cntB_head (f := fun i => a_out σ i c) (h := 0) (p := gN σ) (fun i _ hi => out_no (prs_no h0 hi))
          omega
        refine e_if_ne hX iL_figures_29 (fun c29 => ?_) (fun c29 => ?_)
        · exact absurd (by rw [ho]; rfl) c29
        · refine e_aload_n hX 0 iL_figures_32 rfl rfl ?_
          refine e_iload_n hX 2 iL_figures_33 rfl rfl ?_
          refine e_iload_n hX 1 iL_figures_34 rfl rfl ?_
          refine e_callW hX hN.nc iW_L_figures_35 (r_isOut htr hg3 hv hD hn0 hc) rfl rfl ⟨by decide, by decide, by show _ ≤ 60; omega, by show _ ≤ 360; omega⟩ (Nat.le_of_ble_eq_true rfl) (fun v4 ph4 hv4 => ?_)
          obtain ⟨rfl, hg4, hx4⟩ := hv4
          rw [out_no (prs_no h0 hn0)]
          refine e_iconst (v := 1) hX iL_figures_38 (by decide) ?_
          refine e_icmp_eq hX iL_figures_39 (fun c39 => ?_) (fun c39 => ?_)
          · exact absurd c39 (by decide)
          · refine e_iconst (v := 1) hX iL_figures_42 (by decide) ?_
            refine e_goto hX iL_figures_43 ?_
            exact e_zret hX hQ iL_figures_47 rfl nar_1 (by show _ ≤ 60; omega) (by show _ ≤ 360; omega) ⟨rfl, hg4, ((hx1.trans hx2).trans hx3).trans hx4⟩
  · obtain ⟨-, hb, ha⟩ := med_of (P := fun i => pres (gV σ i c)) (y := fun i => gV σ i c) h0
    have hs := spr_pos hok hc h0
    have hpn : prsN σ c ≤ 12 := Nat.le_trans (cntB_le _ _) hn
    let B : Nat → Bool := fun i => pres (gV σ i c) && decide (gV σ i c < medN σ c)
    let A : Nat → Bool := fun i => pres (gV σ i c) && decide (medN σ c < gV σ i c)
    let P : Nat → Bool := fun i => pres (gV σ i c)
    let O : Nat → Bool := fun i => a_out σ i c
    have hb2 : 2 * cntB (gN σ) B < prsN σ c := hb
    have ha2 : 2 * cntB (gN σ) A ≤ prsN σ c := ha
    refine e_callW hX hN.nc iW_L_figures_2 (r_med1 htr hg hc h0) rfl rfl ⟨by decide, by decide, by show _ ≤ 60; omega, by show _ ≤ 360; omega⟩ (Nat.le_of_ble_eq_true rfl) (fun v1 ph1 hv1 => ?_)
    obtain ⟨rfl, hg1, hx1⟩ := hv1
    have loop : ∀ (z k : Nat) (p : e_PH), gN σ - k < z → k ≤ gN σ → GP θ p g X σ → kx ph p X → EJ θ x 63 [(0, .ref g), (1, .int (nI c)), (2, .int (gI σ 0)), (3, .int (medN σ c)), (4, .int (nI (cntB k O))), (5, .int (nI (cntB k B))), (6, .int (nI (cntB k A))), (7, .int (nI (cntB k P))), (8, .int (nI k))] [] p (1 + 4 * k) (6 + 24 * k) := by
      intro z
      induction z with
      | zero => intro k p hz; omega
      | succ z ih =>
        intro k p hz hk hgp hxp
        obtain ⟨fs, hgo⟩ := hgp.go
        refine e_iload hX iL_figures_63 rfl ?_
        refine e_aload_n hX 0 iL_figures_65 rfl rfl ?_
        refine e_callV hX iL_figures_66 hgo (m_rowCount htr hgp) rfl rfl ⟨by decide, by decide, by show _ ≤ 60; omega, by show _ ≤ 360; omega⟩ (Nat.le_of_ble_eq_true rfl) (fun _ _ h => h.elim) (fun v1 ph1 hv1 => ?_)
        obtain ⟨-, rfl, hg1, hx1⟩ := hv1
        refine e_icmp_ge hX iL_figures_69 (fun c69 => ?_) (fun c69 => ?_)
        · have hkn : k = gN σ := nI_same hk (by omega) c69
          subst hkn
          refine e_aload_n hX 0 iL_figures_152 rfl rfl ?_
          refine e_iload_n hX 1 iL_figures_153 rfl rfl ?_
          refine e_callW hX hN.nc iW_L_figures_154 (r_spr1 htr hg1 hc h0) rfl rfl ⟨by decide, by decide, by show _ ≤ 60; omega, by show _ ≤ 360; omega⟩ (Nat.le_of_ble_eq_true rfl) (fun v2 ph2 hv2 => ?_)
          obtain ⟨rfl, hg2, hx2⟩ := hv2
          refine e_if_lt hX iL_figures_157 (fun c157 => ?_) (fun c157 => ?_)
          · exact absurd c157 (Int32.not_lt.mpr hs)
          · refine e_iload hX iL_figures_160 rfl ?_
            refine e_aload_n hX 0 iL_figures_162 rfl rfl ?_
            refine e_iload_n hX 1 iL_figures_163 rfl rfl ?_
            refine e_callW hX hN.nc iW_L_figures_164 (r_outl htr hg2 hc) rfl rfl ⟨by decide, by decide, by show _ ≤ 60; omega, by show _ ≤ 360; omega⟩ (Nat.le_of_ble_eq_true rfl) (fun v3 ph3 hv3 => ?_)
            obtain ⟨rfl, hg3, hx3⟩ := hv3
            refine e_icmp_ne hX iL_figures_167 (fun c167 => ?_) (fun c167 => ?_)
            · exact absurd rfl c167
            · refine e_iconst (v := 2) hX iL_figures_170 (by decide) ?_
              refine e_iload hX iL_figures_171 rfl ?_
              refine e_imul hX iL_figures_173 ?_
              refine e_iload hX iL_figures_174 rfl ?_
              rw [show (2 : Int32) = nI 2 from rfl, pk_mul]
              have hP : cntB (gN σ) P = prsN σ c := rfl
              refine e_icmp_ge hX iL_figures_176 (fun c176 => ?_) (fun c176 => ?_)
              · exact absurd c176 (nI_ge (by omega) (by omega))
              · refine e_iconst (v := 2) hX iL_figures_179 (by decide) ?_
                refine e_iload hX iL_figures_180 rfl ?_
                refine e_imul hX iL_figures_182 ?_
                refine e_iload hX iL_figures_183 rfl ?_
                rw [show (2 : Int32) = nI 2 from rfl, pk_mul]
                refine e_icmp_gt hX iL_figures_185 (fun c185 => ?_) (fun c185 => ?_)
                · exact absurd c185 (nI_nlt (by omega) (by omega))
                · refine e_iconst (v := 1) hX iL_figures_188 (by decide) ?_
                  refine e_goto hX iL_figures_189 ?_
                  exact e_zret hX hQ iL_figures_193 rfl nar_1 (by show _ ≤ 60; omega) (by show _ ≤ 360; omega) ⟨rfl, hg3, ((hxp.trans hx1).trans hx2).trans hx3⟩
        · have hkn : k < gN σ := nI_less hk (by omega) c69
          refine e_aload_n hX 0 iL_figures_72 rfl rfl ?_
          refine e_aload_n hX 0 iL_figures_73 rfl rfl ?_
          refine e_iload hX iL_figures_74 rfl ?_
          refine e_callW hX hN.nc iW_L_figures_76 (r_rowAt htr hg1 hkn) rfl rfl ⟨by decide, by decide, by show _ ≤ 60; omega, by show _ ≤ 360; omega⟩ (Nat.le_of_ble_eq_true rfl) (fun v2 ph2 hv2 => ?_)
          obtain ⟨rfl, hg2, hx2⟩ := hv2
          refine e_iload_n hX 1 iL_figures_79 rfl rfl ?_
          refine e_callW hX hN.nc iW_L_figures_80 (r_valueAt htr hg2 hv hD hkn hc) rfl rfl ⟨by decide, by decide, by show _ ≤ 60; omega, by show _ ≤ 360; omega⟩ (Nat.le_of_ble_eq_true rfl) (fun v3 ph3 hv3 => ?_)
          obtain ⟨rfl, hg3, hx3⟩ := hv3
          refine e_istore hX iL_figures_83 (by decide) ?_
          refine e_iload hX iL_figures_85 rfl ?_
          refine e_bipush (v := 100) hX iL_figures_87 (by decide) ?_
          have hx3' := ((hxp.trans hx1).trans hx2).trans hx3
          refine e_icmp_ne hX iL_figures_89 (fun c89 => ?_) (fun c89 => ?_)
          · have hp : pres (gV σ k c) = true := decide_eq_true c89
            refine e_iinc hX iL_figures_95 rfl (by first | exact nI_inc _ | rfl) (by decide) ?_
            refine e_iload hX iL_figures_98 rfl ?_
            refine e_iload hX iL_figures_100 rfl ?_
            refine e_iload_n hX 3 iL_figures_102 rfl rfl ?_
            rw [show cntB k P + 1 = cntB (k + 1) P from (cntB_s1 (f := P) hp).symm]
            refine e_ltB hX iL_figures_103 iL_figures_106 iL_figures_107 iL_figures_110 ?_
            refine e_iadd hX iL_figures_111 ?_
            rw [show nI (cntB k B) + b2i (decide (gV σ k c < medN σ c)) = nI (cntB (k + 1) B) from by
              rw [← cntB_st, show B k = decide (gV σ k c < medN σ c) from by show (pres (gV σ k c) && _) = _; rw [hp]; rfl]]
            refine e_istore hX iL_figures_112 (by decide) ?_
            refine e_iload hX iL_figures_114 rfl ?_
            refine e_iload hX iL_figures_116 rfl ?_
            refine e_iload_n hX 3 iL_figures_118 rfl rfl ?_
            refine e_gtB hX iL_figures_119 iL_figures_122 iL_figures_123 iL_figures_126 ?_
            refine e_iadd hX iL_figures_127 ?_
            rw [show nI (cntB k A) + b2i (decide (medN σ c < gV σ k c)) = nI (cntB (k + 1) A) from by
              rw [← cntB_st, show A k = decide (medN σ c < gV σ k c) from by show (pres (gV σ k c) && _) = _; rw [hp]; rfl]]
            refine e_istore hX iL_figures_128 (by decide) ?_
            refine e_iload hX iL_figures_130 rfl ?_
            refine e_aload_n hX 0 iL_figures_132 rfl rfl ?_
            refine e_aload_n hX 0 iL_figures_133 rfl rfl ?_
            refine e_iload hX iL_figures_134 rfl ?_
            refine e_callW hX hN.nc iW_L_figures_136 (r_rowAt htr hg3 hkn) rfl rfl ⟨by decide, by decide, by show _ ≤ 60; omega, by show _ ≤ 360; omega⟩ (Nat.le_of_ble_eq_true rfl) (fun v4 ph4 hv4 => ?_)
            obtain ⟨rfl, hg4, hx4⟩ := hv4
            refine e_iload_n hX 1 iL_figures_139 rfl rfl ?_
            refine e_callW hX hN.nc iW_L_figures_140 (r_isOut htr hg4 hv hD hkn hc) rfl rfl ⟨by decide, by decide, by show _ ≤ 60; omega, by show _ ≤ 360; omega⟩ (Nat.le_of_ble_eq_true rfl) (fun v5 ph5 hv5 => ?_)
            obtain ⟨rfl, hg5, hx5⟩ := hv5
            refine e_iadd hX iL_figures_143 ?_
            rw [show nI (cntB k O) + b2i (a_out σ k c) = nI (cntB (k + 1) O) from cntB_st]
            refine e_istore hX iL_figures_144 (by decide) ?_
            refine e_iinc hX iL_figures_146 rfl (by first | exact nI_inc _ | rfl) (by decide) ?_
            refine e_goto hX iL_figures_149 ?_
            refine e_loc [0, 1, 2, 3, 4, 5, 6, 7, 8] ?_
            refine e_wid (k' := 1 + 4 * (k + 1)) (n' := 6 + 24 * (k + 1)) (by omega) (by omega) ?_
            exact ih (k + 1) _ (by omega) (by omega) hg5 ((hx3'.trans hx4).trans hx5)
          · have hp : pres (gV σ k c) = false := decide_eq_false (fun q => q c89)
            refine e_goto hX iL_figures_92 ?_
            refine e_iinc hX iL_figures_146 rfl (by first | exact nI_inc _ | rfl) (by decide) ?_
            refine e_goto hX iL_figures_149 ?_
            refine e_loc [0, 1, 2, 3, 4, 5, 6, 7, 8] ?_
            refine e_wid (k' := 1 + 4 * (k + 1)) (n' := 6 + 24 * (k + 1)) (by omega) (by omega) ?_
            have := ih (k + 1) _ (by omega) (by omega) hg3 hx3'
            rw [cntB_s0 (f := O) (out_no hp), cntB_s0 (f := B) (and_f1 hp), cntB_s0 (f := A) (and_f1 hp), cntB_s0 (f := P) hp] at this
            exact this
    refine e_istore_n hX 3 iL_figures_5 rfl (by decide) ?_
    refine e_iload_n hX 3 iL_figures_6 rfl rfl ?_
    refine e_sipush (v := (-1002)) hX iL_figures_7 (by decide) ?_
    refine e_icmp_ne hX iL_figures_10 (fun c10 => ?_) (fun c10 => ?_)
    · refine e_iconst (v := 0) hX iL_figures_48 (by decide) ?_
      refine e_istore hX iL_figures_49 (by decide) ?_
      refine e_iconst (v := 0) hX iL_figures_51 (by decide) ?_
      refine e_istore hX iL_figures_52 (by decide) ?_
      refine e_iconst (v := 0) hX iL_figures_54 (by decide) ?_
      refine e_istore hX iL_figures_55 (by decide) ?_
      refine e_iconst (v := 0) hX iL_figures_57 (by decide) ?_
      refine e_istore hX iL_figures_58 (by decide) ?_
      refine e_iconst (v := 0) hX iL_figures_60 (by decide) ?_
      refine e_istore hX iL_figures_61 (by decide) ?_
      refine e_loc [0, 1, 2, 3, 4, 5, 6, 7, 8] ?_
      refine e_wid (k' := 1 + 4 * 0) (n' := 6 + 24 * 0) (by omega) (by omega) ?_
      exact loop (gN σ + 1) 0 _ (by omega) (by omega) hg1 hx1
    · exact absurd c10 (ne_1002 (med_ok hok hc h0))
end FG
