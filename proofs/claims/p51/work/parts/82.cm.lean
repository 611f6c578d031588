/-! the law: commits -/
theorem nI_n1001 {m : Nat} (hm : m < 2 ^ 31) : ¬ nI m = -1001 := fun e => absurd (show (-1001 : Int32) < 0 by decide) (by rw [← e]; exact nI_pos hm)
theorem nI_nm1 {m : Nat} (hm : m < 2 ^ 31) : ¬ nI m = -1 := fun e => absurd (show (-1 : Int32) < 0 by decide) (by rw [← e]; exact nI_pos hm)
theorem rjO_c {σ : SG} {ρ : RU} {idx : Nat} {o : Int32 × Bool} (h : rjO σ ρ idx = some o) : o = (-1, false) ∨ (∃ i, i < gN σ ∧ o = (gI σ i, false)) ∨ ∃ j, j < idx ∧ o = (nI j, true) := by
  unfold rjO at h
  by_cases c1 : brkR ρ (gW σ idx) = true
  · rw [if_pos c1] at h
    exact Or.inl (Option.some.inj h).symm
  · rw [if_neg c1] at h
    by_cases c2 : lowG (fun i => clsR ρ (gW σ idx) (gV σ i)) (gN σ) 0 < gN σ
    · rw [if_pos c2] at h
      exact Or.inr (Or.inl ⟨_, c2, (Option.some.inj h).symm⟩)
    · rw [if_neg c2] at h
      by_cases c3 : lowG (fun j => clsR ρ (gW σ idx) (gW σ j)) idx 0 < idx
      · rw [if_pos c3] at h
        exact Or.inr (Or.inr ⟨_, c3, (Option.some.inj h).symm⟩)
      · rw [if_neg c3] at h; cases h
theorem rj_c {σ : SG} (h : rjI σ < gM σ) : rjQ σ (rjI σ) < gK σ ∧ (rjW σ = (-1, false) ∨ (∃ i, i < gN σ ∧ rjW σ = (gI σ i, false)) ∨ ∃ j, j < rjI σ ∧ rjW σ = (nI j, true)) := by
  have h1 : rjQ σ (rjI σ) < gK σ := of_decide_eq_true ((lowG_n (P := fun idx => decide (rjQ σ idx < gK σ)) (gM σ) 0).2.2.1 (by unfold rjI at h; omega))
  refine ⟨h1, ?_⟩
  have h2 : hitR σ (rjI σ) (rjQ σ (rjI σ)) = true := (lowG_n (P := hitR σ (rjI σ)) (gK σ) 0).2.2.1 (by unfold rjQ at h1; omega)
  unfold hitR at h2
  rw [Bool.and_eq_true, Bool.and_eq_true] at h2
  cases e : rjO σ (gR σ (rjQ σ (rjI σ))) (rjI σ) with
  | none => rw [e] at h2; exact absurd h2.2.2 (by decide)
  | some o =>
    have h3 : rjW σ = o := by unfold rjW; rw [e]; rfl
    rw [h3]
    exact rjO_c e
/-- the staged rows on their way: m of them, beside N rows -/
def sw (D N m : Nat) (σ : SG) : Prop := idS D σ ∧ prfS σ ∧ gM σ = m ∧ gN σ = N
theorem com_iv {σ : SG} {D N m : Nat} (h : sw D N m σ) : iv (D + m) (s_com σ) := by
  obtain ⟨⟨h1, f, h2, h3⟩, h4, h5, h6⟩ := h
  refine ⟨⟨?_, fun i => if i < gN σ then f i else D + (i - gN σ), fun i hi => ?_, fun i j hij hj => ?_⟩, h4, rfl⟩
  · show gD σ + nI (gM σ) = _
    rw [h1, h5, nI_add]
  · have hi' : i < gN σ + gM σ := hi
    show (if i < gN σ then gI σ i else gD σ + nI (i - gN σ)) = nI (if i < gN σ then f i else D + (i - gN σ)) ∧ (if i < gN σ then f i else D + (i - gN σ)) < D + m
    by_cases c : i < gN σ
    · rw [if_pos c, if_pos c]
      exact ⟨(h2 i c).1, by have := (h2 i c).2; omega⟩
    · rw [if_neg c, if_neg c, h1, nI_add]
      exact ⟨rfl, by omega⟩
  · have hj' : j < gN σ + gM σ := hj
    show (if i < gN σ then f i else D + (i - gN σ)) < (if j < gN σ then f j else D + (j - gN σ))
    by_cases c : j < gN σ
    · rw [if_pos (show i < gN σ by omega), if_pos c]; exact h3 i j hij c
    · rw [if_neg c]
      by_cases c2 : i < gN σ
      · rw [if_pos c2]; have := (h2 i c2).2; omega
      · rw [if_neg c2]; omega
theorem ushr1 (x : Int32) : ∃ j, j < 2 ^ 31 ∧ (x.toUInt32 >>> ((1 : Int32).toUInt32 &&& Int32.toUInt32 31)).toInt32 = nI j := by
  have h := pk_ushr x 1 1 (by decide)
  have hx : x.toBitVec.toNat < 2 ^ 32 := x.toBitVec.isLt
  obtain ⟨w, hw⟩ : ∃ w, w = (x.toUInt32 >>> ((1 : Int32).toUInt32 &&& Int32.toUInt32 31)).toInt32 := ⟨_, rfl⟩
  rw [← hw] at h ⊢
  have hlt : w.toBitVec.toNat < 2 ^ 31 := by
    rw [h]
    first | omega | (rw [Nat.shiftRight_eq_div_pow]; omega)
  refine nI_of (fun hn => ?_)
  rw [Int32.lt_iff_toInt_lt] at hn
  have e : w.toInt = (w.toBitVec.toNat : Int) := by
    show w.toBitVec.toInt = _
    rw [BitVec.toInt_eq_toNat_cond, if_pos (by omega)]
  rw [e, show (0 : Int32).toInt = 0 by decide] at hn
  omega
section CM
variable {l : Launch} {θ : e_T} {ph : e_PH} {g : Nat} {X : Nat → Prop} {σ : SG} {D : Nat} {s0 : e_K}
theorem r_stage (htr : l.stackTraces = false) (hg : GP θ ph g X σ) {a1 a2 a3 a4 a5 : Int32} (h1 : okVB a1 = true) (h2 : okVB a2 = true) (h3 : okVB a3 = true) (h4 : okVB a4 = true) (h5 : okVB a5 = true) (hm : gM σ < 6) : W_stage l θ [.ref g, .int a1, .int a2, .int a3, .int a4, .int a5] ph (rP θ ph g X (s_stg σ (five a1 a2 a3 a4 a5)) (nI (gM σ + 1))) := by
  have h := l_stage htr hg a1 a2 a3 a4 a5
  rw [qP_0 (show k_stg σ a1 a2 a3 a4 a5 = 0 from (if_pos (by rw [h1, h2, h3, h4, h5]; rfl)).trans (if_pos hm))] at h
  exact h
theorem r_com0 (htr : l.stackTraces = false) (hg : GP θ ph g X σ) (h1 : ¬ gM σ = 0) (h2 : ¬ 12 < gN σ + gM σ) (h3 : ¬ rjI σ < gM σ) : W_commit l θ [.ref g] ph (rP θ ph g X (s_com σ) (nI (gN σ + gM σ))) := by
  have h := l_commit htr hg
  rw [qP_r, qA_0 (show k_com σ = 0 from (if_neg h1).trans ((if_neg h2).trans (if_neg h3))), show s_commit σ = s_com σ from (if_neg h1).trans ((if_neg h2).trans (if_neg h3))] at h
  exact h
theorem r_com1 (htr : l.stackTraces = false) (hg : GP θ ph g X σ) (h1 : ¬ gM σ = 0) (h2 : 12 < gN σ + gM σ) : W_commit l θ [.ref g] ph (rP θ ph g X σ (-1001)) := by
  have h := l_commit htr hg
  rw [qP_r, show k_com σ = 1 from (if_neg h1).trans (if_pos h2), show s_commit σ = σ from (if_neg h1).trans (if_pos h2), show qA 1 (nI (gN σ + gM σ)) = -1001 from (if_neg (by decide)).trans (by decide)] at h
  exact h
theorem r_com2 (htr : l.stackTraces = false) (hg : GP θ ph g X σ) (h1 : ¬ gM σ = 0) (h2 : ¬ 12 < gN σ + gM σ) (h3 : rjI σ < gM σ) : W_commit l θ [.ref g] ph (rP θ ph g X (s_rej σ) (-1002)) := by
  have h := l_commit htr hg
  rw [qP_r, show k_com σ = 2 from (if_neg h1).trans ((if_neg h2).trans (if_pos h3)), show s_commit σ = s_rej σ from (if_neg h1).trans ((if_neg h2).trans (if_pos h3)), show qA 2 (nI (gN σ + gM σ)) = -1002 from (if_neg (by decide)).trans (by decide)] at h
  exact h
def otO (σ : SG) : Int32 := if (rjW σ).1 = -1 then -1001 else (rjW σ).1
def otS (σ : SG) : Int32 := if (rjW σ).1 = -1 then -1001 else b2i (rjW σ).2
theorem krejO_s : k_rejO (s_rej σ) = if (rjW σ).1 = -1 then 1 else 0 := rfl
theorem r_rejO (htr : l.stackTraces = false) (hg : GP θ ph g X (s_rej σ)) : W_rejectedOther l θ [.ref g] ph (rP θ ph g X (s_rej σ) (otO σ)) := by
  have h := l_rejectedOther htr hg
  rw [qP_r, krejO_s, show (gJ (s_rej σ)).2.2.1 = (rjW σ).1 from rfl, show qA (if (rjW σ).1 = -1 then 1 else 0) (rjW σ).1 = otO σ from by
    unfold otO qA
    by_cases c : (rjW σ).1 = -1
    · rw [if_pos c, if_pos c, if_neg (by decide)]; decide
    · rw [if_neg c, if_neg c, if_pos rfl]] at h
  exact h
theorem r_rejS (htr : l.stackTraces = false) (hg : GP θ ph g X (s_rej σ)) : W_isOtherStaged l θ [.ref g] ph (rP θ ph g X (s_rej σ) (otS σ)) := by
  have h := l_isOtherStaged htr hg
  rw [qP_r, krejO_s, show (gJ (s_rej σ)).2.2.2 = (rjW σ).2 from rfl, show qA (if (rjW σ).1 = -1 then 1 else 0) (b2i (rjW σ).2) = otS σ from by
    unfold otS qA
    by_cases c : (rjW σ).1 = -1
    · rw [if_pos c, if_pos c, if_neg (by decide)]; decide
    · rw [if_neg c, if_neg c, if_pos rfl]] at h
  exact h
theorem r_rejW (htr : l.stackTraces = false) (hg : GP θ ph g X (s_rej σ)) (hr : rjI σ < 2 ^ 31) : W_rejectedRow l θ [.ref g] ph (rP θ ph g X (s_rej σ) (nI (rjI σ))) := by
  have h := l_rejectedRow htr hg
  rw [qP_0 (show k_rej (s_rej σ) = 0 from if_neg (nI_nm1 hr))] at h
  exact h
theorem r_rejR (htr : l.stackTraces = false) (hg : GP θ ph g X (s_rej σ)) (hr : rjI σ < 2 ^ 31) : W_rejectedRule l θ [.ref g] ph (rP θ ph g X (s_rej σ) (nI (rjQ σ (rjI σ)))) := by
  have h := l_rejectedRule htr hg
  rw [qP_0 (show k_rej (s_rej σ) = 0 from if_neg (nI_nm1 hr))] at h
  exact h
theorem ot_c {N m : Nat} (hs : sw D N m σ) (hD : D < 2 ^ 30) (h : rjI σ < gM σ) (hm : gM σ < 2 ^ 30) : decide (otO σ = -1001) = decide (otS σ = -1001) ∧ (otS σ = 1 → otO σ < nI (rjI σ)) := by
  unfold otO otS
  rcases (rj_c h).2 with e | ⟨i, hi, e⟩ | ⟨j, hj, e⟩
  · rw [e]
    rw [if_pos (show ((-1 : Int32), false).1 = -1 from rfl), if_pos (show ((-1 : Int32), false).1 = -1 from rfl)]
    exact ⟨rfl, fun q => absurd q (by decide)⟩
  · obtain ⟨f, h2, -⟩ := hs.1.2
    obtain ⟨h3, h4⟩ := h2 i hi
    rw [e]
    rw [if_neg (show ¬ (gI σ i, false).1 = -1 from by rw [h3]; exact nI_nm1 (by omega)), if_neg (show ¬ (gI σ i, false).1 = -1 from by rw [h3]; exact nI_nm1 (by omega))]
    refine ⟨?_, fun q => absurd q (show ¬ b2i false = 1 by decide)⟩
    rw [decide_eq_false (show ¬ (gI σ i, false).1 = -1001 from by rw [h3]; exact nI_n1001 (by omega)), decide_eq_false (show ¬ b2i (gI σ i, false).2 = -1001 from (show ¬ b2i false = -1001 by decide))]
  · rw [e]
    rw [if_neg (show ¬ (nI j, true).1 = -1 from nI_nm1 (by omega)), if_neg (show ¬ (nI j, true).1 = -1 from nI_nm1 (by omega))]
    refine ⟨?_, fun _ => nI_lt hj (by omega)⟩
    rw [decide_eq_false (show ¬ (nI j, true).1 = -1001 from nI_n1001 (by omega)), decide_eq_false (show ¬ b2i (nI j, true).2 = -1001 from (show ¬ b2i true = -1001 by decide))]
/-- what commits leaves -/
def cP (θ : e_T) (g : Nat) (X : Nat → Prop) (D : Nat) (ph : e_PH) : Option Value → e_PH → Prop := fun z p => z = some (.int 1) ∧ ∃ D' σ', D' ≤ D + 3 ∧ iv D' σ' ∧ GP θ p g X σ' ∧ kx ph p X
theorem q_commits (htr : l.stackTraces = false) (hg : GP θ ph g X σ) (hv : iv D σ) (hD : D < 1000) (hL : s0.2.1 ≤ 260) {at0 : Nat} (ha : at0 < 1000) : MCN yL_commits cL_commits 7 (some .boolean) 8 30 300 l θ s0 [.ref g, .ref s0.1, .int (nI at0)] ph (cP θ g X D ph) := by
  have hn := hg.ok.1
  refine MCN.of htr (by decide) (Nat.le_of_ble_eq_true rfl) ?_
  intro x hX hQ hN
  refine e_iconst (v := 1) hX iL_commits_0 (by decide) ?_
  refine e_aload_n hX 1 iL_commits_1 rfl rfl ?_
  refine e_iload_n hX 2 iL_commits_2 rfl rfl ?_
  refine e_callN hX hN iL_commits_3 (q_cell htr hL (show at0 < 2 ^ 31 by omega)) rfl rfl ⟨by decide, by decide, by show _ ≤ 30; omega, by show _ ≤ 300; omega⟩ (Nat.le_of_ble_eq_true rfl) (fun v1 ph1 hv1 => ?_)
  obtain ⟨⟨w0, rfl⟩, e1⟩ := hv1
  subst ph1
  refine e_iconst (v := 1) hX iL_commits_6 (by decide) ?_
  refine e_iushr hX iL_commits_7 ?_
  obtain ⟨j, hj, ej⟩ := ushr1 w0
  rw [ej]
  refine e_iconst (v := 3) hX iL_commits_8 (by decide) ?_
  refine e_irem hX iL_commits_9 (by decide) ?_
  rw [show (3 : Int32) = nI 3 from rfl, pk_rem (by omega) (by decide) (by decide)]
  refine e_iadd hX iL_commits_10 ?_
  rw [show (1 : Int32) = nI 1 from rfl, nI_add]
  obtain ⟨m, hm⟩ : ∃ m, m = 1 + j % 3 := ⟨_, rfl⟩
  rw [← hm]
  have m1 : 1 ≤ m := by omega
  have m3 : m ≤ 3 := by omega
  -- behind the staging
  have behind : ∀ (p : e_PH) (τ : SG), GP θ p g X τ → kx ph p X → sw D (gN σ) m τ → EJ θ x 88 [(0, .ref g), (1, .ref s0.1), (2, .int (nI at0)), (3, .int (nI m))] [] p 9 66 := by
    intro p τ hgp hxp hs
    have hmτ := hs.2.2.1
    have hnτ := hs.2.2.2
    obtain ⟨fs, hgo⟩ := hgp.go
    refine e_aload_n hX 0 iL_commits_88 rfl rfl ?_
    refine e_callV hX iL_commits_89 hgo (m_rowCount htr hgp) rfl rfl ⟨by decide, by decide, by show _ ≤ 30; omega, by show _ ≤ 300; omega⟩ (Nat.le_of_ble_eq_true rfl) (fun _ _ h => h.elim) (fun v1 ph1 hv1 => ?_)
    obtain ⟨-, rfl, hg1, hx1⟩ := hv1
    refine e_istore hX iL_commits_92 (by decide) ?_
    refine e_aload_n hX 0 iL_commits_94 rfl rfl ?_
    by_cases h12 : 12 < gN τ + gM τ
    · refine e_callW hX hN.nc iW_L_commits_95 (r_com1 htr hg1 (by omega) h12) rfl rfl ⟨by decide, by decide, by show _ ≤ 30; omega, by show _ ≤ 300; omega⟩ (Nat.le_of_ble_eq_true rfl) (fun v2 ph2 hv2 => ?_)
      obtain ⟨rfl, hg2, hx2⟩ := hv2
      refine e_istore hX iL_commits_98 (by decide) ?_
      refine e_iload hX iL_commits_100 rfl ?_
      refine e_if_lt hX iL_commits_102 (fun c102 => ?_) (fun c102 => ?_)
      · refine e_iload hX iL_commits_136 rfl ?_
        refine e_sipush (v := (-1001)) hX iL_commits_138 (by decide) ?_
        refine e_icmp_ne hX iL_commits_141 (fun c141 => ?_) (fun c141 => ?_)
        · exact absurd rfl c141
        · refine e_iload hX iL_commits_144 rfl ?_
          refine e_iload_n hX 3 iL_commits_146 rfl rfl ?_
          refine e_iadd hX iL_commits_147 ?_
          refine e_bipush (v := 12) hX iL_commits_148 (by decide) ?_
          rw [nI_add, show (12 : Int32) = nI 12 from rfl]
          refine e_icmp_le hX iL_commits_150 (fun c150 => ?_) (fun c150 => ?_)
          · exact absurd c150 (nI_ge (show 12 < gN τ + m by omega) (by omega))
          · obtain ⟨fs2, hgo2⟩ := hg2.go
            refine e_aload_n hX 0 iL_commits_153 rfl rfl ?_
            refine e_callV hX iL_commits_154 hgo2 (m_staged htr hg2) rfl rfl ⟨by decide, by decide, by show _ ≤ 30; omega, by show _ ≤ 300; omega⟩ (Nat.le_of_ble_eq_true rfl) (fun _ _ h => h.elim) (fun v3 ph3 hv3 => ?_)
            obtain ⟨-, rfl, hg3, hx3⟩ := hv3
            refine e_iload_n hX 3 iL_commits_157 rfl rfl ?_
            refine e_icmp_ne hX iL_commits_158 (fun c158 => ?_) (fun c158 => ?_)
            · exact absurd (by rw [hmτ]) c158
            · obtain ⟨fs3, hgo3⟩ := hg3.go
              refine e_aload_n hX 0 iL_commits_161 rfl rfl ?_
              refine e_callV hX iL_commits_162 hgo3 (m_discard htr hg3) rfl rfl ⟨by decide, by decide, by show _ ≤ 30; omega, by show _ ≤ 300; omega⟩ (Nat.le_of_ble_eq_true rfl) (fun _ _ h => h.elim) (fun v4 ph4 hv4 => ?_)
              obtain ⟨-, rfl, hg4, hx4⟩ := hv4
              refine e_iload_n hX 3 iL_commits_165 rfl rfl ?_
              refine e_icmp_ne hX iL_commits_166 (fun c166 => ?_) (fun c166 => ?_)
              · exact absurd (by rw [hmτ]) c166
              · refine e_iconst (v := 1) hX iL_commits_169 (by decide) ?_
                refine e_goto hX iL_commits_170 ?_
                exact e_zret hX hQ iL_commits_174 rfl nar_1 (by show _ ≤ 30; omega) (by show _ ≤ 300; omega) ⟨rfl, D, s_disc τ, by omega, ⟨hs.1, hs.2.1, rfl⟩, hg4, (((hxp.trans hx1).trans hx2).trans hx3).trans hx4⟩
      · exact absurd (by decide) c102
    · by_cases hrj : rjI τ < gM τ
      · obtain ⟨hq, -⟩ := rj_c hrj
        have hk := hgp.ok.2.2.1
        obtain ⟨ot1, ot2⟩ := ot_c hs (by omega) hrj (by omega)
        refine e_callW hX hN.nc iW_L_commits_95 (r_com2 htr hg1 (by omega) h12 hrj) rfl rfl ⟨by decide, by decide, by show _ ≤ 30; omega, by show _ ≤ 300; omega⟩ (Nat.le_of_ble_eq_true rfl) (fun v2 ph2 hv2 => ?_)
        obtain ⟨rfl, hg2, hx2⟩ := hv2
        refine e_istore hX iL_commits_98 (by decide) ?_
        refine e_iload hX iL_commits_100 rfl ?_
        refine e_if_lt hX iL_commits_102 (fun c102 => ?_) (fun c102 => ?_)
        · refine e_iload hX iL_commits_136 rfl ?_
          refine e_sipush (v := (-1001)) hX iL_commits_138 (by decide) ?_
          refine e_icmp_ne hX iL_commits_141 (fun c141 => ?_) (fun c141 => ?_)
          · refine e_aload_n hX 0 iL_commits_175 rfl rfl ?_
            refine e_callW hX hN.nc iW_L_commits_176 (r_rejO htr hg2) rfl rfl ⟨by decide, by decide, by show _ ≤ 30; omega, by show _ ≤ 300; omega⟩ (Nat.le_of_ble_eq_true rfl) (fun v3 ph3 hv3 => ?_)
            obtain ⟨rfl, hg3, hx3⟩ := hv3
            obtain ⟨fs3, hgo3⟩ := hg3.go
            refine e_istore hX iL_commits_179 (by decide) ?_
            refine e_aload_n hX 0 iL_commits_181 rfl rfl ?_
            refine e_callV hX iL_commits_182 hgo3 (m_rowCount htr hg3) rfl rfl ⟨by decide, by decide, by show _ ≤ 30; omega, by show _ ≤ 300; omega⟩ (Nat.le_of_ble_eq_true rfl) (fun _ _ h => h.elim) (fun v4 ph4 hv4 => ?_)
            obtain ⟨-, rfl, hg4, hx4⟩ := hv4
            refine e_iload hX iL_commits_185 rfl ?_
            refine e_icmp_ne hX iL_commits_187 (fun c187 => ?_) (fun c187 => ?_)
            · exact absurd rfl c187
            · obtain ⟨fs4, hgo4⟩ := hg4.go
              refine e_aload_n hX 0 iL_commits_190 rfl rfl ?_
              refine e_callV hX iL_commits_191 hgo4 (m_staged htr hg4) rfl rfl ⟨by decide, by decide, by show _ ≤ 30; omega, by show _ ≤ 300; omega⟩ (Nat.le_of_ble_eq_true rfl) (fun _ _ h => h.elim) (fun v5 ph5 hv5 => ?_)
              obtain ⟨-, rfl, hg5, hx5⟩ := hv5
              refine e_iload_n hX 3 iL_commits_194 rfl rfl ?_
              refine e_icmp_ne hX iL_commits_195 (fun c195 => ?_) (fun c195 => ?_)
              · exact absurd (show nI (gM τ) = nI m by rw [hmτ]) c195
              · refine e_aload_n hX 0 iL_commits_198 rfl rfl ?_
                refine e_callW hX hN.nc iW_L_commits_199 (r_rejW htr hg5 (by omega)) rfl rfl ⟨by decide, by decide, by show _ ≤ 30; omega, by show _ ≤ 300; omega⟩ (Nat.le_of_ble_eq_true rfl) (fun v6 ph6 hv6 => ?_)
                obtain ⟨rfl, hg6, hx6⟩ := hv6
                refine e_if_lt hX iL_commits_202 (fun c202 => ?_) (fun c202 => ?_)
                · exact absurd c202 (nI_pos (by omega))
                · refine e_aload_n hX 0 iL_commits_205 rfl rfl ?_
                  refine e_callW hX hN.nc iW_L_commits_206 (r_rejW htr hg6 (by omega)) rfl rfl ⟨by decide, by decide, by show _ ≤ 30; omega, by show _ ≤ 300; omega⟩ (Nat.le_of_ble_eq_true rfl) (fun v7 ph7 hv7 => ?_)
                  obtain ⟨rfl, hg7, hx7⟩ := hv7
                  refine e_iload_n hX 3 iL_commits_209 rfl rfl ?_
                  refine e_icmp_ge hX iL_commits_210 (fun c210 => ?_) (fun c210 => ?_)
                  · exact absurd c210 (nI_ge (show rjI τ < m by omega) (by omega))
                  · refine e_aload_n hX 0 iL_commits_213 rfl rfl ?_
                    refine e_callW hX hN.nc iW_L_commits_214 (r_rejR htr hg7 (by omega)) rfl rfl ⟨by decide, by decide, by show _ ≤ 30; omega, by show _ ≤ 300; omega⟩ (Nat.le_of_ble_eq_true rfl) (fun v8 ph8 hv8 => ?_)
                    obtain ⟨rfl, hg8, hx8⟩ := hv8
                    refine e_if_lt hX iL_commits_217 (fun c217 => ?_) (fun c217 => ?_)
                    · exact absurd c217 (nI_pos (by omega))
                    · refine e_iload hX iL_commits_220 rfl ?_
                      refine e_sipush (v := (-1001)) hX iL_commits_222 (by decide) ?_
                      refine e_eqB hX iL_commits_225 iL_commits_228 iL_commits_229 iL_commits_232 ?_
                      refine e_aload_n hX 0 iL_commits_233 rfl rfl ?_
                      refine e_callW hX hN.nc iW_L_commits_234 (r_rejS htr hg8) rfl rfl ⟨by decide, by decide, by show _ ≤ 30; omega, by show _ ≤ 300; omega⟩ (Nat.le_of_ble_eq_true rfl) (fun v9 ph9 hv9 => ?_)
                      obtain ⟨rfl, hgA, hxA⟩ := hv9
                      refine e_sipush (v := (-1001)) hX iL_commits_237 (by decide) ?_
                      refine e_eqB hX iL_commits_240 iL_commits_243 iL_commits_244 iL_commits_247 ?_
                      rw [ot1]
                      refine e_icmp_ne hX iL_commits_248 (fun c248 => ?_) (fun c248 => ?_)
                      · exact absurd rfl c248
                      · have hxz := (((((((hxp.trans hx1).trans hx2).trans hx3).trans hx4).trans hx5).trans hx6).trans hx7).trans hx8
                        have fin : ∀ (p : e_PH) (k n : Nat), k ≤ 30 → n ≤ 300 → GP θ p g X (s_rej τ) → kx ph p X → EJ θ x 268 [(0, .ref g), (3, .int (nI m))] [] p k n := by
                          intro p k n hk30 hn300 hgp hxp
                          obtain ⟨fs, hgo⟩ := hgp.go
                          refine e_aload_n hX 0 iL_commits_268 rfl rfl ?_
                          refine e_callV hX iL_commits_269 hgo (m_discard htr hgp) rfl rfl ⟨by decide, by decide, by show _ ≤ 30; omega, by show _ ≤ 300; omega⟩ (Nat.le_of_ble_eq_true rfl) (fun _ _ h => h.elim) (fun v1 ph1 hv1 => ?_)
                          obtain ⟨-, rfl, hg1, hx1⟩ := hv1
                          refine e_iload_n hX 3 iL_commits_272 rfl rfl ?_
                          refine e_icmp_ne hX iL_commits_273 (fun c273 => ?_) (fun c273 => ?_)
                          · exact absurd (show nI (gM τ) = nI m by rw [hmτ]) c273
                          · refine e_iconst (v := 1) hX iL_commits_276 (by decide) ?_
                            refine e_goto hX iL_commits_277 ?_
                            exact e_zret hX hQ iL_commits_281 rfl nar_1 (by show _ ≤ 30; omega) (by show _ ≤ 300; omega) ⟨rfl, D, s_disc (s_rej τ), by omega, ⟨hs.1, hs.2.1, rfl⟩, hg1, hxp.trans hx1⟩
                        refine e_aload_n hX 0 iL_commits_251 rfl rfl ?_
                        refine e_callW hX hN.nc iW_L_commits_252 (r_rejS htr hgA) rfl rfl ⟨by decide, by decide, by show _ ≤ 30; omega, by show _ ≤ 300; omega⟩ (Nat.le_of_ble_eq_true rfl) (fun v0 ph0 hv0 => ?_)
                        obtain ⟨rfl, hgB, hxB⟩ := hv0
                        refine e_iconst (v := 1) hX iL_commits_255 (by decide) ?_
                        refine e_icmp_ne hX iL_commits_256 (fun c256 => ?_) (fun c256 => ?_)
                        · refine e_loc [0, 3] ?_
                          exact fin _ _ _ (by omega) (by omega) hgB ((hxz.trans hxA).trans hxB)
                        · have hlt := ot2 c256
                          refine e_iload hX iL_commits_259 rfl ?_
                          refine e_aload_n hX 0 iL_commits_261 rfl rfl ?_
                          refine e_callW hX hN.nc iW_L_commits_262 (r_rejW htr hgB (by omega)) rfl rfl ⟨by decide, by decide, by show _ ≤ 30; omega, by show _ ≤ 300; omega⟩ (Nat.le_of_ble_eq_true rfl) (fun v1 ph1 hv1 => ?_)
                          obtain ⟨rfl, hgC, hxC⟩ := hv1
                          refine e_icmp_ge hX iL_commits_265 (fun c265 => ?_) (fun c265 => ?_)
                          · exact absurd hlt (Int32.not_lt.mpr c265)
                          · refine e_loc [0, 3] ?_
                            exact fin _ _ _ (by omega) (by omega) hgC (((hxz.trans hxA).trans hxB).trans hxC)
          · exact absurd c141 (by decide)
        · exact absurd (by decide) c102
      · refine e_callW hX hN.nc iW_L_commits_95 (r_com0 htr hg1 (by omega) h12 hrj) rfl rfl ⟨by decide, by decide, by show _ ≤ 30; omega, by show _ ≤ 300; omega⟩ (Nat.le_of_ble_eq_true rfl) (fun v2 ph2 hv2 => ?_)
        obtain ⟨rfl, hg2, hx2⟩ := hv2
        refine e_istore hX iL_commits_98 (by decide) ?_
        refine e_iload hX iL_commits_100 rfl ?_
        refine e_if_lt hX iL_commits_102 (fun c102 => ?_) (fun c102 => ?_)
        · exact absurd c102 (nI_pos (by omega))
        · refine e_iload hX iL_commits_105 rfl ?_
          refine e_iload hX iL_commits_107 rfl ?_
          refine e_iload_n hX 3 iL_commits_109 rfl rfl ?_
          refine e_iadd hX iL_commits_110 ?_
          rw [nI_add]
          refine e_icmp_ne hX iL_commits_111 (fun c111 => ?_) (fun c111 => ?_)
          · exact absurd (by rw [hmτ]) c111
          · obtain ⟨fs2, hgo2⟩ := hg2.go
            refine e_aload_n hX 0 iL_commits_114 rfl rfl ?_
            refine e_callV hX iL_commits_115 hgo2 (m_rowCount htr hg2) rfl rfl ⟨by decide, by decide, by show _ ≤ 30; omega, by show _ ≤ 300; omega⟩ (Nat.le_of_ble_eq_true rfl) (fun _ _ h => h.elim) (fun v3 ph3 hv3 => ?_)
            obtain ⟨-, rfl, hg3, hx3⟩ := hv3
            refine e_iload hX iL_commits_118 rfl ?_
            refine e_icmp_ne hX iL_commits_120 (fun c120 => ?_) (fun c120 => ?_)
            · exact absurd rfl c120
            · obtain ⟨fs3, hgo3⟩ := hg3.go
              refine e_aload_n hX 0 iL_commits_123 rfl rfl ?_
              refine e_callV hX iL_commits_124 hgo3 (m_staged htr hg3) rfl rfl ⟨by decide, by decide, by show _ ≤ 30; omega, by show _ ≤ 300; omega⟩ (Nat.le_of_ble_eq_true rfl) (fun _ _ h => h.elim) (fun v4 ph4 hv4 => ?_)
              obtain ⟨-, rfl, hg4, hx4⟩ := hv4
              refine e_if_ne hX iL_commits_127 (fun c127 => ?_) (fun c127 => ?_)
              · exact absurd rfl c127
              · refine e_iconst (v := 1) hX iL_commits_130 (by decide) ?_
                refine e_goto hX iL_commits_131 ?_
                exact e_zret hX hQ iL_commits_135 rfl nar_1 (by show _ ≤ 30; omega) (by show _ ≤ 300; omega) ⟨rfl, D + m, _, by omega, com_iv hs, hg4, (((hxp.trans hx1).trans hx2).trans hx3).trans hx4⟩
  have loop : ∀ (z k : Nat) (p : e_PH) (τ : SG), m - k < z → k ≤ m → GP θ p g X τ → kx ph p X → sw D (gN σ) k τ → EJ θ x 15 [(0, .ref g), (1, .ref s0.1), (2, .int (nI at0)), (3, .int (nI m)), (4, .int (nI k))] [] p (3 * k) (22 * k) := by
    intro z
    induction z with
    | zero => intro k p τ hz; omega
    | succ z ih =>
      intro k p τ hz hk hgp hxp hs
      refine e_iload hX iL_commits_15 rfl ?_
      refine e_iload_n hX 3 iL_commits_17 rfl rfl ?_
      refine e_icmp_ge hX iL_commits_18 (fun c18 => ?_) (fun c18 => ?_)
      · have hkm : k = m := nI_same hk (by omega) c18
        subst hkm
        refine e_loc [0, 1, 2, 3] ?_
        refine e_wid (k' := 9) (n' := 66) (by omega) (by omega) ?_
        exact behind _ τ hgp hxp hs
      · have hkm : k < m := nI_less hk (by omega) c18
        refine e_aload_n hX 1 iL_commits_21 rfl rfl ?_
        refine e_iload_n hX 2 iL_commits_22 rfl rfl ?_
        refine e_iconst (v := 1) hX iL_commits_23 (by decide) ?_
        refine e_iadd hX iL_commits_24 ?_
        refine e_iload hX iL_commits_25 rfl ?_
        refine e_iadd hX iL_commits_27 ?_
        rw [nI_1, nI_add]
        refine e_callN hX hN iL_commits_28 (q_cell htr hL (show at0 + 1 + k < 2 ^ 31 by omega)) rfl rfl ⟨by decide, by decide, by show _ ≤ 30; omega, by show _ ≤ 300; omega⟩ (Nat.le_of_ble_eq_true rfl) (fun v1 ph1 hv1 => ?_)
        obtain ⟨⟨w1, rfl⟩, e1⟩ := hv1
        subst ph1
        refine e_istore hX iL_commits_31 (by decide) ?_
        refine e_aload_n hX 0 iL_commits_33 rfl rfl ?_
        refine e_iload hX iL_commits_34 rfl ?_
        refine e_callS hX iL_commits_36 (q_number htr _) rfl rfl ⟨by decide, by decide, by show _ ≤ 30; omega, by show _ ≤ 300; omega⟩ (Nat.le_of_ble_eq_true rfl) (fun _ _ h => h.elim) (fun v1 ph1 hv1 => ?_)
        obtain ⟨⟨a1, rfl, b1⟩, e1⟩ := hv1
        subst ph1
        refine e_iload hX iL_commits_39 rfl ?_
        refine e_iconst (v := 5) hX iL_commits_41 (by decide) ?_
        refine e_ishr hX iL_commits_42 ?_
        refine e_callS hX iL_commits_43 (q_number htr _) rfl rfl ⟨by decide, by decide, by show _ ≤ 30; omega, by show _ ≤ 300; omega⟩ (Nat.le_of_ble_eq_true rfl) (fun _ _ h => h.elim) (fun v2 ph2 hv2 => ?_)
        obtain ⟨⟨a2, rfl, b2⟩, e2⟩ := hv2
        subst ph2
        refine e_iload hX iL_commits_46 rfl ?_
        refine e_bipush (v := 10) hX iL_commits_48 (by decide) ?_
        refine e_ishr hX iL_commits_50 ?_
        refine e_callS hX iL_commits_51 (q_number htr _) rfl rfl ⟨by decide, by decide, by show _ ≤ 30; omega, by show _ ≤ 300; omega⟩ (Nat.le_of_ble_eq_true rfl) (fun _ _ h => h.elim) (fun v3 ph3 hv3 => ?_)
        obtain ⟨⟨a3, rfl, b3⟩, e3⟩ := hv3
        subst ph3
        refine e_iload hX iL_commits_54 rfl ?_
        refine e_bipush (v := 15) hX iL_commits_56 (by decide) ?_
        refine e_ishr hX iL_commits_58 ?_
        refine e_callS hX iL_commits_59 (q_number htr _) rfl rfl ⟨by decide, by decide, by show _ ≤ 30; omega, by show _ ≤ 300; omega⟩ (Nat.le_of_ble_eq_true rfl) (fun _ _ h => h.elim) (fun v4 ph4 hv4 => ?_)
        obtain ⟨⟨a4, rfl, b4⟩, e4⟩ := hv4
        subst ph4
        refine e_iload hX iL_commits_62 rfl ?_
        refine e_bipush (v := 20) hX iL_commits_64 (by decide) ?_
        refine e_ishr hX iL_commits_66 ?_
        refine e_callS hX iL_commits_67 (q_number htr _) rfl rfl ⟨by decide, by decide, by show _ ≤ 30; omega, by show _ ≤ 300; omega⟩ (Nat.le_of_ble_eq_true rfl) (fun _ _ h => h.elim) (fun v5 ph5 hv5 => ?_)
        obtain ⟨⟨a5, rfl, b5⟩, e5⟩ := hv5
        subst ph5
        refine e_callW hX hN.nc iW_L_commits_70 (r_stage htr hgp b1 b2 b3 b4 b5 (by have := hs.2.2.1; omega)) rfl rfl ⟨by decide, by decide, by show _ ≤ 30; omega, by show _ ≤ 300; omega⟩ (Nat.le_of_ble_eq_true rfl) (fun v6 ph6 hv6 => ?_)
        obtain ⟨rfl, hg6, hx6⟩ := hv6
        refine e_iload hX iL_commits_73 rfl ?_
        refine e_iconst (v := 1) hX iL_commits_75 (by decide) ?_
        refine e_iadd hX iL_commits_76 ?_
        rw [nI_1, hs.2.2.1]
        refine e_icmp_eq hX iL_commits_77 (fun c77 => ?_) (fun c77 => ?_)
        · refine e_iinc hX iL_commits_82 rfl (by first | exact nI_inc _ | rfl) (by decide) ?_
          refine e_goto hX iL_commits_85 ?_
          refine e_loc [0, 1, 2, 3, 4] ?_
          refine e_wid (k' := 3 * (k + 1)) (n' := 22 * (k + 1)) (by omega) (by omega) ?_
          exact ih (k + 1) _ _ (by omega) (by omega) hg6 (hxp.trans hx6) ⟨hs.1, hs.2.1, by show gM τ + 1 = k + 1; rw [hs.2.2.1], hs.2.2.2⟩
        · exact absurd rfl c77
  refine e_istore_n hX 3 iL_commits_11 rfl (by decide) ?_
  refine e_iconst (v := 0) hX iL_commits_12 (by decide) ?_
  refine e_istore hX iL_commits_13 (by decide) ?_
  refine e_loc [0, 1, 2, 3, 4] ?_
  refine e_wid (k' := 3 * 0) (n' := 22 * 0) (by omega) (by omega) ?_
  exact loop (m + 1) 0 _ σ (by omega) (by omega) hg kx.refl ⟨hv.1, hv.2.1, hv.2.2, rfl⟩
end CM
