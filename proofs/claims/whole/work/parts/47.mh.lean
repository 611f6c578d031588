/-! the model's commit: the call -/
def cpK (f g : Nat → Int32) (b k : Nat) : Nat → Int32 := fun j => if b ≤ j ∧ j < b + k then g (j - b) else f j
theorem cpK_0 {f g : Nat → Int32} {b : Nat} : cpK f g b 0 = f := by funext j; exact if_neg (by omega)
theorem cpK_s {f g : Nat → Int32} {b k : Nat} : upd (cpK f g b k) (b + k) (g k) = cpK f g b (k + 1) := by
  funext j
  by_cases e : j = b + k
  · subst e
    rw [upd_s]
    unfold cpK
    rw [if_pos (by omega), show b + k - b = k by omega]
  · rw [upd_n e]
    unfold cpK
    by_cases h : b ≤ j ∧ j < b + k
    · rw [if_pos h, if_pos (by omega)]
    · rw [if_neg h, if_neg (by omega)]
theorem updF_2 {F : Nat → Nat → Int32} {j : Nat} {f g : Nat → Int32} : updF (updF F j f) j g = updF F j g := by
  funext a
  unfold updF
  by_cases e : a = j
  · rw [if_pos e, if_pos e]
  · rw [if_neg e, if_neg e, if_neg e]
theorem updF_id {F : Nat → Nat → Int32} {j : Nat} : updF F j (F j) = F := by
  funext a
  unfold updF
  by_cases e : a = j
  · rw [if_pos e, e]
  · rw [if_neg e]
theorem MR.copied {σ : SG} {s : Nat → Int32} {F : Nat → Nat → Int32} (hr : MR σ s F) (k : Nat) : MR σ s (updF F 1 (cpK (F 1) (F 2) (5 * gN σ) k)) := by
  obtain ⟨a, b, c1, c2⟩ := hr
  refine ⟨a, b, fun i hi => ⟨(c1 i hi).1, fun c hc => ?_⟩, c2⟩
  show cpK (F 1) (F 2) (5 * gN σ) k (5 * i + c) = _
  unfold cpK
  rw [if_neg (by omega)]
  exact (c1 i hi).2 c hc
theorem MV.mk {σ : SG} {s : Nat → Int32} {F : Nat → Nat → Int32} (hr : MR σ s F) : MV σ (updF F 1 (cpK (F 1) (F 2) (5 * gN σ) (5 * gM σ))) := by
  intro j hj c hc
  show cpK (F 1) (F 2) (5 * gN σ) (5 * gM σ) (5 * j + c) = _
  unfold cpK
  by_cases h : j < gN σ
  · rw [if_neg (by omega), cat_l h]; exact hr.v h c hc
  · rw [if_pos (by omega), cat_r h, show 5 * j + c - 5 * gN σ = 5 * (j - gN σ) + c by omega]
    exact hr.2.2.2.1 (j - gN σ) (by omega) c hc
theorem MR.rej {σ : SG} {s : Nat → Int32} {F : Nat → Nat → Int32} (hr : MR σ s F) {idx r : Nat} {o : Int32 × Bool} (hi : idx < 12) : MR (s_rj σ (nI idx, nI r, o.1, o.2)) (rejS s idx r o) F := by
  obtain ⟨⟨a1, a2, a3, a4, a5, a6, b, a7⟩, ⟨b1, b2⟩, c1, c2, c3, c4, c5, ok⟩ := hr
  exact ⟨⟨a1, a2, a3, a4, a5, a6, o.2, rfl⟩, ⟨rfl, fun _ => ⟨rfl, rfl, rfl⟩⟩, c1, c2, c3, c4, c5, ⟨ok.1, ok.2.1, ok.2.2.1, ok.2.2.2.1, ok.2.2.2.2.1, ok.2.2.2.2.2.1, ok.2.2.2.2.2.2.1, fun e => absurd e (by show ¬ nI idx = -1; exact m1_ne _ (by omega))⟩⟩
theorem MR.com {σ : SG} {s : Nat → Int32} {F : Nat → Nat → Int32} (hr : MR σ s F) (hv : MV σ F) (hle : gN σ + gM σ ≤ 12) {s' : Nat → Int32} (h1 : s' 1 = nI (gN σ + gM σ)) (h2 : s' 2 = gD σ + nI (gM σ)) (h3 : s' 3 = 0) (hs : ∀ j, j ≠ 1 → j ≠ 2 → j ≠ 3 → s' j = s j) : MR (s_com σ) s' (updF F 0 (cpK (F 0) (fun j => gD σ + nI j) (gN σ) (gM σ))) := by
  obtain ⟨⟨a1, a2, a3, a4, a5, a6, b, a7⟩, ⟨b1, b2⟩, c1, c2, c3, c4, c5, ok⟩ := hr
  refine ⟨⟨h1, h2, h3, by rw [hs 7 (by decide) (by decide) (by decide)]; exact a4, by rw [hs 22 (by decide) (by decide) (by decide)]; exact a5, by rw [hs 23 (by decide) (by decide) (by decide)]; exact a6, b, by rw [hs 17 (by decide) (by decide) (by decide)]; exact a7⟩, ⟨by rw [hs 14 (by decide) (by decide) (by decide)]; exact b1, fun h => by rw [hs 15 (by decide) (by decide) (by decide), hs 16 (by decide) (by decide) (by decide), hs 17 (by decide) (by decide) (by decide)]; exact b2 h⟩, fun i hi => ⟨?_, fun c hc => hv i hi c hc⟩, fun i hi => absurd hi (Nat.not_lt_zero i), c3, c4, c5, ⟨hle, Nat.zero_le _, ok.2.2.1, ok.2.2.2.1, fun i hi c hc => ?_, fun i hi => absurd hi (Nat.not_lt_zero i), ok.2.2.2.2.2.2⟩⟩
  · have hi' : i < gN σ + gM σ := hi
    show cpK (F 0) (fun j => gD σ + nI j) (gN σ) (gM σ) i = cat (gN σ) (gI σ) (fun j => gD σ + nI j) i
    unfold cpK
    by_cases h : i < gN σ
    · rw [if_neg (by omega), cat_l h]; exact (c1 i h).1
    · rw [if_pos (by omega), cat_r h]
  · have hi' : i < gN σ + gM σ := hi
    show okV (cat (gN σ) (gV σ) (gW σ) i c)
    by_cases h : i < gN σ
    · rw [cat_l h]; exact ok.2.2.2.2.1 i h c hc
    · rw [cat_r h]; exact ok.2.2.2.2.2.1 _ (by omega) c hc
section MOH
variable {l : Launch} {θ : e_T} {ph : e_PH} {mo : Nat} {μ : Nat → Nat} {σ : SG} {t : Int32}
theorem w_commit (htr : l.stackTraces = false) (hm : MP θ ph mo μ σ t) : MC yX12_commit cX12_commit 3 (some .int) 4 0 0 l θ [.ref mo] ph (nP θ ph mo μ (s_commit σ) (k_com σ) (zI (k_com σ) (nI (gN σ + gM σ)))) (fun _ _ => False) := by
  obtain ⟨s, F0, hm, hr, rfl⟩ := hm
  have hn := hr.ok.1
  have hm6 := hr.ok.2.1
  have hk10 := hr.ok.2.2.1
  refine MC.of htr (by decide) (Nat.le_of_ble_eq_true rfl) ?_
  intro x hX hQ hT
  have one : k_com σ = 1 → s_commit σ = σ → EJ θ x 21 [(0, .ref mo)] [] ph 0 0 := by
    intro hk hs0
    refine e_aload_n hX 0 iX12_commit_21 rfl rfl ?_
    refine e_iconst (v := 1) hX iX12_commit_22 (by decide) ?_
    refine e_callV hX iX12_commit_23 hm.1 (n_fails htr hm 1) rfl rfl ⟨by decide, by decide, by decide, by decide⟩ (Nat.le_of_ble_eq_true rfl) (fun _ _ h => h.elim) (fun v9 ph9 hv9 => ?_)
    obtain ⟨rfl, e9⟩ := hv9
    subst ph9
    exact e_iret hX hQ iX12_commit_26 rfl (by decide) (by decide) (by rw [hs0]; exact nP.mk (hm.told hr kept.refl 1) (by rw [hk]; rfl) (by rw [zI_n (by omega)]))
  refine e_aload_n hX 0 iX12_commit_0 rfl rfl ?_
  refine e_get hX iX12_commit_1 hm.1 rfl ?_
  rw [hr.1.2.2.1]
  refine e_if_eq hX iX12_commit_4 (fun c4 => ?_) (fun c4 => ?_)
  · have h0 : gM σ = 0 := by
      rcases Nat.eq_zero_or_pos (gM σ) with e | e
      · exact e
      · exact absurd c4 (nI_ne0 e (by omega))
    refine e_loc [0] ?_
    exact one (if_pos h0) (if_pos h0)
  · have h0 : ¬ gM σ = 0 := fun e => c4 (by rw [e]; rfl)
    refine e_aload_n hX 0 iX12_commit_7 rfl rfl ?_
    refine e_get hX iX12_commit_8 hm.1 rfl ?_
    rw [hr.1.1]
    refine e_aload_n hX 0 iX12_commit_11 rfl rfl ?_
    refine e_get hX iX12_commit_12 hm.1 rfl ?_
    rw [hr.1.2.2.1]
    refine e_iadd hX iX12_commit_15 ?_
    rw [nI_add]
    refine e_bipush (v := 12) hX iX12_commit_16 (by decide) ?_
    refine e_icmp_le hX iX12_commit_18 (fun c18 => ?_) (fun c18 => ?_)
    · have h1 : ¬ 12 < gN σ + gM σ := fun h => absurd c18 (nI_ge h (by omega))
      have hle : gN σ + gM σ ≤ 12 := by omega
      -- the third loop
      have loop3 : ∀ (F : Nat → Nat → Int32), MR σ s F → MV σ F → ¬ rjI σ < gM σ → ∀ (z k : Nat) (p : e_PH) (s' : Nat → Int32), gM σ - k < z → k ≤ gM σ → s' 2 = gD σ + nI k → (∀ j, j ≠ 2 → s' j = s j) → MI θ p mo μ s' (updF F 0 (cpK (F 0) (fun j => gD σ + nI j) (gN σ) k)) → kept ph p (mS mo μ) → EJ θ x 121 [(0, .ref mo), (1, .int (nI k))] [] p 0 0 := by
        intro F hrF hv hrj z
        induction z with
        | zero => intro k p s' hz; omega
        | succ z ih =>
          intro k p s' hz hk h2 hs hmp hkp
          have e3 : s' 3 = nI (gM σ) := by rw [hs 3 (by decide)]; exact hrF.1.2.2.1
          have e1 : s' 1 = nI (gN σ) := by rw [hs 1 (by decide)]; exact hrF.1.1
          refine e_iload_n hX 1 iX12_commit_121 rfl rfl ?_
          refine e_aload_n hX 0 iX12_commit_122 rfl rfl ?_
          refine e_get hX iX12_commit_123 hmp.1 rfl ?_
          rw [e3]
          refine e_icmp_ge hX iX12_commit_126 (fun c126 => ?_) (fun c126 => ?_)
          · have hkn := nI_same hk (by omega) c126
            subst hkn
            have hk0 : k_com σ = 0 := by unfold k_com; rw [if_neg h0, if_neg h1, if_neg hrj]
            have hs0 : s_commit σ = s_com σ := by unfold s_commit; rw [if_neg h0, if_neg h1, if_neg hrj]
            refine e_aload_n hX 0 iX12_commit_160 rfl rfl ?_
            refine e_dup hX iX12_commit_161 rfl ?_
            refine e_get hX iX12_commit_162 hmp.1 rfl ?_
            rw [e1]
            refine e_aload_n hX 0 iX12_commit_165 rfl rfl ?_
            refine e_get hX iX12_commit_166 hmp.1 rfl ?_
            rw [e3]
            refine e_iadd hX iX12_commit_169 ?_
            rw [nI_add]
            refine e_put (fs' := _) hX iX12_commit_170 hmp.1 rfl (Nat.le_of_ble_eq_true rfl) rfl rfl ?_
            have g1 := hmp.fld (upd s' 1 (nI (gN σ + gM σ)))
            refine e_aload_n hX 0 iX12_commit_173 rfl rfl ?_
            refine e_iconst (v := 0) hX iX12_commit_174 (by decide) ?_
            refine e_put (fs' := _) hX iX12_commit_175 g1.1 rfl (Nat.le_of_ble_eq_true rfl) rfl rfl ?_
            have g2 := g1.fld (upd (upd s' 1 (nI (gN σ + gM σ))) 3 0)
            have hr3 : MR (s_com σ) (upd (upd s' 1 (nI (gN σ + gM σ))) 3 0) _ := hrF.com hv hle (s' := upd (upd s' 1 (nI (gN σ + gM σ))) 3 0) rfl h2 rfl (fun j j1 j2 j3 => by rw [upd_n j3, upd_n j1]; exact hs j j2)
            refine e_aload_n hX 0 iX12_commit_178 rfl rfl ?_
            refine e_aload_n hX 0 iX12_commit_179 rfl rfl ?_
            refine e_get hX iX12_commit_180 g2.1 rfl ?_
            rw [show upd (upd s' 1 (nI (gN σ + gM σ))) 3 0 1 = nI (gN σ + gM σ) from rfl]
            refine e_callV hX iX12_commit_183 g2.1 (n_tells htr g2 (nI (gN σ + gM σ))) rfl rfl ⟨by decide, by decide, by decide, by decide⟩ (Nat.le_of_ble_eq_true rfl) (fun _ _ h => h.elim) (fun v9 ph9 hv9 => ?_)
            obtain ⟨rfl, e9⟩ := hv9
            subst ph9
            exact e_iret hX hQ iX12_commit_186 rfl (by decide) (by decide) (by rw [hs0]; exact nP.mk (g2.told hr3 (mS.fld (mS.fld hkp)) 0) (by rw [hk0]; rfl) (by rw [zI_0 hk0]))
          · have hkn := nI_less hk (by omega) c126
            refine e_aload_n hX 0 iX12_commit_129 rfl rfl ?_
            refine e_get hX iX12_commit_130 hmp.1 rfl ?_
            refine e_aload_n hX 0 iX12_commit_133 rfl rfl ?_
            refine e_get hX iX12_commit_134 hmp.1 rfl ?_
            rw [e1]
            refine e_iload_n hX 1 iX12_commit_137 rfl rfl ?_
            refine e_iadd hX iX12_commit_138 ?_
            rw [nI_add]
            refine e_aload_n hX 0 iX12_commit_139 rfl rfl ?_
            refine e_get hX iX12_commit_140 hmp.1 rfl ?_
            rw [h2]
            refine e_iast hX (gN σ + k) iX12_commit_143 (hmp.i 0 (by decide) (by decide)) rfl (by show _ < 12; omega) (by show 12 < _; decide) ?_
            have g1 := hmp.arrI 0 (by decide) (by decide) (cpK (F 0) (fun j => gD σ + nI j) (gN σ) (k + 1))
            rw [updF_2] at g1
            rw [show upd (updF F 0 (cpK (F 0) (fun j => gD σ + nI j) (gN σ) k) 0) (gN σ + k) (gD σ + nI k) = cpK (F 0) (fun j => gD σ + nI j) (gN σ) (k + 1) from cpK_s (f := F 0) (g := fun j => gD σ + nI j) (b := gN σ) (k := k)]
            refine e_aload_n hX 0 iX12_commit_144 rfl rfl ?_
            refine e_dup hX iX12_commit_145 rfl ?_
            refine e_get hX iX12_commit_146 g1.1 rfl ?_
            rw [h2]
            refine e_iconst (v := 1) hX iX12_commit_149 (by decide) ?_
            refine e_iadd hX iX12_commit_150 ?_
            rw [show gD σ + nI k + 1 = gD σ + nI (k + 1) by rw [Int32.add_assoc]; exact congrArg _ (nI_1 k)]
            refine e_put (fs' := _) hX iX12_commit_151 g1.1 rfl (Nat.le_of_ble_eq_true rfl) rfl rfl ?_
            have g2 := g1.fld (upd s' 2 (gD σ + nI (k + 1)))
            refine e_iinc hX iX12_commit_154 rfl (by first | exact nI_inc _ | rfl) (by decide) ?_
            refine e_goto hX iX12_commit_157 ?_
            refine e_loc [0, 1] ?_
            exact ih (k + 1) _ (upd s' 2 (gD σ + nI (k + 1))) (by omega) (by omega) upd_s (fun j hj => by rw [upd_n hj]; exact hs j hj) g2 (mS.fld (mS.arr hkp (j := 0) (by decide)))
      -- the second loop
      have loop2 : ∀ (F : Nat → Nat → Int32) (p : e_PH), MI θ p mo μ s F → MR σ s F → MV σ F → kept ph p (mS mo μ) → ∀ (z i : Nat), gM σ - i < z → i ≤ gM σ → (∀ y, y < i → decide (rjQ σ y < gK σ) = false) → EJ θ x 69 [(0, .ref mo), (1, .int (nI (gN σ + i)))] [] p 0 0 := by
        intro F p hmp hrF hv hkp z
        induction z with
        | zero => intro i hz; omega
        | succ z ih =>
          intro i hz hi hinv
          refine e_iload_n hX 1 iX12_commit_69 rfl rfl ?_
          refine e_aload_n hX 0 iX12_commit_70 rfl rfl ?_
          refine e_get hX iX12_commit_71 hmp.1 rfl ?_
          rw [hrF.1.1]
          refine e_aload_n hX 0 iX12_commit_74 rfl rfl ?_
          refine e_get hX iX12_commit_75 hmp.1 rfl ?_
          rw [hrF.1.2.2.1]
          refine e_iadd hX iX12_commit_78 ?_
          rw [nI_add]
          refine e_icmp_ge hX iX12_commit_79 (fun c79 => ?_) (fun c79 => ?_)
          · have hin : i = gM σ := by have := nI_same (show gN σ + i ≤ gN σ + gM σ by omega) (by omega) c79; omega
            have hrj : ¬ rjI σ < gM σ := by unfold rjI; rw [lowG_all (fun y hy => hinv y (by omega))]; exact Nat.lt_irrefl _
            refine e_iconst (v := 0) hX iX12_commit_119 (by decide) ?_
            refine e_istore_n hX 1 iX12_commit_120 rfl (by decide) ?_
            refine e_loc [0, 1] ?_
            refine loop3 F hrF hv hrj (gM σ + 1) 0 p s (by omega) (by omega) (by rw [hrF.1.2.1]; exact (Int32.add_zero _).symm) (fun _ _ => rfl) ?_ hkp
            rw [cpK_0, updF_id]
            exact hmp
          · have hin : i < gM σ := by have := nI_less (show gN σ + i ≤ gN σ + gM σ by omega) (by omega) c79; omega
            have inner : ∀ (z' q : Nat), gK σ - q < z' → q ≤ gK σ → (∀ y, y < q → hitR σ i y = false) → EJ θ x 84 [(0, .ref mo), (1, .int (nI (gN σ + i))), (2, .int (nI q))] [] p 0 0 := by
              intro z'
              induction z' with
              | zero => intro q hz'; omega
              | succ z' ih' =>
                intro q hz' hqk hk2
                refine e_iload_n hX 2 iX12_commit_84 rfl rfl ?_
                refine e_aload_n hX 0 iX12_commit_85 rfl rfl ?_
                refine e_get hX iX12_commit_86 hmp.1 rfl ?_
                rw [hrF.1.2.2.2.1]
                refine e_icmp_ge hX iX12_commit_89 (fun c89 => ?_) (fun c89 => ?_)
                · have hq := nI_same hqk (by omega) c89
                  subst hq
                  have e1 : rjQ σ i = gK σ := lowG_all hk2
                  refine e_iinc hX iX12_commit_113 rfl (by first | exact nI_inc _ | rfl) (by decide) ?_
                  refine e_goto hX iX12_commit_116 ?_
                  refine e_loc [0, 1] ?_
                  rw [show gN σ + i + 1 = gN σ + (i + 1) by omega]
                  refine ih (i + 1) (by omega) (by omega) (fun y hy => ?_)
                  by_cases e : y = i
                  · subst e; rw [e1]; exact decide_eq_false (Nat.lt_irrefl _)
                  · exact hinv y (by omega)
                · have hq := nI_less hqk (by omega) c89
                  refine e_aload_n hX 0 iX12_commit_92 rfl rfl ?_
                  refine e_iload_n hX 2 iX12_commit_93 rfl rfl ?_
                  refine e_iload_n hX 1 iX12_commit_94 rfl rfl ?_
                  refine e_callV hX iX12_commit_95 hmp.1 (n_rejects htr hmp hrF hv hle hq hin) rfl rfl ⟨by decide, by decide, by decide, by decide⟩ (Nat.le_of_ble_eq_true rfl) (fun _ _ h => h.elim) (fun v9 ph9 hv9 => ?_)
                  rcases hv9 with ⟨e1, rfl, e3⟩ | ⟨o, e1, e2, rfl, e3⟩
                  · subst e3
                    refine e_if_eq hX iX12_commit_98 (fun c98 => ?_) (fun c98 => ?_)
                    · refine e_iinc hX iX12_commit_107 rfl (by first | exact nI_inc _ | rfl) (by decide) ?_
                      refine e_goto hX iX12_commit_110 ?_
                      refine e_loc [0, 1, 2] ?_
                      refine ih' (q + 1) (by omega) (by omega) (fun y hy => ?_)
                      by_cases e : y = q
                      · subst e; exact e1
                      · exact hk2 y (by omega)
                    · exact absurd rfl c98
                  · refine e_if_eq hX iX12_commit_98 (fun c98 => ?_) (fun c98 => ?_)
                    · exact absurd c98 (by decide)
                    · have e5 : rjQ σ i = q := lowG_u hq e1 hk2
                      have e6 : rjI σ = i := lowG_u hin (decide_eq_true (by rw [e5]; exact hq)) hinv
                      have e7 : rjW σ = o := by unfold rjW; rw [e6, e5, e2]; rfl
                      have hrj : rjI σ < gM σ := by rw [e6]; exact hin
                      have hk0 : k_com σ = 2 := by unfold k_com; rw [if_neg h0, if_neg h1, if_pos hrj]
                      have hs0 : s_commit σ = s_rj σ (nI i, nI q, o.1, o.2) := by unfold s_commit; rw [if_neg h0, if_neg h1, if_pos hrj]; unfold s_rej; rw [e6, e5, e7]
                      have g1 : MI θ ph9 mo μ (rejS s i q o) F := by rw [e3]; exact hmp.fld _
                      have g2 : kept ph ph9 (mS mo μ) := by rw [e3]; exact mS.fld hkp
                      refine e_aload_n hX 0 iX12_commit_101 rfl rfl ?_
                      refine e_iconst (v := 2) hX iX12_commit_102 (by decide) ?_
                      refine e_callV hX iX12_commit_103 g1.1 (n_fails htr g1 2) rfl rfl ⟨by decide, by decide, by decide, by decide⟩ (Nat.le_of_ble_eq_true rfl) (fun _ _ h => h.elim) (fun v8 ph8 hv8 => ?_)
                      obtain ⟨rfl, e8⟩ := hv8
                      subst ph8
                      exact e_iret hX hQ iX12_commit_106 rfl (by decide) (by decide) (by rw [hs0]; exact nP.mk (g1.told (hrF.rej (by omega)) g2 2) (by rw [hk0]; rfl) (by rw [zI_n (by omega)]))
            refine e_iconst (v := 0) hX iX12_commit_82 (by decide) ?_
            refine e_istore_n hX 2 iX12_commit_83 rfl (by decide) ?_
            refine e_loc [0, 1, 2] ?_
            exact inner (gK σ + 1) 0 (by omega) (by omega) (fun y hy => absurd hy (Nat.not_lt_zero y))
      -- the first loop
      have loop1 : ∀ (z k : Nat) (p : e_PH), 5 * gM σ - k < z → k ≤ 5 * gM σ → MI θ p mo μ s (updF F0 1 (cpK (F0 1) (F0 2) (5 * gN σ) k)) → kept ph p (mS mo μ) → EJ θ x 29 [(0, .ref mo), (1, .int (nI k))] [] p 0 0 := by
        intro z
        induction z with
        | zero => intro k p hz; omega
        | succ z ih =>
          intro k p hz hk hmp hkp
          refine e_iload_n hX 1 iX12_commit_29 rfl rfl ?_
          refine e_iconst (v := 5) hX iX12_commit_30 (by decide) ?_
          refine e_aload_n hX 0 iX12_commit_31 rfl rfl ?_
          refine e_get hX iX12_commit_32 hmp.1 rfl ?_
          rw [hr.1.2.2.1]
          refine e_imul hX iX12_commit_35 ?_
          rw [show (5 : Int32) = nI 5 from rfl, pk_mul]
          refine e_icmp_ge hX iX12_commit_36 (fun c36 => ?_) (fun c36 => ?_)
          · have hkn := nI_same hk (by omega) c36
            refine e_aload_n hX 0 iX12_commit_64 rfl rfl ?_
            refine e_get hX iX12_commit_65 hmp.1 rfl ?_
            rw [hr.1.1]
            refine e_istore_n hX 1 iX12_commit_68 rfl (by decide) ?_
            refine e_loc [0, 1] ?_
            rw [hkn] at hmp
            exact loop2 _ p hmp (hr.copied _) (MV.mk hr) hkp (gM σ + 1) 0 (by omega) (by omega) (fun y hy => absurd hy (Nat.not_lt_zero y))
          · have hkn := nI_less hk (by omega) c36
            refine e_aload_n hX 0 iX12_commit_39 rfl rfl ?_
            refine e_get hX iX12_commit_40 hmp.1 rfl ?_
            refine e_iconst (v := 5) hX iX12_commit_43 (by decide) ?_
            refine e_aload_n hX 0 iX12_commit_44 rfl rfl ?_
            refine e_get hX iX12_commit_45 hmp.1 rfl ?_
            rw [hr.1.1]
            refine e_imul hX iX12_commit_48 ?_
            refine e_iload_n hX 1 iX12_commit_49 rfl rfl ?_
            refine e_iadd hX iX12_commit_50 ?_
            rw [show (5 : Int32) = nI 5 from rfl, pk_mul, nI_add]
            refine e_aload_n hX 0 iX12_commit_51 rfl rfl ?_
            refine e_get hX iX12_commit_52 hmp.1 rfl ?_
            refine e_iload_n hX 1 iX12_commit_55 rfl rfl ?_
            refine e_iald hX k iX12_commit_56 (hmp.i 2 (by decide) (by decide)) rfl (by show _ < 30; omega) (by show 30 < _; decide) ?_
            refine e_iast hX (5 * gN σ + k) iX12_commit_57 (hmp.i 1 (by decide) (by decide)) rfl (by show _ < 90; omega) (by show 90 < _; decide) ?_
            have g1 := hmp.arrI 1 (by decide) (by decide) (cpK (F0 1) (F0 2) (5 * gN σ) (k + 1))
            rw [updF_2] at g1
            rw [show upd (updF F0 1 (cpK (F0 1) (F0 2) (5 * gN σ) k) 1) (5 * gN σ + k) (updF F0 1 (cpK (F0 1) (F0 2) (5 * gN σ) k) 2 k) = cpK (F0 1) (F0 2) (5 * gN σ) (k + 1) from cpK_s]
            refine e_iinc hX iX12_commit_58 rfl (by first | exact nI_inc _ | rfl) (by decide) ?_
            refine e_goto hX iX12_commit_61 ?_
            refine e_loc [0, 1] ?_
            exact ih (k + 1) _ (by omega) (by omega) g1 (mS.arr hkp (j := 1) (by decide))
      refine e_iconst (v := 0) hX iX12_commit_27 (by decide) ?_
      refine e_istore_n hX 1 iX12_commit_28 rfl (by decide) ?_
      refine e_loc [0, 1] ?_
      refine loop1 (5 * gM σ + 1) 0 ph (by omega) (by omega) ?_ kept.refl
      rw [cpK_0, updF_id]
      exact hm
    · have h1 : 12 < gN σ + gM σ := by
        rcases Nat.lt_or_ge 12 (gN σ + gM σ) with h | h
        · exact h
        · exact absurd (nI_le h (by decide)) c18
      refine e_loc [0] ?_
      exact one (by unfold k_com; rw [if_neg h0, if_pos h1]) (by unfold s_commit; rw [if_neg h0, if_pos h1])
end MOH
