/-! the model's calls that change it: setValue, removeRow, the rules' additions -/
theorem MI.arrI {θ : e_T} {ph : e_PH} {mo : Nat} {μ : Nat → Nat} {s : Nat → Int32} {F : Nat → Nat → Int32} (h : MI θ ph mo μ s F) (j : Nat) (hj : j < 14) (h7 : ¬ (j = 7 ∨ j = 8)) (f : Nat → Int32) : MI θ (e_up ph (μ j) (e_I θ (msz j) f)) mo μ s (updF F j f) := by
  have := h.arr j hj f
  unfold mcell at this
  rw [if_neg h7] at this
  exact this
theorem MI.arrZ {θ : e_T} {ph : e_PH} {mo : Nat} {μ : Nat → Nat} {s : Nat → Int32} {F : Nat → Nat → Int32} (h : MI θ ph mo μ s F) (j : Nat) (hj : j < 14) (h7 : j = 7 ∨ j = 8) (f : Nat → Int32) : MI θ (e_up ph (μ j) (e_Z θ 10 f)) mo μ s (updF F j f) := by
  have := h.arr j hj f
  unfold mcell at this
  rw [if_pos h7] at this
  exact this
def shK (f : Nat → Int32) (d r k : Nat) : Nat → Int32 := fun j => if r ≤ j ∧ j < k then f (j + d) else f j
theorem shK_0 {f : Nat → Int32} {d r : Nat} : shK f d r r = f := by funext j; exact if_neg (by omega)
theorem shK_s {f : Nat → Int32} {d r k : Nat} (hr : r ≤ k) (hd : 0 < d) : upd (shK f d r k) k (shK f d r k (k + d)) = shK f d r (k + 1) := by
  funext j
  by_cases e : j = k
  · subst e
    rw [upd_s]
    unfold shK
    rw [if_neg (by omega), if_pos (by omega)]
  · rw [upd_n e]
    unfold shK
    by_cases h : r ≤ j ∧ j < k
    · rw [if_pos h, if_pos (by omega)]
    · rw [if_neg h, if_neg (by omega)]
theorem MR.value {σ : SG} {s : Nat → Int32} {F : Nat → Nat → Int32} (hr : MR σ s F) {i c : Nat} (hi : i < gN σ) (hc : c < 5) {y : Int32} (hy : okV y) : MR (s_val σ i c y) s (updF F 1 (upd (F 1) (5 * i + c) y)) := by
  refine ⟨hr.1, hr.2.1, fun j hj => ⟨(hr.2.2.1 j hj).1, fun c2 hc2 => ?_⟩, hr.2.2.2.1, hr.2.2.2.2.1, hr.2.2.2.2.2.1, hr.2.2.2.2.2.2.1, ⟨hr.ok.1, hr.ok.2.1, hr.ok.2.2.1, hr.ok.2.2.2.1, fun j hj c2 hc2 => ?_, hr.ok.2.2.2.2.2⟩⟩
  · show upd (F 1) (5 * i + c) y (5 * j + c2) = (if j = i then upd (gV σ i) c y else gV σ j) c2
    by_cases e : j = i
    · subst e
      rw [if_pos rfl]
      by_cases e2 : c2 = c
      · subst e2; rw [upd_s, upd_s]
      · rw [upd_n (by omega), upd_n e2]; exact hr.v hj c2 hc2
    · rw [if_neg e, upd_n (by omega)]; exact hr.v hj c2 hc2
  · show okV ((if j = i then upd (gV σ i) c y else gV σ j) c2)
    by_cases e : j = i
    · rw [if_pos e]
      by_cases e2 : c2 = c
      · rw [e2, upd_s]; exact hy
      · rw [upd_n e2]; exact hr.ok.2.2.2.2.1 i hi c2 hc2
    · rw [if_neg e]; exact hr.ok.2.2.2.2.1 j hj c2 hc2
theorem MR.remove {σ : SG} {s : Nat → Int32} {F : Nat → Nat → Int32} (hr : MR σ s F) {i : Nat} (hi : i < gN σ) {s' : Nat → Int32} (h1 : s' 1 = nI (gN σ - 1)) (hs : ∀ j, j ≠ 1 → s' j = s j) : MR (s_rem σ i) s' (updF (updF F 0 (shK (F 0) 1 i (gN σ - 1))) 1 (shK (F 1) 5 (5 * i) (5 * (gN σ - 1)))) := by
  obtain ⟨⟨a1, a2, a3, a4, a5, a6, b, a7⟩, ⟨b1, b2⟩, c1, c2, c3, c4, c5, ok⟩ := hr
  have sh : ∀ j, j < gN σ - 1 → (j < i ∧ shf (gI σ) i j = gI σ j ∧ shf (gV σ) i j = gV σ j) ∨ (¬ j < i ∧ shf (gI σ) i j = gI σ (j + 1) ∧ shf (gV σ) i j = gV σ (j + 1)) := fun j hj => by
    by_cases h : j < i
    · exact Or.inl ⟨h, if_pos h, if_pos h⟩
    · exact Or.inr ⟨h, if_neg h, if_neg h⟩
  refine ⟨⟨h1, by rw [hs 2 (by decide)]; exact a2, by rw [hs 3 (by decide)]; exact a3, by rw [hs 7 (by decide)]; exact a4, by rw [hs 22 (by decide)]; exact a5, by rw [hs 23 (by decide)]; exact a6, b, by rw [hs 17 (by decide)]; exact a7⟩, ⟨by rw [hs 14 (by decide)]; exact b1, fun h => by rw [hs 15 (by decide), hs 16 (by decide), hs 17 (by decide)]; exact b2 h⟩, fun j hj => ?_, c2, c3, c4, c5, ⟨Nat.le_trans (Nat.sub_le _ _) ok.1, ok.2.1, ok.2.2.1, ok.2.2.2.1, fun j hj c hc => ?_, ok.2.2.2.2.2⟩⟩
  · have hj' : j < gN σ - 1 := hj
    show shK (F 0) 1 i (gN σ - 1) j = shf (gI σ) i j ∧ ∀ c, c < 5 → shK (F 1) 5 (5 * i) (5 * (gN σ - 1)) (5 * j + c) = shf (gV σ) i j c
    rcases sh j hj' with ⟨q1, q2, q3⟩ | ⟨q1, q2, q3⟩
    · rw [q2, q3]
      refine ⟨(if_neg (by omega)).trans (c1 j (by omega)).1, fun c hc => (if_neg (by omega)).trans ((c1 j (by omega)).2 c hc)⟩
    · rw [q2, q3]
      refine ⟨(if_pos (by omega)).trans (c1 (j + 1) (by omega)).1, fun c hc => (if_pos (by omega)).trans ?_⟩
      rw [show 5 * j + c + 5 = 5 * (j + 1) + c by omega]
      exact (c1 (j + 1) (by omega)).2 c hc
  · have hj' : j < gN σ - 1 := hj
    show okV (shf (gV σ) i j c)
    rcases sh j hj' with ⟨q1, q2, q3⟩ | ⟨q1, q2, q3⟩
    · rw [q3]; exact ok.2.2.2.2.1 j (by omega) c hc
    · rw [q3]; exact ok.2.2.2.2.1 (j + 1) (by omega) c hc
section MOD2
variable {l : Launch} {θ : e_T} {ph : e_PH} {mo : Nat} {μ : Nat → Nat} {σ : SG} {t : Int32}
theorem n_drops (htr : l.stackTraces = false) {s : Nat → Int32} {F : Nat → Nat → Int32} (hm : MI θ ph mo μ s F) (hr : MR σ s F) {i : Nat} (hi : i < gN σ) : MC yX12_drops cX12_drops 3 none 0 0 0 l θ [.ref mo, .int (nI i)] ph (fun z p => z = none ∧ (∃ s' F', MI θ p mo μ s' F' ∧ MR (s_rem σ i) s' F') ∧ kept ph p (mS mo μ)) (fun _ _ => False) := by
  have hn := hr.ok.1
  refine MC.of htr (by decide) (Nat.le_of_ble_eq_true rfl) ?_
  intro x hX hQ hT
  have hs1 : nI (gN σ) - 1 = nI (gN σ - 1) := by
    obtain ⟨m, hm2⟩ : ∃ m, gN σ = m + 1 := ⟨gN σ - 1, by omega⟩
    rw [hm2, nI_pred]
    rfl
  obtain ⟨s', es'⟩ : ∃ s' : Nat → Int32, s' = upd s 1 (nI (gN σ - 1)) := ⟨_, rfl⟩
  have h1 : s' 1 = nI (gN σ - 1) := by rw [es']; exact upd_s
  have hs : ∀ j, j ≠ 1 → s' j = s j := fun j hj => by rw [es']; exact upd_n hj
  let f0 := F 0
  let f1 := F 1
  have loop2 : ∀ (q k : Nat) (p : e_PH), 5 * (gN σ - 1) - k < q → 5 * i ≤ k → k ≤ 5 * (gN σ - 1) → MI θ p mo μ s' (updF (updF F 0 (shK (F 0) 1 i (gN σ - 1))) 1 (shK (F 1) 5 (5 * i) k)) → kept ph p (mS mo μ) → EJ θ x 44 [(0, .ref mo), (1, .int (nI i)), (2, .int (nI k))] [] p 0 0 := by
    intro q
    induction q with
    | zero => intro k p hq; omega
    | succ q ih =>
      intro k p hq hik hk hmp hkp
      refine e_iload_n hX 2 iX12_drops_44 rfl rfl ?_
      refine e_iconst (v := 5) hX iX12_drops_45 (by decide) ?_
      refine e_aload_n hX 0 iX12_drops_46 rfl rfl ?_
      refine e_get hX iX12_drops_47 hmp.1 rfl ?_
      rw [h1]
      refine e_imul hX iX12_drops_50 ?_
      rw [show (5 : Int32) = nI 5 from rfl, pk_mul]
      refine e_icmp_ge hX iX12_drops_51 (fun c51 => ?_) (fun c51 => ?_)
      · have hkn := nI_same hk (by omega) c51
        exact e_vret hX hQ iX12_drops_74 rfl (by decide) (by decide) ⟨rfl, ⟨s', _, hmp, by rw [hkn]; exact hr.remove hi h1 hs⟩, hkp⟩
      · have hkn := nI_less hk (by omega) c51
        refine e_aload_n hX 0 iX12_drops_54 rfl rfl ?_
        refine e_get hX iX12_drops_55 hmp.1 rfl ?_
        refine e_iload_n hX 2 iX12_drops_58 rfl rfl ?_
        refine e_aload_n hX 0 iX12_drops_59 rfl rfl ?_
        refine e_get hX iX12_drops_60 hmp.1 rfl ?_
        refine e_iload_n hX 2 iX12_drops_63 rfl rfl ?_
        refine e_iconst (v := 5) hX iX12_drops_64 (by decide) ?_
        refine e_iadd hX iX12_drops_65 ?_
        rw [show (5 : Int32) = nI 5 from rfl, nI_add]
        refine e_iald hX (k + 5) iX12_drops_66 (hmp.i 1 (by decide) (by decide)) rfl (by show _ < 90; omega) (by show 90 < _; decide) ?_
        refine e_iast hX k iX12_drops_67 (hmp.i 1 (by decide) (by decide)) rfl (by show _ < 90; omega) (by show 90 < _; decide) ?_
        have hm2 := hmp.arrI 1 (by decide) (by decide) (upd (shK (F 1) 5 (5 * i) k) k (shK (F 1) 5 (5 * i) k (k + 5)))
        refine e_iinc hX iX12_drops_68 rfl (by first | exact nI_inc _ | rfl) (by decide) ?_
        refine e_goto hX iX12_drops_71 ?_
        refine e_loc [0, 1, 2] ?_
        refine ih (k + 1) _ (by omega) (by omega) (by omega) ?_ (mS.arr hkp (j := 1) (by decide))
        rw [shK_s hik (by decide)] at hm2
        have eF : updF (updF (updF F 0 (shK (F 0) 1 i (gN σ - 1))) 1 (shK (F 1) 5 (5 * i) k)) 1 (shK (F 1) 5 (5 * i) (k + 1)) = updF (updF F 0 (shK (F 0) 1 i (gN σ - 1))) 1 (shK (F 1) 5 (5 * i) (k + 1)) := by
          funext a
          unfold updF
          by_cases e : a = 1
          · rw [if_pos e, if_pos e]
          · rw [if_neg e, if_neg e, if_neg e]
        rw [eF] at hm2
        rw [show upd (updF (updF F 0 (shK (F 0) 1 i (gN σ - 1))) 1 (shK (F 1) 5 (5 * i) k) 1) k (updF (updF F 0 (shK (F 0) 1 i (gN σ - 1))) 1 (shK (F 1) 5 (5 * i) k) 1 (k + 5)) = shK (F 1) 5 (5 * i) (k + 1) from shK_s hik (by decide)]
        exact hm2
  have loop1 : ∀ (q k : Nat) (p : e_PH), gN σ - 1 - k < q → i ≤ k → k ≤ gN σ - 1 → MI θ p mo μ s' (updF F 0 (shK (F 0) 1 i k)) → kept ph p (mS mo μ) → EJ θ x 12 [(0, .ref mo), (1, .int (nI i)), (2, .int (nI k))] [] p 0 0 := by
    intro q
    induction q with
    | zero => intro k p hq; omega
    | succ q ih =>
      intro k p hq hik hk hmp hkp
      refine e_iload_n hX 2 iX12_drops_12 rfl rfl ?_
      refine e_aload_n hX 0 iX12_drops_13 rfl rfl ?_
      refine e_get hX iX12_drops_14 hmp.1 rfl ?_
      rw [h1]
      refine e_icmp_ge hX iX12_drops_17 (fun c17 => ?_) (fun c17 => ?_)
      · have hkn := nI_same hk (by omega) c17
        refine e_iconst (v := 5) hX iX12_drops_40 (by decide) ?_
        refine e_iload_n hX 1 iX12_drops_41 rfl rfl ?_
        refine e_imul hX iX12_drops_42 ?_
        rw [show (5 : Int32) = nI 5 from rfl, pk_mul]
        refine e_istore_n hX 2 iX12_drops_43 rfl (by decide) ?_
        refine e_loc [0, 1, 2] ?_
        refine loop2 (5 * (gN σ - 1) + 1) (5 * i) p (by omega) (by omega) (by omega) ?_ hkp
        rw [shK_0, ← hkn]
        have eF : updF (updF F 0 (shK (F 0) 1 i k)) 1 (F 1) = updF F 0 (shK (F 0) 1 i k) := by
          funext a
          unfold updF
          by_cases e : a = 1
          · rw [if_pos e, if_neg (by omega), e]
          · rw [if_neg e]
        rw [eF]
        exact hmp
      · have hkn := nI_less hk (by omega) c17
        refine e_aload_n hX 0 iX12_drops_20 rfl rfl ?_
        refine e_get hX iX12_drops_21 hmp.1 rfl ?_
        refine e_iload_n hX 2 iX12_drops_24 rfl rfl ?_
        refine e_aload_n hX 0 iX12_drops_25 rfl rfl ?_
        refine e_get hX iX12_drops_26 hmp.1 rfl ?_
        refine e_iload_n hX 2 iX12_drops_29 rfl rfl ?_
        refine e_iconst (v := 1) hX iX12_drops_30 (by decide) ?_
        refine e_iadd hX iX12_drops_31 ?_
        rw [show nI k + 1 = nI (k + 1) from nI_1 k]
        refine e_iald hX (k + 1) iX12_drops_32 (hmp.i 0 (by decide) (by decide)) rfl (by show _ < 12; omega) (by show 12 < _; decide) ?_
        refine e_iast hX k iX12_drops_33 (hmp.i 0 (by decide) (by decide)) rfl (by show _ < 12; omega) (by show 12 < _; decide) ?_
        have hm2 := hmp.arrI 0 (by decide) (by decide) (shK (F 0) 1 i (k + 1))
        refine e_iinc hX iX12_drops_34 rfl (by first | exact nI_inc _ | rfl) (by decide) ?_
        refine e_goto hX iX12_drops_37 ?_
        refine e_loc [0, 1, 2] ?_
        refine ih (k + 1) _ (by omega) (by omega) (by omega) ?_ (mS.arr hkp (j := 0) (by decide))
        have eF : updF (updF F 0 (shK (F 0) 1 i k)) 0 (shK (F 0) 1 i (k + 1)) = updF F 0 (shK (F 0) 1 i (k + 1)) := by
          funext a
          unfold updF
          by_cases e : a = 0
          · rw [if_pos e, if_pos e]
          · rw [if_neg e, if_neg e, if_neg e]
        rw [eF] at hm2
        rw [show upd (updF F 0 (shK (F 0) 1 i k) 0) k (updF F 0 (shK (F 0) 1 i k) 0 (k + 1)) = shK (F 0) 1 i (k + 1) from shK_s hik (by decide)]
        exact hm2
  refine e_aload_n hX 0 iX12_drops_0 rfl rfl ?_
  refine e_dup hX iX12_drops_1 rfl ?_
  refine e_get hX iX12_drops_2 hm.1 rfl ?_
  rw [hr.1.1]
  refine e_iconst (v := 1) hX iX12_drops_5 (by decide) ?_
  refine e_isub hX iX12_drops_6 ?_
  rw [hs1]
  refine e_put (fs' := _) hX iX12_drops_7 hm.1 rfl (Nat.le_of_ble_eq_true rfl) rfl rfl ?_
  have hm2 : MI θ (e_up ph mo (mobj μ s')) mo μ s' F := hm.fld _
  refine e_iload_n hX 1 iX12_drops_10 rfl rfl ?_
  refine e_istore_n hX 2 iX12_drops_11 rfl (by decide) ?_
  refine e_loc [0, 1, 2] ?_
  refine loop1 (gN σ + 1) i _ (by omega) (Nat.le_refl _) (by omega) ?_ (mS.fld kept.refl)
  rw [shK_0]
  have eF : updF F 0 (F 0) = F := by
    funext a
    unfold updF
    by_cases e : a = 0
    · rw [if_pos e, e]
    · rw [if_neg e]
  rw [eF]
  rw [es'] at hm2
  exact es' ▸ hm2
theorem w_removeRow (htr : l.stackTraces = false) (hm : MP θ ph mo μ σ t) (id : Int32) : MC yX12_removeRow cX12_removeRow 3 (some .int) 1 0 0 l θ [.ref mo, .int id] ph (nP θ ph mo μ (if k_id σ id = 0 then s_rem σ (fnd σ id) else σ) (k_id σ id) (zI (k_id σ id) (nI (gN σ - 1)))) (fun _ _ => False) := by
  obtain ⟨s, F, hm, hr, rfl⟩ := hm
  have hn := hr.ok.1
  refine MC.of htr (by decide) (Nat.le_of_ble_eq_true rfl) ?_
  intro x hX hQ hT
  refine e_aload_n hX 0 iX12_removeRow_0 rfl rfl ?_
  refine e_iload_n hX 1 iX12_removeRow_1 rfl rfl ?_
  refine e_callV hX iX12_removeRow_2 hm.1 (n_find htr hm hr.1.1 hn id) rfl rfl ⟨by decide, by decide, by decide, by decide⟩ (Nat.le_of_ble_eq_true rfl) (fun _ _ h => h.elim) (fun v9 ph9 hv9 => ?_)
  obtain ⟨rfl, e9⟩ := hv9
  subst ph9
  rw [hr.fnd id]
  by_cases h1 : fnd σ id < gN σ
  · have hk : k_id σ id = 0 := if_pos h1
    rw [if_pos h1]
    refine e_istore_n hX 2 iX12_removeRow_5 rfl (by decide) ?_
    refine e_iload_n hX 2 iX12_removeRow_6 rfl rfl ?_
    refine e_iconst (v := (-1)) hX iX12_removeRow_7 (by decide) ?_
    refine e_icmp_ne hX iX12_removeRow_8 (fun c8 => ?_) (fun c8 => ?_)
    · refine e_aload_n hX 0 iX12_removeRow_17 rfl rfl ?_
      refine e_iload_n hX 2 iX12_removeRow_18 rfl rfl ?_
      refine e_callV hX iX12_removeRow_19 hm.1 (n_drops htr hm hr h1) rfl rfl ⟨by decide, by decide, by decide, by decide⟩ (Nat.le_of_ble_eq_true rfl) (fun _ _ h => h.elim) (fun v9 ph9 hv9 => ?_)
      obtain ⟨rfl, ⟨s', F', hm2, hr2⟩, hkp⟩ := hv9
      refine e_aload_n hX 0 iX12_removeRow_22 rfl rfl ?_
      refine e_aload_n hX 0 iX12_removeRow_23 rfl rfl ?_
      refine e_get hX iX12_removeRow_24 hm2.1 rfl ?_
      rw [hr2.1.1]
      refine e_callV hX iX12_removeRow_27 hm2.1 (n_tells htr hm2 (nI (gN (s_rem σ (fnd σ id))))) rfl rfl ⟨by decide, by decide, by decide, by decide⟩ (Nat.le_of_ble_eq_true rfl) (fun _ _ h => h.elim) (fun v9 ph9 hv9 => ?_)
      obtain ⟨rfl, e9⟩ := hv9
      subst ph9
      exact e_iret hX hQ iX12_removeRow_30 rfl (by decide) (by decide) (by rw [if_pos hk]; exact nP.mk (hm2.told hr2 hkp 0) (by rw [hk]; rfl) (by rw [zI_0 hk]; rfl))
    · exact absurd c8 (m1_ne _ (by omega))
  · have hk : k_id σ id = 1 := if_neg h1
    rw [if_neg h1]
    refine e_istore_n hX 2 iX12_removeRow_5 rfl (by decide) ?_
    refine e_iload_n hX 2 iX12_removeRow_6 rfl rfl ?_
    refine e_iconst (v := (-1)) hX iX12_removeRow_7 (by decide) ?_
    refine e_icmp_ne hX iX12_removeRow_8 (fun c8 => ?_) (fun c8 => ?_)
    · exact absurd rfl c8
    · refine e_aload_n hX 0 iX12_removeRow_11 rfl rfl ?_
      refine e_iconst (v := 1) hX iX12_removeRow_12 (by decide) ?_
      refine e_callV hX iX12_removeRow_13 hm.1 (n_fails htr hm 1) rfl rfl ⟨by decide, by decide, by decide, by decide⟩ (Nat.le_of_ble_eq_true rfl) (fun _ _ h => h.elim) (fun v9 ph9 hv9 => ?_)
      obtain ⟨rfl, e9⟩ := hv9
      subst ph9
      exact e_iret hX hQ iX12_removeRow_16 rfl (by decide) (by decide) (by rw [if_neg (show ¬ k_id σ id = 0 by omega)]; exact nP.mk (hm.told hr kept.refl 1) (by rw [hk]; rfl) (by rw [zI_n (by omega)]))
theorem w_setValue (htr : l.stackTraces = false) (hm : MP θ ph mo μ σ t) (id c y : Int32) : MC yX12_setValue cX12_setValue 6 (some .int) 2 0 0 l θ [.ref mo, .int id, .int c, .int y] ph (nP θ ph mo μ (if k_val σ id c y = 0 then s_val σ (fnd σ id) (ix c) y else σ) (k_val σ id c y) (zI (k_val σ id c y) (a_valueAt σ id c))) (fun _ _ => False) := by
  obtain ⟨s, F, hm, hr, rfl⟩ := hm
  have hn := hr.ok.1
  refine MC.of htr (by decide) (Nat.le_of_ble_eq_true rfl) ?_
  intro x hX hQ hT
  have bad : ∀ k, ¬ k = 0 → k_val σ id c y = k → nP θ ph mo μ (if k_val σ id c y = 0 then s_val σ (fnd σ id) (ix c) y else σ) (k_val σ id c y) (zI (k_val σ id c y) (a_valueAt σ id c)) (some (.int 0)) (e_up ph mo (mobj μ (upd s 0 (nI k)))) := fun k hk0 hk => by
    rw [if_neg (by omega)]
    exact nP.mk (hm.told hr kept.refl (nI k)) (by rw [hk]) (by rw [zI_n (by omega)])
  refine e_aload_n hX 0 iX12_setValue_0 rfl rfl ?_
  refine e_iload_n hX 1 iX12_setValue_1 rfl rfl ?_
  refine e_callV hX iX12_setValue_2 hm.1 (n_find htr hm hr.1.1 hn id) rfl rfl ⟨by decide, by decide, by decide, by decide⟩ (Nat.le_of_ble_eq_true rfl) (fun _ _ h => h.elim) (fun v9 ph9 hv9 => ?_)
  obtain ⟨rfl, e9⟩ := hv9
  subst ph9
  rw [hr.fnd id]
  by_cases h1 : fnd σ id < gN σ
  · rw [if_pos h1]
    refine e_istore hX iX12_setValue_5 (by decide) ?_
    refine e_iload hX iX12_setValue_7 rfl ?_
    refine e_iconst (v := (-1)) hX iX12_setValue_9 (by decide) ?_
    refine e_icmp_ne hX iX12_setValue_10 (fun c10 => ?_) (fun c10 => ?_)
    · refine e_iload_n hX 2 iX12_setValue_19 rfl rfl ?_
      refine e_callS hX iX12_setValue_20 (n_isColumn htr c) rfl rfl ⟨by decide, by decide, by decide, by decide⟩ (Nat.le_of_ble_eq_true rfl) (fun _ _ h => h.elim) (fun v9 ph9 hv9 => ?_)
      obtain ⟨rfl, e9⟩ := hv9
      subst ph9
      refine e_if_ne hX iX12_setValue_23 (fun c23 => ?_) (fun c23 => ?_)
      · have h2 := b2i_n0.mp c23
        obtain ⟨c', hc', rfl⟩ := colB_t.mp h2
        have hix : ix (nI c') = c' := ix_n (by omega)
        refine e_iload_n hX 3 iX12_setValue_32 rfl rfl ?_
        refine e_callS hX iX12_setValue_33 (n_isValue htr y) rfl rfl ⟨by decide, by decide, by decide, by decide⟩ (Nat.le_of_ble_eq_true rfl) (fun _ _ h => h.elim) (fun v9 ph9 hv9 => ?_)
        obtain ⟨rfl, e9⟩ := hv9
        subst ph9
        refine e_if_ne hX iX12_setValue_36 (fun c36 => ?_) (fun c36 => ?_)
        · have h3 := b2i_n0.mp c36
          have hk : k_val σ id (nI c') y = 0 := ((if_pos h1).trans (if_pos h2)).trans (if_pos h3)
          refine e_aload_n hX 0 iX12_setValue_45 rfl rfl ?_
          refine e_iload hX iX12_setValue_46 rfl ?_
          refine e_iload_n hX 2 iX12_setValue_48 rfl rfl ?_
          refine e_callV hX iX12_setValue_49 hm.1 (n_at htr hm (show fnd σ id < 18 by omega) hc') rfl rfl ⟨by decide, by decide, by decide, by decide⟩ (Nat.le_of_ble_eq_true rfl) (fun _ _ h => h.elim) (fun v9 ph9 hv9 => ?_)
          obtain ⟨rfl, e9⟩ := hv9
          subst ph9
          rw [hr.v h1 c' hc']
          refine e_istore hX iX12_setValue_52 (by decide) ?_
          refine e_aload_n hX 0 iX12_setValue_54 rfl rfl ?_
          refine e_get hX iX12_setValue_55 hm.1 rfl ?_
          refine e_iconst (v := 5) hX iX12_setValue_58 (by decide) ?_
          refine e_iload hX iX12_setValue_59 rfl ?_
          refine e_imul hX iX12_setValue_61 ?_
          refine e_iload_n hX 2 iX12_setValue_62 rfl rfl ?_
          refine e_iadd hX iX12_setValue_63 ?_
          rw [show (5 : Int32) = nI 5 from rfl, pk_mul, nI_add]
          refine e_iload_n hX 3 iX12_setValue_64 rfl rfl ?_
          refine e_iast hX (5 * fnd σ id + c') iX12_setValue_65 (hm.i 1 (by decide) (by decide)) rfl (by show _ < 90; omega) (by show 90 < _; decide) ?_
          have hm2 := hm.arrI 1 (by decide) (by decide) (upd (F 1) (5 * fnd σ id + c') y)
          have hr2 := hr.value h1 hc' (okVB_t.mp h3)
          refine e_aload_n hX 0 iX12_setValue_66 rfl rfl ?_
          refine e_iload hX iX12_setValue_67 rfl ?_
          refine e_callV hX iX12_setValue_69 hm2.1 (n_tells htr hm2 (gV σ (fnd σ id) c')) rfl rfl ⟨by decide, by decide, by decide, by decide⟩ (Nat.le_of_ble_eq_true rfl) (fun _ _ h => h.elim) (fun v9 ph9 hv9 => ?_)
          obtain ⟨rfl, e9⟩ := hv9
          subst ph9
          exact e_iret hX hQ iX12_setValue_72 rfl (by decide) (by decide) (by rw [if_pos hk, hix]; exact nP.mk (hm2.told hr2 (mS.arr kept.refl (j := 1) (by decide)) 0) (by rw [hk]; rfl) (by rw [zI_0 hk]; unfold a_valueAt; rw [hix]))
        · have h3 := b2i_0.mp c36
          refine e_aload_n hX 0 iX12_setValue_39 rfl rfl ?_
          refine e_iconst (v := 3) hX iX12_setValue_40 (by decide) ?_
          refine e_callV hX iX12_setValue_41 hm.1 (n_fails htr hm 3) rfl rfl ⟨by decide, by decide, by decide, by decide⟩ (Nat.le_of_ble_eq_true rfl) (fun _ _ h => h.elim) (fun v9 ph9 hv9 => ?_)
          obtain ⟨rfl, e9⟩ := hv9
          subst ph9
          exact e_iret hX hQ iX12_setValue_44 rfl (by decide) (by decide) (bad 3 (by decide) (((if_pos h1).trans (if_pos h2)).trans (if_neg (by rw [h3]; decide))))
      · refine e_aload_n hX 0 iX12_setValue_26 rfl rfl ?_
        refine e_iconst (v := 2) hX iX12_setValue_27 (by decide) ?_
        refine e_callV hX iX12_setValue_28 hm.1 (n_fails htr hm 2) rfl rfl ⟨by decide, by decide, by decide, by decide⟩ (Nat.le_of_ble_eq_true rfl) (fun _ _ h => h.elim) (fun v9 ph9 hv9 => ?_)
        obtain ⟨rfl, e9⟩ := hv9
        subst ph9
        exact e_iret hX hQ iX12_setValue_31 rfl (by decide) (by decide) (bad 2 (by decide) ((if_pos h1).trans (if_neg (by rw [b2i_0.mp c23]; decide))))
    · exact absurd c10 (m1_ne _ (by omega))
  · rw [if_neg h1]
    refine e_istore hX iX12_setValue_5 (by decide) ?_
    refine e_iload hX iX12_setValue_7 rfl ?_
    refine e_iconst (v := (-1)) hX iX12_setValue_9 (by decide) ?_
    refine e_icmp_ne hX iX12_setValue_10 (fun c10 => ?_) (fun c10 => ?_)
    · exact absurd rfl c10
    · refine e_aload_n hX 0 iX12_setValue_13 rfl rfl ?_
      refine e_iconst (v := 1) hX iX12_setValue_14 (by decide) ?_
      refine e_callV hX iX12_setValue_15 hm.1 (n_fails htr hm 1) rfl rfl ⟨by decide, by decide, by decide, by decide⟩ (Nat.le_of_ble_eq_true rfl) (fun _ _ h => h.elim) (fun v9 ph9 hv9 => ?_)
      obtain ⟨rfl, e9⟩ := hv9
      subst ph9
      exact e_iret hX hQ iX12_setValue_18 rfl (by decide) (by decide) (bad 1 (by decide) (if_neg h1))
end MOD2
