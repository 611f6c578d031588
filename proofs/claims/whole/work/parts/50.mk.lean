/-! the model: medians and outliers -/
theorem srtG_n {f0 : Nat → Int32} {P : Nat → Bool} {y : Nat → Int32} : ∀ n, (srtG f0 P y n).1 = cntB n P
  | 0 => rfl
  | n + 1 => by
    have h := srtG_n (f0 := f0) (P := P) (y := y) n
    unfold srtG
    by_cases c : P n = true
    · rw [if_pos c, cntB_s1 c]; show _ + 1 = _; rw [h]
    · rw [if_neg c, cntB_s0 (by simpa using c)]; exact h
theorem MR.sorted {σ : SG} {s : Nat → Int32} {F : Nat → Nat → Int32} (hr : MR σ s F) (f : Nat → Int32) : MR σ s (updF F 11 f) := hr
section MOK
variable {l : Launch} {θ : e_T} {ph : e_PH} {mo : Nat} {μ : Nat → Nat} {σ : SG} {t : Int32} {s : Nat → Int32} {F : Nat → Nat → Int32}
theorem n_size (htr : l.stackTraces = false) (v : Int32) : MC yX12_size cX12_size 1 (some .int) 0 0 0 l θ [.int v] ph (fun z p => z = some (.int (absI v)) ∧ p = ph) (fun _ _ => False) := by
  refine MC.of htr (by decide) (Nat.le_of_ble_eq_true rfl) ?_
  intro x hX hQ hT
  refine e_iload_n hX 0 iX12_size_0 rfl rfl ?_
  refine e_if_ge hX iX12_size_1 (fun c1 => ?_) (fun c1 => ?_)
  · refine e_iload_n hX 0 iX12_size_9 rfl rfl ?_
    exact e_iret hX hQ iX12_size_10 rfl (by decide) (by decide) ⟨by unfold absI; rw [if_pos c1], rfl⟩
  · refine e_iload_n hX 0 iX12_size_4 rfl rfl ?_
    refine e_ineg hX iX12_size_5 ?_
    refine e_goto hX iX12_size_6 ?_
    exact e_iret hX hQ iX12_size_10 rfl (by decide) (by decide) ⟨by unfold absI; rw [if_neg c1, Int32.zero_sub], rfl⟩
theorem n_present (htr : l.stackTraces = false) (hm : MI θ ph mo μ s F) (hr : MR σ s F) {c : Nat} (hc : c < 5) : MC yX12_present cX12_present 4 (some .int) 1 0 0 l θ [.ref mo, .int (nI c)] ph (fun z p => z = some (.int (nI (prsN σ c))) ∧ p = ph) (fun _ _ => False) := by
  have hn := hr.ok.1
  refine MC.of htr (by decide) (Nat.le_of_ble_eq_true rfl) ?_
  intro x hX hQ hT
  let P : Nat → Bool := fun i => pres (gV σ i c)
  have loop : ∀ (z i : Nat), gN σ - i < z → i ≤ gN σ → EJ θ x 4 [(0, .ref mo), (1, .int (nI c)), (2, .int (nI (cntB i P))), (3, .int (nI i))] [] ph 0 0 := by
    intro z
    induction z with
    | zero => intro i hz; omega
    | succ z ih =>
      intro i hz hi
      have next : ∀ d, cntB (i + 1) P = cntB i P + d → i < gN σ → EJ θ x 29 [(0, .ref mo), (1, .int (nI c)), (3, .int (nI i))] [.int (nI d), .int (nI (cntB i P))] ph 0 0 := by
        intro d hd hin
        refine e_iadd hX iX12_present_29 ?_
        rw [nI_add, ← hd]
        refine e_istore_n hX 2 iX12_present_30 rfl (by decide) ?_
        refine e_iinc hX iX12_present_31 rfl (by first | exact nI_inc _ | rfl) (by decide) ?_
        refine e_goto hX iX12_present_34 ?_
        refine e_loc [0, 1, 2, 3] ?_
        exact ih (i + 1) (by omega) (by omega)
      refine e_iload_n hX 3 iX12_present_4 rfl rfl ?_
      refine e_aload_n hX 0 iX12_present_5 rfl rfl ?_
      refine e_get hX iX12_present_6 hm.1 rfl ?_
      rw [hr.1.1]
      refine e_icmp_ge hX iX12_present_9 (fun c9 => ?_) (fun c9 => ?_)
      · have hin := nI_same hi (by omega) c9
        subst hin
        refine e_iload_n hX 2 iX12_present_37 rfl rfl ?_
        exact e_iret hX hQ iX12_present_38 rfl (by decide) (by decide) ⟨rfl, rfl⟩
      · have hin := nI_less hi (by omega) c9
        refine e_iload_n hX 2 iX12_present_12 rfl rfl ?_
        refine e_aload_n hX 0 iX12_present_13 rfl rfl ?_
        refine e_iload_n hX 3 iX12_present_14 rfl rfl ?_
        refine e_iload_n hX 1 iX12_present_15 rfl rfl ?_
        refine e_callV hX iX12_present_16 hm.1 (n_at htr hm (show i < 18 by omega) hc) rfl rfl ⟨by decide, by decide, by decide, by decide⟩ (Nat.le_of_ble_eq_true rfl) (fun _ _ h => h.elim) (fun v9 ph9 hv9 => ?_)
        obtain ⟨rfl, e9⟩ := hv9
        subst ph9
        rw [hr.v hin c hc]
        refine e_bipush (v := 100) hX iX12_present_19 (by decide) ?_
        refine e_icmp_ne hX iX12_present_21 (fun c21 => ?_) (fun c21 => ?_)
        · refine e_iconst (v := 1) hX iX12_present_28 (by decide) ?_
          refine e_loc [0, 1, 3] ?_
          exact next 1 (cntB_s1 (show pres (gV σ i c) = true from decide_eq_true c21)) hin
        · refine e_iconst (v := 0) hX iX12_present_24 (by decide) ?_
          refine e_goto hX iX12_present_25 ?_
          refine e_loc [0, 1, 3] ?_
          exact next 0 (cntB_s0 (show pres (gV σ i c) = false by unfold pres; rw [c21]; rfl)) hin
  refine e_iconst (v := 0) hX iX12_present_0 (by decide) ?_
  refine e_istore_n hX 2 iX12_present_1 rfl (by decide) ?_
  refine e_iconst (v := 0) hX iX12_present_2 (by decide) ?_
  refine e_istore_n hX 3 iX12_present_3 rfl (by decide) ?_
  refine e_loc [0, 1, 2, 3] ?_
  exact loop (gN σ + 1) 0 (by omega) (by omega)
def farV (σ : SG) (c : Nat) (b : Bool) (m : Int32) (i : Nat) : Int32 := if b = true then dist (gV σ i c) m else gV σ i c
theorem n_middle (htr : l.stackTraces = false) (hm : MI θ ph mo μ s F) (hr : MR σ s F) {c : Nat} (hc : c < 5) (hp : ¬ prsN σ c = 0) (b : Bool) (m : Int32) : MC yX12_middle cX12_middle 8 (some .int) 1 0 0 l θ [.ref mo, .int (nI c), .int (b2i b), .int m] ph (fun z p => z = some (.int (medG (fun i => pres (gV σ i c)) (farV σ c b m) (gN σ))) ∧ (∃ f, MI θ p mo μ s (updF F 11 f)) ∧ kept ph p (mS mo μ)) (fun _ _ => False) := by
  have hn := hr.ok.1
  let P : Nat → Bool := fun i => pres (gV σ i c)
  let y : Nat → Int32 := farV σ c b m
  let S : Nat → Nat × (Nat → Int32) := srtG (F 11) P y
  refine MC.of htr (by decide) (Nat.le_of_ble_eq_true rfl) ?_
  intro x hX hQ hT
  have outer : ∀ (z k : Nat) (p : e_PH), gN σ - k < z → k ≤ gN σ → MI θ p mo μ s (updF F 11 (S k).2) → kept ph p (mS mo μ) → EJ θ x 6 [(0, .ref mo), (1, .int (nI c)), (2, .int (b2i b)), (3, .int m), (4, .int (nI (S k).1)), (5, .int (nI k))] [] p 0 0 := by
    intro z
    induction z with
    | zero => intro k p hz; omega
    | succ z ih =>
      intro k p hz hk hmp hkp
      have hle : (S k).1 ≤ k := srtG_le k
      have next : ∀ p2 (lv : List (Nat × Value)), k < gN σ → MI θ p2 mo μ s (updF F 11 (S (k + 1)).2) → kept ph p2 (mS mo μ) → EJ θ x 115 [(0, .ref mo), (1, .int (nI c)), (2, .int (b2i b)), (3, .int m), (4, .int (nI (S (k + 1)).1)), (5, .int (nI k))] [] p2 0 0 := by
        intro p2 lv hkn h1 h2
        refine e_iinc hX iX12_middle_115 rfl (by first | exact nI_inc _ | rfl) (by decide) ?_
        refine e_goto hX iX12_middle_118 ?_
        refine e_loc [0, 1, 2, 3, 4, 5] ?_
        exact ih (k + 1) p2 (by omega) (by omega) h1 h2
      refine e_iload hX iX12_middle_6 rfl ?_
      refine e_aload_n hX 0 iX12_middle_8 rfl rfl ?_
      refine e_get hX iX12_middle_9 hmp.1 rfl ?_
      rw [hr.1.1]
      refine e_icmp_ge hX iX12_middle_12 (fun c12 => ?_) (fun c12 => ?_)
      · have hkn := nI_same hk (by omega) c12
        subst hkn
        have hcnt : (S (gN σ)).1 = prsN σ c := srtG_n _
        have h0 : ¬ (S (gN σ)).1 = 0 := by rw [hcnt]; exact hp
        refine e_aload_n hX 0 iX12_middle_121 rfl rfl ?_
        refine e_get hX iX12_middle_122 hmp.1 rfl ?_
        refine e_iload hX iX12_middle_125 rfl ?_
        refine e_iconst (v := 1) hX iX12_middle_127 (by decide) ?_
        refine e_isub hX iX12_middle_128 ?_
        refine e_iconst (v := 2) hX iX12_middle_129 (by decide) ?_
        refine e_idiv hX iX12_middle_130 (by decide) ?_
        refine e_iald hX (((S (gN σ)).1 - 1) / 2) iX12_middle_131 (hmp.i 11 (by decide) (by decide)) (mid_ix _ (by omega) h0) (by show _ < 12; omega) (by show 12 < _; decide) ?_
        exact e_iret hX hQ iX12_middle_132 rfl (by decide) (by decide) ⟨by rw [← medG_any (f0 := F 11)]; unfold midG; rw [if_neg h0]; rfl, ⟨_, hmp⟩, hkp⟩
      · have hkn := nI_less hk (by omega) c12
        refine e_aload_n hX 0 iX12_middle_15 rfl rfl ?_
        refine e_iload hX iX12_middle_16 rfl ?_
        refine e_iload_n hX 1 iX12_middle_18 rfl rfl ?_
        refine e_callV hX iX12_middle_19 hmp.1 (n_at htr hmp (show k < 18 by omega) hc) rfl rfl ⟨by decide, by decide, by decide, by decide⟩ (Nat.le_of_ble_eq_true rfl) (fun _ _ h => h.elim) (fun v9 ph9 hv9 => ?_)
        obtain ⟨rfl, e9⟩ := hv9
        subst ph9
        rw [show vF (updF F 11 (S k).2) k c = gV σ k c from hr.v hkn c hc]
        refine e_bipush (v := 100) hX iX12_middle_22 (by decide) ?_
        refine e_icmp_ne hX iX12_middle_24 (fun c24 => ?_) (fun c24 => ?_)
        · have hpk : P k = true := decide_eq_true c24
          have e0 : S (k + 1) = ((S k).1 + 1, insG (S k).1 (S k).2 (y k)) := if_pos hpk
          have ins : EJ θ x 56 [(0, .ref mo), (1, .int (nI c)), (2, .int (b2i b)), (3, .int m), (4, .int (nI (S k).1)), (5, .int (nI k))] [.int (y k)] p 0 0 := by
            have fin : ∀ (q : Nat) (g : Nat → Int32) (p2 : e_PH), q < 12 → upd g q (y k) = insG (S k).1 (S k).2 (y k) → MI θ p2 mo μ s (updF F 11 g) → kept ph p2 (mS mo μ) → EJ θ x 103 [(0, .ref mo), (1, .int (nI c)), (2, .int (b2i b)), (3, .int m), (4, .int (nI (S k).1)), (5, .int (nI k)), (6, .int (y k)), (7, .int (nI q))] [] p2 0 0 := by
              intro q g p2 hq hg hm2 hk2
              refine e_aload_n hX 0 iX12_middle_103 rfl rfl ?_
              refine e_get hX iX12_middle_104 hm2.1 rfl ?_
              refine e_iload hX iX12_middle_107 rfl ?_
              refine e_iload hX iX12_middle_109 rfl ?_
              refine e_iast hX q iX12_middle_111 (hm2.i 11 (by decide) (by decide)) rfl (by show _ < 12; omega) (by show 12 < _; decide) ?_
              have g1 := hm2.arrI 11 (by decide) (by decide) (insG (S k).1 (S k).2 (y k))
              rw [updF_2] at g1
              rw [show upd (updF F 11 g 11) q (y k) = insG (S k).1 (S k).2 (y k) from hg]
              refine e_iinc hX iX12_middle_112 rfl (by first | exact nI_inc _ | rfl) (by decide) ?_
              refine e_loc [0, 1, 2, 3, 4, 5] ?_
              have := next _ [] hkn (by rw [e0]; exact g1) (mS.arr hk2 (j := 11) (by decide))
              rw [e0] at this
              exact this
            have loop : ∀ (q : Nat) (g : Nat → Int32) (p2 : e_PH), q ≤ (S k).1 → insG q g (y k) = insG (S k).1 (S k).2 (y k) → MI θ p2 mo μ s (updF F 11 g) → kept ph p2 (mS mo μ) → EJ θ x 62 [(0, .ref mo), (1, .int (nI c)), (2, .int (b2i b)), (3, .int m), (4, .int (nI (S k).1)), (5, .int (nI k)), (6, .int (y k)), (7, .int (nI q))] [] p2 0 0 := by
              intro q
              induction q with
              | zero =>
                intro g p2 hq hg hm2 hk2
                refine e_iload hX iX12_middle_62 rfl ?_
                refine e_if_le hX iX12_middle_64 (fun c64 => ?_) (fun c64 => ?_)
                · exact fin 0 g p2 (by omega) hg hm2 hk2
                · exact absurd (by decide) c64
              | succ q ihq =>
                intro g p2 hq hg hm2 hk2
                refine e_iload hX iX12_middle_62 rfl ?_
                refine e_if_le hX iX12_middle_64 (fun c64 => ?_) (fun c64 => ?_)
                · exact absurd c64 (nI_nle (by omega) (by omega))
                · refine e_aload_n hX 0 iX12_middle_67 rfl rfl ?_
                  refine e_get hX iX12_middle_68 hm2.1 rfl ?_
                  refine e_iload hX iX12_middle_71 rfl ?_
                  refine e_iconst (v := 1) hX iX12_middle_73 (by decide) ?_
                  refine e_isub hX iX12_middle_74 ?_
                  refine e_iald hX q iX12_middle_75 (hm2.i 11 (by decide) (by decide)) (nI_pred q) (by show _ < 12; omega) (by show 12 < _; decide) ?_
                  refine e_iload hX iX12_middle_76 rfl ?_
                  refine e_icmp_le hX iX12_middle_78 (fun c78 => ?_) (fun c78 => ?_)
                  · exact fin (q + 1) g p2 (by omega) (by rw [← hg]; unfold insG; rw [if_neg (Int32.not_lt.mpr (show g q ≤ y k from c78))]) hm2 hk2
                  · refine e_aload_n hX 0 iX12_middle_81 rfl rfl ?_
                    refine e_get hX iX12_middle_82 hm2.1 rfl ?_
                    refine e_iload hX iX12_middle_85 rfl ?_
                    refine e_aload_n hX 0 iX12_middle_87 rfl rfl ?_
                    refine e_get hX iX12_middle_88 hm2.1 rfl ?_
                    refine e_iload hX iX12_middle_91 rfl ?_
                    refine e_iconst (v := 1) hX iX12_middle_93 (by decide) ?_
                    refine e_isub hX iX12_middle_94 ?_
                    refine e_iald hX q iX12_middle_95 (hm2.i 11 (by decide) (by decide)) (nI_pred q) (by show _ < 12; omega) (by show 12 < _; decide) ?_
                    refine e_iast hX (q + 1) iX12_middle_96 (hm2.i 11 (by decide) (by decide)) rfl (by show _ < 12; omega) (by show 12 < _; decide) ?_
                    have g1 := hm2.arrI 11 (by decide) (by decide) (upd g (q + 1) (g q))
                    rw [updF_2] at g1
                    refine e_iinc hX iX12_middle_97 rfl (nI_dec q) (by decide) ?_
                    refine e_goto hX iX12_middle_100 ?_
                    refine e_loc [0, 1, 2, 3, 4, 5, 6, 7] ?_
                    refine ihq (upd g (q + 1) (g q)) _ (by omega) ?_ g1 (mS.arr hk2 (j := 11) (by decide))
                    rw [← hg]
                    conv => rhs; unfold insG
                    rw [if_pos (Int32.not_le.mp (show ¬ g q ≤ y k from c78))]
            refine e_istore hX iX12_middle_56 (by decide) ?_
            refine e_iload hX iX12_middle_58 rfl ?_
            refine e_istore hX iX12_middle_60 (by decide) ?_
            refine e_loc [0, 1, 2, 3, 4, 5, 6, 7] ?_
            exact loop (S k).1 (S k).2 p (Nat.le_refl _) rfl hmp hkp
          refine e_iload_n hX 2 iX12_middle_30 rfl rfl ?_
          refine e_if_eq hX iX12_middle_31 (fun c31 => ?_) (fun c31 => ?_)
          · have hb : b = false := b2i_0.mp c31
            refine e_aload_n hX 0 iX12_middle_49 rfl rfl ?_
            refine e_iload hX iX12_middle_50 rfl ?_
            refine e_iload_n hX 1 iX12_middle_52 rfl rfl ?_
            refine e_callV hX iX12_middle_53 hmp.1 (n_at htr hmp (show k < 18 by omega) hc) rfl rfl ⟨by decide, by decide, by decide, by decide⟩ (Nat.le_of_ble_eq_true rfl) (fun _ _ h => h.elim) (fun v9 ph9 hv9 => ?_)
            obtain ⟨rfl, e9⟩ := hv9
            subst ph9
            rw [show vF (updF F 11 (S k).2) k c = y k by
              show vF F k c = farV σ c b m k
              unfold farV
              rw [hr.v hkn c hc, hb]; rfl]
            refine e_loc [0, 1, 2, 3, 4, 5] ?_
            exact ins
          · have hb : b = true := b2i_n0.mp c31
            refine e_aload_n hX 0 iX12_middle_34 rfl rfl ?_
            refine e_iload hX iX12_middle_35 rfl ?_
            refine e_iload_n hX 1 iX12_middle_37 rfl rfl ?_
            refine e_callV hX iX12_middle_38 hmp.1 (n_at htr hmp (show k < 18 by omega) hc) rfl rfl ⟨by decide, by decide, by decide, by decide⟩ (Nat.le_of_ble_eq_true rfl) (fun _ _ h => h.elim) (fun v9 ph9 hv9 => ?_)
            obtain ⟨rfl, e9⟩ := hv9
            subst ph9
            rw [show vF (updF F 11 (S k).2) k c = gV σ k c from hr.v hkn c hc]
            refine e_iload_n hX 3 iX12_middle_41 rfl rfl ?_
            refine e_isub hX iX12_middle_42 ?_
            refine e_callS hX iX12_middle_43 (n_size htr (gV σ k c - m)) rfl rfl ⟨by decide, by decide, by decide, by decide⟩ (Nat.le_of_ble_eq_true rfl) (fun _ _ h => h.elim) (fun v9 ph9 hv9 => ?_)
            obtain ⟨rfl, e9⟩ := hv9
            subst ph9
            refine e_goto hX iX12_middle_46 ?_
            rw [show absI (gV σ k c - m) = y k by show _ = farV σ c b m k; unfold farV; rw [if_pos hb]; rfl]
            refine e_loc [0, 1, 2, 3, 4, 5] ?_
            exact ins
        · have hpk : P k = false := by show pres (gV σ k c) = false; unfold pres; rw [c24]; rfl
          have e0 : S (k + 1) = S k := if_neg (by rw [hpk]; decide)
          refine e_goto hX iX12_middle_27 ?_
          refine e_loc [0, 1, 2, 3, 4, 5] ?_
          have := next p [] hkn (by rw [e0]; exact hmp) hkp
          rw [e0] at this
          exact this
  refine e_iconst (v := 0) hX iX12_middle_0 (by decide) ?_
  refine e_istore hX iX12_middle_1 (by decide) ?_
  refine e_iconst (v := 0) hX iX12_middle_3 (by decide) ?_
  refine e_istore hX iX12_middle_4 (by decide) ?_
  refine e_loc [0, 1, 2, 3, 4, 5] ?_
  refine outer (gN σ + 1) 0 ph (by omega) (by omega) ?_ kept.refl
  rw [show (S 0).2 = F 11 from rfl, updF_id]
  exact hm
theorem n_spread (htr : l.stackTraces = false) (hm : MI θ ph mo μ s F) (hr : MR σ s F) {c : Nat} (hc : c < 5) (hp : ¬ prsN σ c = 0) : MC yX12_spread cX12_spread 2 (some .int) 2 0 0 l θ [.ref mo, .int (nI c)] ph (fun z p => z = some (.int (sprN σ c (medN σ c))) ∧ (∃ f, MI θ p mo μ s (updF F 11 f)) ∧ kept ph p (mS mo μ)) (fun _ _ => False) := by
  refine MC.of htr (by decide) (Nat.le_of_ble_eq_true rfl) ?_
  intro x hX hQ hT
  refine e_aload_n hX 0 iX12_spread_0 rfl rfl ?_
  refine e_iload_n hX 1 iX12_spread_1 rfl rfl ?_
  refine e_iconst (v := 1) hX iX12_spread_2 (by decide) ?_
  refine e_aload_n hX 0 iX12_spread_3 rfl rfl ?_
  refine e_iload_n hX 1 iX12_spread_4 rfl rfl ?_
  refine e_iconst (v := 0) hX iX12_spread_5 (by decide) ?_
  refine e_iconst (v := 0) hX iX12_spread_6 (by decide) ?_
  refine e_callV hX iX12_spread_7 hm.1 (n_middle htr hm hr hc hp false 0) rfl rfl ⟨by decide, by decide, by decide, by decide⟩ (Nat.le_of_ble_eq_true rfl) (fun _ _ h => h.elim) (fun v9 ph9 hv9 => ?_)
  obtain ⟨rfl, ⟨f, hm2⟩, hk2⟩ := hv9
  refine e_callV hX iX12_spread_10 hm2.1 (n_middle htr hm2 (hr.sorted f) hc hp true (medN σ c)) rfl rfl ⟨by decide, by decide, by decide, by decide⟩ (Nat.le_of_ble_eq_true rfl) (fun _ _ h => h.elim) (fun v8 ph8 hv8 => ?_)
  obtain ⟨rfl, ⟨f2, hm3⟩, hk3⟩ := hv8
  rw [updF_2] at hm3
  exact e_iret hX hQ iX12_spread_13 rfl (by decide) (by decide) ⟨rfl, ⟨f2, hm3⟩, hk2.trans hk3⟩
theorem w_medianOf (htr : l.stackTraces = false) (hm : MP θ ph mo μ σ t) (c : Int32) : MC yX12_medianOf cX12_medianOf 2 (some .int) 3 0 0 l θ [.ref mo, .int c] ph (nP θ ph mo μ σ (k_med σ c) (zI (k_med σ c) (medN σ (ix c)))) (fun _ _ => False) := by
  obtain ⟨s, F, hm, hr, rfl⟩ := hm
  have hn := hr.ok.1
  refine MC.of htr (by decide) (Nat.le_of_ble_eq_true rfl) ?_
  intro x hX hQ hT
  refine e_iload_n hX 1 iX12_medianOf_0 rfl rfl ?_
  refine e_callS hX iX12_medianOf_1 (n_isColumn htr c) rfl rfl ⟨by decide, by decide, by decide, by decide⟩ (Nat.le_of_ble_eq_true rfl) (fun _ _ h => h.elim) (fun v9 ph9 hv9 => ?_)
  obtain ⟨rfl, e9⟩ := hv9
  subst ph9
  refine e_if_ne hX iX12_medianOf_4 (fun c4 => ?_) (fun c4 => ?_)
  · have h2 := b2i_n0.mp c4
    obtain ⟨c', hc', rfl⟩ := colB_t.mp h2
    have hix : ix (nI c') = c' := ix_n (by omega)
    have hpl : prsN σ c' ≤ gN σ := cntB_le _ _
    refine e_aload_n hX 0 iX12_medianOf_13 rfl rfl ?_
    refine e_iload_n hX 1 iX12_medianOf_14 rfl rfl ?_
    refine e_callV hX iX12_medianOf_15 hm.1 (n_present htr hm hr hc') rfl rfl ⟨by decide, by decide, by decide, by decide⟩ (Nat.le_of_ble_eq_true rfl) (fun _ _ h => h.elim) (fun v9 ph9 hv9 => ?_)
    obtain ⟨rfl, e9⟩ := hv9
    subst ph9
    refine e_if_ne hX iX12_medianOf_18 (fun c18 => ?_) (fun c18 => ?_)
    · have h0 : ¬ prsN σ c' = 0 := fun e => c18 (by rw [e]; rfl)
      have hk : k_med σ (nI c') = 0 := (if_pos h2).trans (if_neg (by rw [hix]; exact h0))
      refine e_aload_n hX 0 iX12_medianOf_29 rfl rfl ?_
      refine e_aload_n hX 0 iX12_medianOf_30 rfl rfl ?_
      refine e_iload_n hX 1 iX12_medianOf_31 rfl rfl ?_
      refine e_iconst (v := 0) hX iX12_medianOf_32 (by decide) ?_
      refine e_iconst (v := 0) hX iX12_medianOf_33 (by decide) ?_
      refine e_callV hX iX12_medianOf_34 hm.1 (n_middle htr hm hr hc' h0 false 0) rfl rfl ⟨by decide, by decide, by decide, by decide⟩ (Nat.le_of_ble_eq_true rfl) (fun _ _ h => h.elim) (fun v9 ph9 hv9 => ?_)
      obtain ⟨rfl, ⟨f, hm2⟩, hk2⟩ := hv9
      refine e_callV hX iX12_medianOf_37 hm2.1 (n_tells htr hm2 (medN σ c')) rfl rfl ⟨by decide, by decide, by decide, by decide⟩ (Nat.le_of_ble_eq_true rfl) (fun _ _ h => h.elim) (fun v8 ph8 hv8 => ?_)
      obtain ⟨rfl, e8⟩ := hv8
      subst ph8
      exact e_iret hX hQ iX12_medianOf_40 rfl (by decide) (by decide) (nP.mk (hm2.told (hr.sorted f) hk2 0) (by rw [hk]; rfl) (by rw [zI_0 hk, hix]))
    · have h0 : prsN σ c' = 0 := by
        rcases Nat.eq_zero_or_pos (prsN σ c') with e | e
        · exact e
        · exact absurd c18 (nI_ne0 e (by omega))
      have hk : k_med σ (nI c') = 2 := (if_pos h2).trans (if_pos (by rw [hix]; exact h0))
      refine e_aload_n hX 0 iX12_medianOf_21 rfl rfl ?_
      refine e_iconst (v := 2) hX iX12_medianOf_22 (by decide) ?_
      refine e_callV hX iX12_medianOf_23 hm.1 (n_fails htr hm 2) rfl rfl ⟨by decide, by decide, by decide, by decide⟩ (Nat.le_of_ble_eq_true rfl) (fun _ _ h => h.elim) (fun v9 ph9 hv9 => ?_)
      obtain ⟨rfl, e9⟩ := hv9
      subst ph9
      refine e_goto hX iX12_medianOf_26 ?_
      exact e_iret hX hQ iX12_medianOf_40 rfl (by decide) (by decide) (nP.mk (hm.told hr kept.refl 2) (by rw [hk]; rfl) (by rw [zI_n (by omega)]))
  · have hk : k_med σ c = 1 := if_neg (by rw [b2i_0.mp c4]; decide)
    refine e_aload_n hX 0 iX12_medianOf_7 rfl rfl ?_
    refine e_iconst (v := 1) hX iX12_medianOf_8 (by decide) ?_
    refine e_callV hX iX12_medianOf_9 hm.1 (n_fails htr hm 1) rfl rfl ⟨by decide, by decide, by decide, by decide⟩ (Nat.le_of_ble_eq_true rfl) (fun _ _ h => h.elim) (fun v9 ph9 hv9 => ?_)
    obtain ⟨rfl, e9⟩ := hv9
    subst ph9
    exact e_iret hX hQ iX12_medianOf_12 rfl (by decide) (by decide) (nP.mk (hm.told hr kept.refl 1) (by rw [hk]; rfl) (by rw [zI_n (by omega)]))
theorem w_spreadOf (htr : l.stackTraces = false) (hm : MP θ ph mo μ σ t) (c : Int32) : MC yX12_spreadOf cX12_spreadOf 2 (some .int) 3 0 0 l θ [.ref mo, .int c] ph (nP θ ph mo μ σ (k_med σ c) (zI (k_med σ c) (sprN σ (ix c) (medN σ (ix c))))) (fun _ _ => False) := by
  obtain ⟨s, F, hm, hr, rfl⟩ := hm
  have hn := hr.ok.1
  refine MC.of htr (by decide) (Nat.le_of_ble_eq_true rfl) ?_
  intro x hX hQ hT
  refine e_iload_n hX 1 iX12_spreadOf_0 rfl rfl ?_
  refine e_callS hX iX12_spreadOf_1 (n_isColumn htr c) rfl rfl ⟨by decide, by decide, by decide, by decide⟩ (Nat.le_of_ble_eq_true rfl) (fun _ _ h => h.elim) (fun v9 ph9 hv9 => ?_)
  obtain ⟨rfl, e9⟩ := hv9
  subst ph9
  refine e_if_ne hX iX12_spreadOf_4 (fun c4 => ?_) (fun c4 => ?_)
  · have h2 := b2i_n0.mp c4
    obtain ⟨c', hc', rfl⟩ := colB_t.mp h2
    have hix : ix (nI c') = c' := ix_n (by omega)
    have hpl : prsN σ c' ≤ gN σ := cntB_le _ _
    refine e_aload_n hX 0 iX12_spreadOf_13 rfl rfl ?_
    refine e_iload_n hX 1 iX12_spreadOf_14 rfl rfl ?_
    refine e_callV hX iX12_spreadOf_15 hm.1 (n_present htr hm hr hc') rfl rfl ⟨by decide, by decide, by decide, by decide⟩ (Nat.le_of_ble_eq_true rfl) (fun _ _ h => h.elim) (fun v9 ph9 hv9 => ?_)
    obtain ⟨rfl, e9⟩ := hv9
    subst ph9
    refine e_if_ne hX iX12_spreadOf_18 (fun c18 => ?_) (fun c18 => ?_)
    · have h0 : ¬ prsN σ c' = 0 := fun e => c18 (by rw [e]; rfl)
      have hk : k_med σ (nI c') = 0 := (if_pos h2).trans (if_neg (by rw [hix]; exact h0))
      refine e_aload_n hX 0 iX12_spreadOf_29 rfl rfl ?_
      refine e_aload_n hX 0 iX12_spreadOf_30 rfl rfl ?_
      refine e_iload_n hX 1 iX12_spreadOf_31 rfl rfl ?_
      refine e_callV hX iX12_spreadOf_32 hm.1 (n_spread htr hm hr hc' h0) rfl rfl ⟨by decide, by decide, by decide, by decide⟩ (Nat.le_of_ble_eq_true rfl) (fun _ _ h => h.elim) (fun v9 ph9 hv9 => ?_)
      obtain ⟨rfl, ⟨f, hm2⟩, hk2⟩ := hv9
      refine e_callV hX iX12_spreadOf_35 hm2.1 (n_tells htr hm2 (sprN σ c' (medN σ c'))) rfl rfl ⟨by decide, by decide, by decide, by decide⟩ (Nat.le_of_ble_eq_true rfl) (fun _ _ h => h.elim) (fun v8 ph8 hv8 => ?_)
      obtain ⟨rfl, e8⟩ := hv8
      subst ph8
      exact e_iret hX hQ iX12_spreadOf_38 rfl (by decide) (by decide) (nP.mk (hm2.told (hr.sorted f) hk2 0) (by rw [hk]; rfl) (by rw [zI_0 hk, hix]))
    · have h0 : prsN σ c' = 0 := by
        rcases Nat.eq_zero_or_pos (prsN σ c') with e | e
        · exact e
        · exact absurd c18 (nI_ne0 e (by omega))
      have hk : k_med σ (nI c') = 2 := (if_pos h2).trans (if_pos (by rw [hix]; exact h0))
      refine e_aload_n hX 0 iX12_spreadOf_21 rfl rfl ?_
      refine e_iconst (v := 2) hX iX12_spreadOf_22 (by decide) ?_
      refine e_callV hX iX12_spreadOf_23 hm.1 (n_fails htr hm 2) rfl rfl ⟨by decide, by decide, by decide, by decide⟩ (Nat.le_of_ble_eq_true rfl) (fun _ _ h => h.elim) (fun v9 ph9 hv9 => ?_)
      obtain ⟨rfl, e9⟩ := hv9
      subst ph9
      refine e_goto hX iX12_spreadOf_26 ?_
      exact e_iret hX hQ iX12_spreadOf_38 rfl (by decide) (by decide) (nP.mk (hm.told hr kept.refl 2) (by rw [hk]; rfl) (by rw [zI_n (by omega)]))
  · have hk : k_med σ c = 1 := if_neg (by rw [b2i_0.mp c4]; decide)
    refine e_aload_n hX 0 iX12_spreadOf_7 rfl rfl ?_
    refine e_iconst (v := 1) hX iX12_spreadOf_8 (by decide) ?_
    refine e_callV hX iX12_spreadOf_9 hm.1 (n_fails htr hm 1) rfl rfl ⟨by decide, by decide, by decide, by decide⟩ (Nat.le_of_ble_eq_true rfl) (fun _ _ h => h.elim) (fun v9 ph9 hv9 => ?_)
    obtain ⟨rfl, e9⟩ := hv9
    subst ph9
    exact e_iret hX hQ iX12_spreadOf_12 rfl (by decide) (by decide) (nP.mk (hm.told hr kept.refl 1) (by rw [hk]; rfl) (by rw [zI_n (by omega)]))
end MOK
