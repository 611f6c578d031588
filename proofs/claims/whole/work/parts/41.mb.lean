/-! the model: find, breaks, alike, clash, badRow, conflicts -/
def fndI (n : Nat) (f : Nat → Int32) (id : Int32) : Int32 := if fndN n f id < n then nI (fndN n f id) else -1
theorem m1_ne : ∀ i, i < 90 → ¬ nI i = -1 := by decide
theorem lowG_c {P Q : Nat → Bool} : ∀ {g j : Nat}, (∀ i, j ≤ i → i < j + g → P i = Q i) → lowG P g j = lowG Q g j
  | 0, _, _ => rfl
  | g + 1, j, h => by
    unfold lowG
    rw [h j (Nat.le_refl _) (by omega), lowG_c (g := g) (j := j + 1) (fun i h1 h2 => h i (by omega) (by omega))]
theorem fndN_c {n : Nat} {f f' : Nat → Int32} {id : Int32} (h : ∀ i, i < n → f i = f' i) : fndN n f id = fndN n f' id := lowG_c (fun i _ hi => by rw [h i (by omega)])
theorem eqIn_all {s : Int32} {v u : Nat → Int32} : eqIn s v u = allB 5 (fun c => !sb s c || decide (v c = u c)) := by
  cases h : allB 5 (fun c => !sb s c || decide (v c = u c))
  · cases h2 : eqIn s v u
    · rfl
    · rw [allB_t.mpr (fun c hc => by
        cases h3 : sb s c
        · rfl
        · rw [decide_eq_true (eqIn_t.mp h2 c hc h3)]; rfl)] at h
      cases h
  · refine eqIn_t.mpr (fun c hc hs => ?_)
    have := allB_t.mp h c hc
    rw [hs] at this
    simpa using this
theorem allB_s {f : Nat → Bool} {n : Nat} : allB (n + 1) f = (allB n f && f n) := rfl
theorem anyB_s {f : Nat → Bool} {n : Nat} : anyB (n + 1) f = (anyB n f || f n) := rfl
section MOB
variable {l : Launch} {θ : e_T} {ph : e_PH} {mo : Nat} {μ : Nat → Nat} {s : Nat → Int32} {F : Nat → Nat → Int32}
theorem n_find (htr : l.stackTraces = false) (hm : MI θ ph mo μ s F) {n : Nat} (h1 : s 1 = nI n) (hn : n ≤ 12) (id : Int32) : MC yX12_find cX12_find 3 (some .int) 0 0 0 l θ [.ref mo, .int id] ph (fun z p => z = some (.int (fndI n (F 0) id)) ∧ p = ph) (fun _ _ => False) := by
  refine MC.of htr (by decide) (Nat.le_of_ble_eq_true rfl) ?_
  intro x hX hQ hT
  have loop : ∀ (q i : Nat), n - i < q → i ≤ n → (∀ j, j < i → ¬ F 0 j = id) → EJ θ x 2 [(0, .ref mo), (1, .int id), (2, .int (nI i))] [] ph 0 0 := by
    intro q
    induction q with
    | zero => intro i hg; omega
    | succ q ih =>
      intro i hq hi hinv
      refine e_iload_n hX 2 iX12_find_2 rfl rfl ?_
      refine e_aload_n hX 0 iX12_find_3 rfl rfl ?_
      refine e_get hX iX12_find_4 hm.1 rfl ?_
      rw [h1]
      refine e_icmp_ge hX iX12_find_7 (fun c7 => ?_) (fun c7 => ?_)
      · have hin := nI_same hi (by omega) c7
        subst hin
        refine e_iconst (v := (-1)) hX iX12_find_28 (by decide) ?_
        exact e_iret hX hQ iX12_find_29 rfl (by decide) (by decide) ⟨by unfold fndI; rw [fndN_all hinv, if_neg (Nat.lt_irrefl _)], rfl⟩
      · have hin := nI_less hi (by omega) c7
        refine e_aload_n hX 0 iX12_find_10 rfl rfl ?_
        refine e_get hX iX12_find_11 hm.1 rfl ?_
        refine e_iload_n hX 2 iX12_find_14 rfl rfl ?_
        refine e_iald hX i iX12_find_15 (hm.i 0 (by decide) (by decide)) rfl (by show _ < 12; omega) (by show 12 < _; decide) ?_
        refine e_iload_n hX 1 iX12_find_16 rfl rfl ?_
        refine e_icmp_ne hX iX12_find_17 (fun c17 => ?_) (fun c17 => ?_)
        · refine e_iinc hX iX12_find_22 rfl (by first | exact nI_inc _ | rfl) (by decide) ?_
          refine e_goto hX iX12_find_25 ?_
          refine e_loc [0, 1, 2] ?_
          refine ih (i + 1) (by omega) (by omega) (fun z hz => ?_)
          by_cases e : z = i
          · subst e; exact c17
          · exact hinv z (by omega)
        · refine e_iload_n hX 2 iX12_find_20 rfl rfl ?_
          exact e_iret hX hQ iX12_find_21 rfl (by decide) (by decide) ⟨by unfold fndI; rw [fndN_u hin c17 hinv, if_pos hin], rfl⟩
  refine e_iconst (v := 0) hX iX12_find_0 (by decide) ?_
  refine e_istore_n hX 2 iX12_find_1 rfl (by decide) ?_
  refine e_loc [0, 1, 2] ?_
  exact loop (n + 1) 0 (by omega) (by omega) (fun z hz => absurd hz (Nat.not_lt_zero z))
theorem n_breaks (htr : l.stackTraces = false) (hm : MI θ ph mo μ s F) {r i : Nat} {ρ : RU} (hr : r < 10) (hi : i < 18) (hρ : mrule F r ρ) : MC yX12_breaks cX12_breaks 4 (some .boolean) 1 0 0 l θ [.ref mo, .int (nI r), .int (nI i)] ph (fun z p => z = some (.int (b2i (brkR ρ (vF F i)))) ∧ p = ph) (fun _ _ => False) := by
  obtain ⟨r3, r4, r5, r6, hk, hc, h2⟩ := hρ
  obtain ⟨kd, c, xx, yy, sst, dr⟩ := ρ
  have r3' : F 3 r = nI kd := r3
  have r4' : F 4 r = nI c := r4
  have r5' : F 5 r = xx := r5
  have r6' : F 6 r = yy := r6
  have hc' : c < 5 := hc
  have hk' : kd < 5 := hk
  let v : Nat → Int32 := vF F i
  show MC yX12_breaks cX12_breaks 4 (some .boolean) 1 0 0 l θ [.ref mo, .int (nI r), .int (nI i)] ph (fun z p => z = some (.int (b2i (brk kd c xx yy (vF F i)))) ∧ p = ph) (fun _ _ => False)
  have pr : ∀ y : Int32, y = 100 → pres y = false := fun y e => by unfold pres; rw [e]; rfl
  have pt : ∀ y : Int32, ¬ y = 100 → pres y = true := fun y e => by unfold pres; exact decide_eq_true e
  refine MC.of htr (by decide) (Nat.le_of_ble_eq_true rfl) ?_
  intro x hX hQ hT
  refine e_aload_n hX 0 iX12_breaks_0 rfl rfl ?_
  refine e_iload_n hX 2 iX12_breaks_1 rfl rfl ?_
  refine e_aload_n hX 0 iX12_breaks_2 rfl rfl ?_
  refine e_get hX iX12_breaks_3 hm.1 rfl ?_
  refine e_iload_n hX 1 iX12_breaks_6 rfl rfl ?_
  refine e_iald hX r iX12_breaks_7 (hm.i 4 (by decide) (by decide)) rfl (by show _ < 10; omega) (by show 10 < _; decide) ?_
  rw [r4']
  refine e_callV hX iX12_breaks_8 hm.1 (n_at htr hm hi hc') rfl rfl ⟨by decide, by decide, by decide, by decide⟩ (Nat.le_of_ble_eq_true rfl) (fun _ _ h => h.elim) (fun v9 ph9 hv9 => ?_)
  obtain ⟨rfl, e9⟩ := hv9
  subst ph9
  refine e_istore_n hX 3 iX12_breaks_11 rfl (by decide) ?_
  refine e_aload_n hX 0 iX12_breaks_12 rfl rfl ?_
  refine e_get hX iX12_breaks_13 hm.1 rfl ?_
  refine e_iload_n hX 1 iX12_breaks_16 rfl rfl ?_
  refine e_iald hX r iX12_breaks_17 (hm.i 3 (by decide) (by decide)) rfl (by show _ < 10; omega) (by show 10 < _; decide) ?_
  rw [r3']
  refine e_if_ne hX iX12_breaks_18 (fun c18 => ?_) (fun c18 => ?_)
  · have k0 : ¬ kd = 0 := fun e => c18 (by rw [e]; rfl)
    refine e_aload_n hX 0 iX12_breaks_53 rfl rfl ?_
    refine e_get hX iX12_breaks_54 hm.1 rfl ?_
    refine e_iload_n hX 1 iX12_breaks_57 rfl rfl ?_
    refine e_iald hX r iX12_breaks_58 (hm.i 3 (by decide) (by decide)) rfl (by show _ < 10; omega) (by show 10 < _; decide) ?_
    rw [r3']
    refine e_iconst (v := 1) hX iX12_breaks_59 (by decide) ?_
    refine e_icmp_ne hX iX12_breaks_60 (fun c60 => ?_) (fun c60 => ?_)
    · have k1 : ¬ kd = 1 := fun e => c60 (by rw [e]; rfl)
      have no : (¬ kd = 2 ∨ brk 2 c xx yy (vF F i) = false) → EJ θ x 126 [(0, .ref mo), (1, .int (nI r)), (2, .int (nI i)), (3, .int (vF F i c))] [] ph 0 0 := by
        intro h
        refine e_iconst (v := 0) hX iX12_breaks_126 (by decide) ?_
        have e0 : brk kd c xx yy (vF F i) = false := by
          by_cases k2 : kd = 2
          · rw [k2]; exact h.resolve_left (fun q => q k2)
          · unfold brk; rw [if_neg k0, if_neg k1, if_neg k2]
        exact e_zret hX hQ iX12_breaks_127 rfl nar_0 (by decide) (by decide) ⟨by rw [e0]; rfl, rfl⟩
      refine e_aload_n hX 0 iX12_breaks_75 rfl rfl ?_
      refine e_get hX iX12_breaks_76 hm.1 rfl ?_
      refine e_iload_n hX 1 iX12_breaks_79 rfl rfl ?_
      refine e_iald hX r iX12_breaks_80 (hm.i 3 (by decide) (by decide)) rfl (by show _ < 10; omega) (by show 10 < _; decide) ?_
      rw [r3']
      refine e_iconst (v := 2) hX iX12_breaks_81 (by decide) ?_
      refine e_icmp_ne hX iX12_breaks_82 (fun c82 => ?_) (fun c82 => ?_)
      · exact no (Or.inl (fun e => c82 (by rw [e]; rfl)))
      · have k2 : kd = 2 := (nI_eq (by omega) (by decide)).mp c82
        obtain ⟨c2, hc2, hxx⟩ := h2 k2
        have hxx' : xx = nI c2 := hxx
        have eb : brk 2 c xx yy (vF F i) = (pres (vF F i c) && (pres (vF F i c2) && decide (vF F i c2 < vF F i c))) := by
          show (pres (vF F i c) && (pres (vF F i (ix xx)) && decide (vF F i (ix xx) < vF F i c))) = _
          rw [hxx', ix_n (by omega)]
        refine e_iload_n hX 3 iX12_breaks_85 rfl rfl ?_
        refine e_bipush (v := 100) hX iX12_breaks_86 (by decide) ?_
        refine e_icmp_eq hX iX12_breaks_88 (fun c88 => ?_) (fun c88 => ?_)
        · exact no (Or.inr (by rw [eb]; exact and_f1 (pr _ c88)))
        · refine e_aload_n hX 0 iX12_breaks_91 rfl rfl ?_
          refine e_iload_n hX 2 iX12_breaks_92 rfl rfl ?_
          refine e_aload_n hX 0 iX12_breaks_93 rfl rfl ?_
          refine e_get hX iX12_breaks_94 hm.1 rfl ?_
          refine e_iload_n hX 1 iX12_breaks_97 rfl rfl ?_
          refine e_iald hX r iX12_breaks_98 (hm.i 5 (by decide) (by decide)) rfl (by show _ < 10; omega) (by show 10 < _; decide) ?_
          rw [r5', hxx']
          refine e_callV hX iX12_breaks_99 hm.1 (n_at htr hm hi hc2) rfl rfl ⟨by decide, by decide, by decide, by decide⟩ (Nat.le_of_ble_eq_true rfl) (fun _ _ h => h.elim) (fun v9 ph9 hv9 => ?_)
          obtain ⟨rfl, e9⟩ := hv9
          subst ph9
          refine e_bipush (v := 100) hX iX12_breaks_102 (by decide) ?_
          refine e_icmp_eq hX iX12_breaks_104 (fun c104 => ?_) (fun c104 => ?_)
          · refine e_loc [0, 1, 2, 3] ?_
            exact no (Or.inr (by rw [eb]; exact and_f2 (and_f1 (pr _ c104))))
          · refine e_iload_n hX 3 iX12_breaks_107 rfl rfl ?_
            refine e_aload_n hX 0 iX12_breaks_108 rfl rfl ?_
            refine e_iload_n hX 2 iX12_breaks_109 rfl rfl ?_
            refine e_aload_n hX 0 iX12_breaks_110 rfl rfl ?_
            refine e_get hX iX12_breaks_111 hm.1 rfl ?_
            refine e_iload_n hX 1 iX12_breaks_114 rfl rfl ?_
            refine e_iald hX r iX12_breaks_115 (hm.i 5 (by decide) (by decide)) rfl (by show _ < 10; omega) (by show 10 < _; decide) ?_
            rw [r5', hxx']
            refine e_callV hX iX12_breaks_116 hm.1 (n_at htr hm hi hc2) rfl rfl ⟨by decide, by decide, by decide, by decide⟩ (Nat.le_of_ble_eq_true rfl) (fun _ _ h => h.elim) (fun v9 ph9 hv9 => ?_)
            obtain ⟨rfl, e9⟩ := hv9
            subst ph9
            refine e_icmp_le hX iX12_breaks_119 (fun c119 => ?_) (fun c119 => ?_)
            · refine e_loc [0, 1, 2, 3] ?_
              exact no (Or.inr (by rw [eb]; exact and_f2 (and_f2 (decide_eq_false (Int32.not_lt.mpr c119)))))
            · refine e_iconst (v := 1) hX iX12_breaks_122 (by decide) ?_
              refine e_goto hX iX12_breaks_123 ?_
              exact e_zret hX hQ iX12_breaks_127 rfl nar_1 (by decide) (by decide) ⟨by rw [k2, eb, and_tt (pt _ c88) (and_tt (pt _ c104) (decide_eq_true (Int32.not_le.mp c119)))]; rfl, rfl⟩
    · have k1 : kd = 1 := (nI_eq (by omega) (by decide)).mp c60
      have eb : brk kd c xx yy (vF F i) = !pres (vF F i c) := by rw [k1]; rfl
      refine e_iload_n hX 3 iX12_breaks_63 rfl rfl ?_
      refine e_bipush (v := 100) hX iX12_breaks_64 (by decide) ?_
      refine e_icmp_ne hX iX12_breaks_66 (fun c66 => ?_) (fun c66 => ?_)
      · refine e_iconst (v := 0) hX iX12_breaks_73 (by decide) ?_
        exact e_zret hX hQ iX12_breaks_74 rfl nar_0 (by decide) (by decide) ⟨by rw [eb, pt _ c66]; rfl, rfl⟩
      · refine e_iconst (v := 1) hX iX12_breaks_69 (by decide) ?_
        refine e_goto hX iX12_breaks_70 ?_
        exact e_zret hX hQ iX12_breaks_74 rfl nar_1 (by decide) (by decide) ⟨by rw [eb, pr _ c66]; rfl, rfl⟩
  · have k0 : kd = 0 := by
      rcases Nat.eq_zero_or_pos kd with e | e
      · exact e
      · exact absurd c18 (nI_ne0 e (by omega))
    have eb : brk kd c xx yy (vF F i) = (pres (vF F i c) && (decide (vF F i c < xx) || decide (yy < vF F i c))) := by rw [k0]; rfl
    have no : brk kd c xx yy (vF F i) = false → EJ θ x 51 [(0, .ref mo), (1, .int (nI r)), (2, .int (nI i)), (3, .int (vF F i c))] [] ph 0 0 := by
      intro h
      refine e_iconst (v := 0) hX iX12_breaks_51 (by decide) ?_
      exact e_zret hX hQ iX12_breaks_52 rfl nar_0 (by decide) (by decide) ⟨by rw [h]; rfl, rfl⟩
    have yes : brk kd c xx yy (vF F i) = true → EJ θ x 47 [(0, .ref mo), (1, .int (nI r)), (2, .int (nI i)), (3, .int (vF F i c))] [] ph 0 0 := by
      intro h
      refine e_iconst (v := 1) hX iX12_breaks_47 (by decide) ?_
      refine e_goto hX iX12_breaks_48 ?_
      exact e_zret hX hQ iX12_breaks_52 rfl nar_1 (by decide) (by decide) ⟨by rw [h]; rfl, rfl⟩
    refine e_iload_n hX 3 iX12_breaks_21 rfl rfl ?_
    refine e_bipush (v := 100) hX iX12_breaks_22 (by decide) ?_
    refine e_icmp_eq hX iX12_breaks_24 (fun c24 => ?_) (fun c24 => ?_)
    · exact no (by rw [eb]; exact and_f1 (pr _ c24))
    · refine e_iload_n hX 3 iX12_breaks_27 rfl rfl ?_
      refine e_aload_n hX 0 iX12_breaks_28 rfl rfl ?_
      refine e_get hX iX12_breaks_29 hm.1 rfl ?_
      refine e_iload_n hX 1 iX12_breaks_32 rfl rfl ?_
      refine e_iald hX r iX12_breaks_33 (hm.i 5 (by decide) (by decide)) rfl (by show _ < 10; omega) (by show 10 < _; decide) ?_
      rw [r5']
      refine e_icmp_lt hX iX12_breaks_34 (fun c34 => ?_) (fun c34 => ?_)
      · exact yes (by rw [eb]; exact and_tt (pt _ c24) (or_t1 (decide_eq_true c34)))
      · refine e_iload_n hX 3 iX12_breaks_37 rfl rfl ?_
        refine e_aload_n hX 0 iX12_breaks_38 rfl rfl ?_
        refine e_get hX iX12_breaks_39 hm.1 rfl ?_
        refine e_iload_n hX 1 iX12_breaks_42 rfl rfl ?_
        refine e_iald hX r iX12_breaks_43 (hm.i 6 (by decide) (by decide)) rfl (by show _ < 10; omega) (by show 10 < _; decide) ?_
        rw [r6']
        refine e_icmp_le hX iX12_breaks_44 (fun c44 => ?_) (fun c44 => ?_)
        · exact no (by rw [eb]; exact and_f2 (or_ff (decide_eq_false c34) (decide_eq_false (Int32.not_lt.mpr c44))))
        · exact yes (by rw [eb]; exact and_tt (pt _ c24) (or_t2 (decide_eq_true (Int32.not_le.mp c44))))
theorem n_alike (htr : l.stackTraces = false) (hm : MI θ ph mo μ s F) (y : Int32) {i j : Nat} (hi : i < 18) (hj : j < 18) : MC yX12_alike cX12_alike 6 (some .boolean) 1 0 0 l θ [.ref mo, .int y, .int (nI i), .int (nI j)] ph (fun z p => z = some (.int (b2i (eqIn y (vF F i) (vF F j)))) ∧ p = ph) (fun _ _ => False) := by
  refine MC.of htr (by decide) (Nat.le_of_ble_eq_true rfl) ?_
  intro x hX hQ hT
  let P : Nat → Bool := fun c => !sb y c || decide (vF F i c = vF F j c)
  have loop : ∀ (q c : Nat), 5 - c < q → c ≤ 5 → EJ θ x 6 [(0, .ref mo), (1, .int y), (2, .int (nI i)), (3, .int (nI j)), (4, .int (b2i (allB c P))), (5, .int (nI c))] [] ph 0 0 := by
    intro q
    induction q with
    | zero => intro c hg; omega
    | succ q ih =>
      intro c hq hc
      have back : ∀ b, allB (c + 1) P = b → c < 5 → EJ θ x 48 [(0, .ref mo), (1, .int y), (2, .int (nI i)), (3, .int (nI j)), (4, .int (b2i (allB c P))), (5, .int (nI c))] [.int (b2i b)] ph 0 0 := by
        intro b hb hc5
        refine e_istore hX iX12_alike_48 (by decide) ?_
        refine e_iinc hX iX12_alike_50 rfl (by first | exact nI_inc _ | rfl) (by decide) ?_
        refine e_goto hX iX12_alike_53 ?_
        refine e_loc [0, 1, 2, 3, 4, 5] ?_
        have := ih (c + 1) (by omega) (by omega)
        rw [hb] at this
        exact this
      refine e_iload hX iX12_alike_6 rfl ?_
      refine e_iconst (v := 5) hX iX12_alike_8 (by decide) ?_
      refine e_icmp_ge hX iX12_alike_9 (fun c9 => ?_) (fun c9 => ?_)
      · have hin := nI_same hc (by decide) c9
        subst hin
        refine e_iload hX iX12_alike_56 rfl ?_
        exact e_zret hX hQ iX12_alike_58 rfl (nar_b _) (by decide) (by decide) ⟨by rw [eqIn_all], rfl⟩
      · have hin := nI_less hc (by decide) c9
        refine e_iload hX iX12_alike_12 rfl ?_
        refine e_if_eq hX iX12_alike_14 (fun c14 => ?_) (fun c14 => ?_)
        · refine e_iconst (v := 0) hX iX12_alike_47 (by decide) ?_
          exact back false (by rw [allB_s, b2i_0.mp c14]; rfl) hin
        · have hp := b2i_n0.mp c14
          refine e_iload_n hX 1 iX12_alike_17 rfl rfl ?_
          refine e_iload hX iX12_alike_18 rfl ?_
          refine e_ishr hX iX12_alike_20 ?_
          refine e_iconst (v := 1) hX iX12_alike_21 (by decide) ?_
          refine e_iand hX iX12_alike_22 ?_
          refine e_if_eq hX iX12_alike_23 (fun c23 => ?_) (fun c23 => ?_)
          · refine e_iconst (v := 1) hX iX12_alike_43 (by decide) ?_
            refine e_goto hX iX12_alike_44 ?_
            exact back true (by rw [allB_s, hp]; exact or_t1 (by rw [sb_0.mp c23]; rfl)) hin
          · have hs : sb y c = true := by
              rcases and1 (y >>> (nI c &&& 31)) with e | e
              · exact absurd e c23
              · exact sb_1.mp e
            refine e_aload_n hX 0 iX12_alike_26 rfl rfl ?_
            refine e_iload_n hX 2 iX12_alike_27 rfl rfl ?_
            refine e_iload hX iX12_alike_28 rfl ?_
            refine e_callV hX iX12_alike_30 hm.1 (n_at htr hm hi hin) rfl rfl ⟨by decide, by decide, by decide, by decide⟩ (Nat.le_of_ble_eq_true rfl) (fun _ _ h => h.elim) (fun v9 ph9 hv9 => ?_)
            obtain ⟨rfl, e9⟩ := hv9
            subst ph9
            refine e_aload_n hX 0 iX12_alike_33 rfl rfl ?_
            refine e_iload_n hX 3 iX12_alike_34 rfl rfl ?_
            refine e_iload hX iX12_alike_35 rfl ?_
            refine e_callV hX iX12_alike_37 hm.1 (n_at htr hm hj hin) rfl rfl ⟨by decide, by decide, by decide, by decide⟩ (Nat.le_of_ble_eq_true rfl) (fun _ _ h => h.elim) (fun v9 ph9 hv9 => ?_)
            obtain ⟨rfl, e9⟩ := hv9
            subst ph9
            refine e_icmp_ne hX iX12_alike_40 (fun c40 => ?_) (fun c40 => ?_)
            · refine e_iconst (v := 0) hX iX12_alike_47 (by decide) ?_
              refine e_loc [0, 1, 2, 3, 4, 5] ?_
              exact back false (by rw [allB_s, hp]; exact or_ff (by rw [hs]; rfl) (decide_eq_false c40)) hin
            · refine e_iconst (v := 1) hX iX12_alike_43 (by decide) ?_
              refine e_goto hX iX12_alike_44 ?_
              refine e_loc [0, 1, 2, 3, 4, 5] ?_
              exact back true (by rw [allB_s, hp]; exact or_t2 (decide_eq_true c40)) hin
  refine e_iconst (v := 1) hX iX12_alike_0 (by decide) ?_
  refine e_istore hX iX12_alike_1 (by decide) ?_
  refine e_iconst (v := 0) hX iX12_alike_3 (by decide) ?_
  refine e_istore hX iX12_alike_4 (by decide) ?_
  refine e_loc [0, 1, 2, 3, 4, 5] ?_
  exact loop 6 0 (by omega) (by omega)
theorem n_clash (htr : l.stackTraces = false) (hm : MI θ ph mo μ s F) {r i j : Nat} {ρ : RU} (hr : r < 10) (hi : i < 18) (hj : j < 18) (hρ : mrule F r ρ) : MC yX12_clash cX12_clash 4 (some .boolean) 2 0 0 l θ [.ref mo, .int (nI r), .int (nI i), .int (nI j)] ph (fun z p => z = some (.int (b2i (clsR ρ (vF F i) (vF F j)))) ∧ p = ph) (fun _ _ => False) := by
  obtain ⟨r3, r4, r5, r6, hk, hc, h2⟩ := hρ
  obtain ⟨kd, c, xx, yy, sst, dr⟩ := ρ
  have r3' : F 3 r = nI kd := r3
  have r4' : F 4 r = nI c := r4
  have r5' : F 5 r = xx := r5
  have hc' : c < 5 := hc
  have hk' : kd < 5 := hk
  show MC yX12_clash cX12_clash 4 (some .boolean) 2 0 0 l θ [.ref mo, .int (nI r), .int (nI i), .int (nI j)] ph (fun z p => z = some (.int (b2i (cls kd c xx (vF F i) (vF F j)))) ∧ p = ph) (fun _ _ => False)
  refine MC.of htr (by decide) (Nat.le_of_ble_eq_true rfl) ?_
  intro x hX hQ hT
  refine e_aload_n hX 0 iX12_clash_0 rfl rfl ?_
  refine e_get hX iX12_clash_1 hm.1 rfl ?_
  refine e_iload_n hX 1 iX12_clash_4 rfl rfl ?_
  refine e_iald hX r iX12_clash_5 (hm.i 3 (by decide) (by decide)) rfl (by show _ < 10; omega) (by show 10 < _; decide) ?_
  rw [r3']
  refine e_iconst (v := 3) hX iX12_clash_6 (by decide) ?_
  refine e_icmp_ne hX iX12_clash_7 (fun c7 => ?_) (fun c7 => ?_)
  · have k3 : ¬ kd = 3 := fun e => c7 (by rw [e]; rfl)
    have no : (¬ kd = 4 ∨ cls 4 c xx (vF F i) (vF F j) = false) → EJ θ x 111 [(0, .ref mo), (1, .int (nI r)), (2, .int (nI i)), (3, .int (nI j))] [] ph 0 0 := by
      intro h
      refine e_iconst (v := 0) hX iX12_clash_111 (by decide) ?_
      have e0 : cls kd c xx (vF F i) (vF F j) = false := by
        by_cases k4 : kd = 4
        · rw [k4]; exact h.resolve_left (fun q => q k4)
        · unfold cls; rw [if_neg k3, if_neg k4]
      exact e_zret hX hQ iX12_clash_112 rfl nar_0 (by decide) (by decide) ⟨by rw [e0]; rfl, rfl⟩
    refine e_aload_n hX 0 iX12_clash_57 rfl rfl ?_
    refine e_get hX iX12_clash_58 hm.1 rfl ?_
    refine e_iload_n hX 1 iX12_clash_61 rfl rfl ?_
    refine e_iald hX r iX12_clash_62 (hm.i 3 (by decide) (by decide)) rfl (by show _ < 10; omega) (by show 10 < _; decide) ?_
    rw [r3']
    refine e_iconst (v := 4) hX iX12_clash_63 (by decide) ?_
    refine e_icmp_ne hX iX12_clash_64 (fun c64 => ?_) (fun c64 => ?_)
    · exact no (Or.inl (fun e => c64 (by rw [e]; rfl)))
    · have k4 : kd = 4 := (nI_eq (by omega) (by decide)).mp c64
      have eb : cls 4 c xx (vF F i) (vF F j) = (!decide (vF F i c = vF F j c) && eqIn xx (vF F i) (vF F j)) := rfl
      refine e_aload_n hX 0 iX12_clash_67 rfl rfl ?_
      refine e_aload_n hX 0 iX12_clash_68 rfl rfl ?_
      refine e_get hX iX12_clash_69 hm.1 rfl ?_
      refine e_iload_n hX 1 iX12_clash_72 rfl rfl ?_
      refine e_iald hX r iX12_clash_73 (hm.i 5 (by decide) (by decide)) rfl (by show _ < 10; omega) (by show 10 < _; decide) ?_
      rw [r5']
      refine e_iload_n hX 2 iX12_clash_74 rfl rfl ?_
      refine e_iload_n hX 3 iX12_clash_75 rfl rfl ?_
      refine e_callV hX iX12_clash_76 hm.1 (n_alike htr hm xx hi hj) rfl rfl ⟨by decide, by decide, by decide, by decide⟩ (Nat.le_of_ble_eq_true rfl) (fun _ _ h => h.elim) (fun v9 ph9 hv9 => ?_)
      obtain ⟨rfl, e9⟩ := hv9
      subst ph9
      refine e_if_eq hX iX12_clash_79 (fun c79 => ?_) (fun c79 => ?_)
      · refine e_loc [0, 1, 2, 3] ?_
        exact no (Or.inr (by rw [eb]; exact and_f2 (b2i_0.mp c79)))
      · refine e_aload_n hX 0 iX12_clash_82 rfl rfl ?_
        refine e_iload_n hX 2 iX12_clash_83 rfl rfl ?_
        refine e_aload_n hX 0 iX12_clash_84 rfl rfl ?_
        refine e_get hX iX12_clash_85 hm.1 rfl ?_
        refine e_iload_n hX 1 iX12_clash_88 rfl rfl ?_
        refine e_iald hX r iX12_clash_89 (hm.i 4 (by decide) (by decide)) rfl (by show _ < 10; omega) (by show 10 < _; decide) ?_
        rw [r4']
        refine e_callV hX iX12_clash_90 hm.1 (n_at htr hm hi hc') rfl rfl ⟨by decide, by decide, by decide, by decide⟩ (Nat.le_of_ble_eq_true rfl) (fun _ _ h => h.elim) (fun v9 ph9 hv9 => ?_)
        obtain ⟨rfl, e9⟩ := hv9
        subst ph9
        refine e_aload_n hX 0 iX12_clash_93 rfl rfl ?_
        refine e_iload_n hX 3 iX12_clash_94 rfl rfl ?_
        refine e_aload_n hX 0 iX12_clash_95 rfl rfl ?_
        refine e_get hX iX12_clash_96 hm.1 rfl ?_
        refine e_iload_n hX 1 iX12_clash_99 rfl rfl ?_
        refine e_iald hX r iX12_clash_100 (hm.i 4 (by decide) (by decide)) rfl (by show _ < 10; omega) (by show 10 < _; decide) ?_
        rw [r4']
        refine e_callV hX iX12_clash_101 hm.1 (n_at htr hm hj hc') rfl rfl ⟨by decide, by decide, by decide, by decide⟩ (Nat.le_of_ble_eq_true rfl) (fun _ _ h => h.elim) (fun v9 ph9 hv9 => ?_)
        obtain ⟨rfl, e9⟩ := hv9
        subst ph9
        refine e_icmp_eq hX iX12_clash_104 (fun c104 => ?_) (fun c104 => ?_)
        · refine e_loc [0, 1, 2, 3] ?_
          exact no (Or.inr (by rw [eb]; exact and_f1 (by rw [decide_eq_true c104]; rfl)))
        · refine e_iconst (v := 1) hX iX12_clash_107 (by decide) ?_
          refine e_goto hX iX12_clash_108 ?_
          exact e_zret hX hQ iX12_clash_112 rfl nar_1 (by decide) (by decide) ⟨by rw [k4, eb, decide_eq_false c104, b2i_n0.mp c79]; rfl, rfl⟩
  · have k3 : kd = 3 := (nI_eq (by omega) (by decide)).mp c7
    have eb : cls kd c xx (vF F i) (vF F j) = (pres (vF F i c) && decide (vF F i c = vF F j c)) := by rw [k3]; rfl
    have no : cls kd c xx (vF F i) (vF F j) = false → EJ θ x 55 [(0, .ref mo), (1, .int (nI r)), (2, .int (nI i)), (3, .int (nI j))] [] ph 0 0 := by
      intro h
      refine e_iconst (v := 0) hX iX12_clash_55 (by decide) ?_
      exact e_zret hX hQ iX12_clash_56 rfl nar_0 (by decide) (by decide) ⟨by rw [h]; rfl, rfl⟩
    refine e_aload_n hX 0 iX12_clash_10 rfl rfl ?_
    refine e_iload_n hX 2 iX12_clash_11 rfl rfl ?_
    refine e_aload_n hX 0 iX12_clash_12 rfl rfl ?_
    refine e_get hX iX12_clash_13 hm.1 rfl ?_
    refine e_iload_n hX 1 iX12_clash_16 rfl rfl ?_
    refine e_iald hX r iX12_clash_17 (hm.i 4 (by decide) (by decide)) rfl (by show _ < 10; omega) (by show 10 < _; decide) ?_
    rw [r4']
    refine e_callV hX iX12_clash_18 hm.1 (n_at htr hm hi hc') rfl rfl ⟨by decide, by decide, by decide, by decide⟩ (Nat.le_of_ble_eq_true rfl) (fun _ _ h => h.elim) (fun v9 ph9 hv9 => ?_)
    obtain ⟨rfl, e9⟩ := hv9
    subst ph9
    refine e_bipush (v := 100) hX iX12_clash_21 (by decide) ?_
    refine e_icmp_eq hX iX12_clash_23 (fun c23 => ?_) (fun c23 => ?_)
    · refine e_loc [0, 1, 2, 3] ?_
      exact no (by rw [eb]; exact and_f1 (by unfold pres; rw [c23]; rfl))
    · refine e_aload_n hX 0 iX12_clash_26 rfl rfl ?_
      refine e_iload_n hX 2 iX12_clash_27 rfl rfl ?_
      refine e_aload_n hX 0 iX12_clash_28 rfl rfl ?_
      refine e_get hX iX12_clash_29 hm.1 rfl ?_
      refine e_iload_n hX 1 iX12_clash_32 rfl rfl ?_
      refine e_iald hX r iX12_clash_33 (hm.i 4 (by decide) (by decide)) rfl (by show _ < 10; omega) (by show 10 < _; decide) ?_
      rw [r4']
      refine e_callV hX iX12_clash_34 hm.1 (n_at htr hm hi hc') rfl rfl ⟨by decide, by decide, by decide, by decide⟩ (Nat.le_of_ble_eq_true rfl) (fun _ _ h => h.elim) (fun v9 ph9 hv9 => ?_)
      obtain ⟨rfl, e9⟩ := hv9
      subst ph9
      refine e_aload_n hX 0 iX12_clash_37 rfl rfl ?_
      refine e_iload_n hX 3 iX12_clash_38 rfl rfl ?_
      refine e_aload_n hX 0 iX12_clash_39 rfl rfl ?_
      refine e_get hX iX12_clash_40 hm.1 rfl ?_
      refine e_iload_n hX 1 iX12_clash_43 rfl rfl ?_
      refine e_iald hX r iX12_clash_44 (hm.i 4 (by decide) (by decide)) rfl (by show _ < 10; omega) (by show 10 < _; decide) ?_
      rw [r4']
      refine e_callV hX iX12_clash_45 hm.1 (n_at htr hm hj hc') rfl rfl ⟨by decide, by decide, by decide, by decide⟩ (Nat.le_of_ble_eq_true rfl) (fun _ _ h => h.elim) (fun v9 ph9 hv9 => ?_)
      obtain ⟨rfl, e9⟩ := hv9
      subst ph9
      refine e_icmp_ne hX iX12_clash_48 (fun c48 => ?_) (fun c48 => ?_)
      · refine e_loc [0, 1, 2, 3] ?_
        exact no (by rw [eb]; exact and_f2 (decide_eq_false c48))
      · refine e_iconst (v := 1) hX iX12_clash_51 (by decide) ?_
        refine e_goto hX iX12_clash_52 ?_
        exact e_zret hX hQ iX12_clash_56 rfl nar_1 (by decide) (by decide) ⟨by rw [eb, show pres (vF F i c) = true from decide_eq_true c23, decide_eq_true c48]; rfl, rfl⟩
/-- the rules that the cells hold -/
def mrules (F : Nat → Nat → Int32) (k : Nat) (R : Nat → RU) : Prop := ∀ r, r < k → mrule F r (R r) ∧ F 7 r = b2i (stR (R r)) ∧ F 8 r = b2i (drR (R r))
theorem n_badRow (htr : l.stackTraces = false) (hm : MI θ ph mo μ s F) {k i : Nat} {R : Nat → RU} (h7 : s 7 = nI k) (hk : k ≤ 10) (hR : mrules F k R) (hi : i < 18) : MC yX12_badRow cX12_badRow 4 (some .boolean) 2 0 0 l θ [.ref mo, .int (nI i)] ph (fun z p => z = some (.int (b2i (badB k R (vF F i)))) ∧ p = ph) (fun _ _ => False) := by
  refine MC.of htr (by decide) (Nat.le_of_ble_eq_true rfl) ?_
  intro x hX hQ hT
  let P : Nat → Bool := fun r => !drR (R r) && brkR (R r) (vF F i)
  have loop : ∀ (q r : Nat), k - r < q → r ≤ k → EJ θ x 4 [(0, .ref mo), (1, .int (nI i)), (2, .int (b2i (anyB r P))), (3, .int (nI r))] [] ph 0 0 := by
    intro q
    induction q with
    | zero => intro r hg; omega
    | succ q ih =>
      intro r hq hr
      have back : ∀ b, anyB (r + 1) P = b → r < k → EJ θ x 39 [(0, .ref mo), (1, .int (nI i)), (2, .int (b2i (anyB r P))), (3, .int (nI r))] [.int (b2i b)] ph 0 0 := by
        intro b hb hrk
        refine e_istore_n hX 2 iX12_badRow_39 rfl (by decide) ?_
        refine e_iinc hX iX12_badRow_40 rfl (by first | exact nI_inc _ | rfl) (by decide) ?_
        refine e_goto hX iX12_badRow_43 ?_
        refine e_loc [0, 1, 2, 3] ?_
        have := ih (r + 1) (by omega) (by omega)
        rw [hb] at this
        exact this
      refine e_iload_n hX 3 iX12_badRow_4 rfl rfl ?_
      refine e_aload_n hX 0 iX12_badRow_5 rfl rfl ?_
      refine e_get hX iX12_badRow_6 hm.1 rfl ?_
      rw [h7]
      refine e_icmp_ge hX iX12_badRow_9 (fun c9 => ?_) (fun c9 => ?_)
      · have hin := nI_same hr (by omega) c9
        subst hin
        refine e_iload_n hX 2 iX12_badRow_46 rfl rfl ?_
        exact e_zret hX hQ iX12_badRow_47 rfl (nar_b _) (by decide) (by decide) ⟨rfl, rfl⟩
      · have hin := nI_less hr (by omega) c9
        obtain ⟨q1, -, q2⟩ := hR r hin
        refine e_iload_n hX 2 iX12_badRow_12 rfl rfl ?_
        refine e_if_ne hX iX12_badRow_13 (fun c13 => ?_) (fun c13 => ?_)
        · refine e_iconst (v := 1) hX iX12_badRow_34 (by decide) ?_
          refine e_goto hX iX12_badRow_35 ?_
          exact back true (by rw [anyB_s, b2i_n0.mp c13]; rfl) hin
        · have hp := b2i_0.mp c13
          refine e_aload_n hX 0 iX12_badRow_16 rfl rfl ?_
          refine e_get hX iX12_badRow_17 hm.1 rfl ?_
          refine e_iload_n hX 3 iX12_badRow_20 rfl rfl ?_
          refine e_zald hX r iX12_badRow_21 (hm.z 8 (by decide) (by decide)) rfl (by omega) (by decide) ?_
          rw [q2]
          refine e_if_ne hX iX12_badRow_22 (fun c22 => ?_) (fun c22 => ?_)
          · refine e_iconst (v := 0) hX iX12_badRow_38 (by decide) ?_
            exact back false (by rw [anyB_s, hp]; exact and_f1 (by rw [b2i_n0.mp c22]; rfl)) hin
          · refine e_aload_n hX 0 iX12_badRow_25 rfl rfl ?_
            refine e_iload_n hX 3 iX12_badRow_26 rfl rfl ?_
            refine e_iload_n hX 1 iX12_badRow_27 rfl rfl ?_
            refine e_callV hX iX12_badRow_28 hm.1 (n_breaks htr hm (show r < 10 by omega) hi q1) rfl rfl ⟨by decide, by decide, by decide, by decide⟩ (Nat.le_of_ble_eq_true rfl) (fun _ _ h => h.elim) (fun v9 ph9 hv9 => ?_)
            obtain ⟨rfl, e9⟩ := hv9
            subst ph9
            refine e_if_eq hX iX12_badRow_31 (fun c31 => ?_) (fun c31 => ?_)
            · refine e_iconst (v := 0) hX iX12_badRow_38 (by decide) ?_
              refine e_loc [0, 1, 2, 3] ?_
              exact back false (by rw [anyB_s, hp]; exact and_f2 (b2i_0.mp c31)) hin
            · refine e_iconst (v := 1) hX iX12_badRow_34 (by decide) ?_
              refine e_goto hX iX12_badRow_35 ?_
              refine e_loc [0, 1, 2, 3] ?_
              exact back true (by rw [anyB_s, hp]; exact and_tt (by rw [b2i_0.mp c22]; rfl) (b2i_n0.mp c31)) hin
  refine e_iconst (v := 0) hX iX12_badRow_0 (by decide) ?_
  refine e_istore_n hX 2 iX12_badRow_1 rfl (by decide) ?_
  refine e_iconst (v := 0) hX iX12_badRow_2 (by decide) ?_
  refine e_istore_n hX 3 iX12_badRow_3 rfl (by decide) ?_
  refine e_loc [0, 1, 2, 3] ?_
  exact loop (k + 1) 0 (by omega) (by omega)
theorem n_conflicts (htr : l.stackTraces = false) (hm : MI θ ph mo μ s F) {k i j : Nat} {R : Nat → RU} (h7 : s 7 = nI k) (hk : k ≤ 10) (hR : mrules F k R) (hi : i < 18) (hj : j < 18) : MC yX12_conflicts cX12_conflicts 5 (some .boolean) 3 0 0 l θ [.ref mo, .int (nI i), .int (nI j)] ph (fun z p => z = some (.int (b2i (conB k R (vF F i) (vF F j)))) ∧ p = ph) (fun _ _ => False) := by
  refine MC.of htr (by decide) (Nat.le_of_ble_eq_true rfl) ?_
  intro x hX hQ hT
  let P : Nat → Bool := fun r => !drR (R r) && clsR (R r) (vF F i) (vF F j)
  have loop : ∀ (q r : Nat), k - r < q → r ≤ k → EJ θ x 5 [(0, .ref mo), (1, .int (nI i)), (2, .int (nI j)), (3, .int (b2i (anyB r P))), (4, .int (nI r))] [] ph 0 0 := by
    intro q
    induction q with
    | zero => intro r hg; omega
    | succ q ih =>
      intro r hq hr
      have back : ∀ b, anyB (r + 1) P = b → r < k → EJ θ x 44 [(0, .ref mo), (1, .int (nI i)), (2, .int (nI j)), (3, .int (b2i (anyB r P))), (4, .int (nI r))] [.int (b2i b)] ph 0 0 := by
        intro b hb hrk
        refine e_istore_n hX 3 iX12_conflicts_44 rfl (by decide) ?_
        refine e_iinc hX iX12_conflicts_45 rfl (by first | exact nI_inc _ | rfl) (by decide) ?_
        refine e_goto hX iX12_conflicts_48 ?_
        refine e_loc [0, 1, 2, 3, 4] ?_
        have := ih (r + 1) (by omega) (by omega)
        rw [hb] at this
        exact this
      refine e_iload hX iX12_conflicts_5 rfl ?_
      refine e_aload_n hX 0 iX12_conflicts_7 rfl rfl ?_
      refine e_get hX iX12_conflicts_8 hm.1 rfl ?_
      rw [h7]
      refine e_icmp_ge hX iX12_conflicts_11 (fun c11 => ?_) (fun c11 => ?_)
      · have hin := nI_same hr (by omega) c11
        subst hin
        refine e_iload_n hX 3 iX12_conflicts_51 rfl rfl ?_
        exact e_zret hX hQ iX12_conflicts_52 rfl (nar_b _) (by decide) (by decide) ⟨rfl, rfl⟩
      · have hin := nI_less hr (by omega) c11
        obtain ⟨q1, -, q2⟩ := hR r hin
        refine e_iload_n hX 3 iX12_conflicts_14 rfl rfl ?_
        refine e_if_ne hX iX12_conflicts_15 (fun c15 => ?_) (fun c15 => ?_)
        · refine e_iconst (v := 1) hX iX12_conflicts_39 (by decide) ?_
          refine e_goto hX iX12_conflicts_40 ?_
          exact back true (by rw [anyB_s, b2i_n0.mp c15]; rfl) hin
        · have hp := b2i_0.mp c15
          refine e_aload_n hX 0 iX12_conflicts_18 rfl rfl ?_
          refine e_get hX iX12_conflicts_19 hm.1 rfl ?_
          refine e_iload hX iX12_conflicts_22 rfl ?_
          refine e_zald hX r iX12_conflicts_24 (hm.z 8 (by decide) (by decide)) rfl (by omega) (by decide) ?_
          rw [q2]
          refine e_if_ne hX iX12_conflicts_25 (fun c25 => ?_) (fun c25 => ?_)
          · refine e_iconst (v := 0) hX iX12_conflicts_43 (by decide) ?_
            exact back false (by rw [anyB_s, hp]; exact and_f1 (by rw [b2i_n0.mp c25]; rfl)) hin
          · refine e_aload_n hX 0 iX12_conflicts_28 rfl rfl ?_
            refine e_iload hX iX12_conflicts_29 rfl ?_
            refine e_iload_n hX 1 iX12_conflicts_31 rfl rfl ?_
            refine e_iload_n hX 2 iX12_conflicts_32 rfl rfl ?_
            refine e_callV hX iX12_conflicts_33 hm.1 (n_clash htr hm (show r < 10 by omega) hi hj q1) rfl rfl ⟨by decide, by decide, by decide, by decide⟩ (Nat.le_of_ble_eq_true rfl) (fun _ _ h => h.elim) (fun v9 ph9 hv9 => ?_)
            obtain ⟨rfl, e9⟩ := hv9
            subst ph9
            refine e_if_eq hX iX12_conflicts_36 (fun c36 => ?_) (fun c36 => ?_)
            · refine e_iconst (v := 0) hX iX12_conflicts_43 (by decide) ?_
              refine e_loc [0, 1, 2, 3, 4] ?_
              exact back false (by rw [anyB_s, hp]; exact and_f2 (b2i_0.mp c36)) hin
            · refine e_iconst (v := 1) hX iX12_conflicts_39 (by decide) ?_
              refine e_goto hX iX12_conflicts_40 ?_
              refine e_loc [0, 1, 2, 3, 4] ?_
              exact back true (by rw [anyB_s, hp]; exact and_tt (by rw [b2i_0.mp c25]; rfl) (b2i_n0.mp c36)) hin
  refine e_iconst (v := 0) hX iX12_conflicts_0 (by decide) ?_
  refine e_istore_n hX 3 iX12_conflicts_1 rfl (by decide) ?_
  refine e_iconst (v := 0) hX iX12_conflicts_2 (by decide) ?_
  refine e_istore hX iX12_conflicts_3 (by decide) ?_
  refine e_loc [0, 1, 2, 3, 4] ?_
  exact loop (k + 1) 0 (by omega) (by omega)
end MOB
