theorem c_isIn {l : Launch} (htr : l.stackTraces = false) {θ : e_T} {ph : e_PH} (i : Nat) (b : Int32) : MC yX11_isIn cX11_isIn 2 (some .boolean) 0 0 0 l θ [.int (nI i), .int b] ph (fun z p => z = some (.int (b2i (sb b i))) ∧ p = ph) (fun _ _ => False) := by
  refine MC.of htr (by decide) (Nat.le_of_ble_eq_true rfl) ?_
  intro x hX hQ hT
  refine e_iload_n hX 1 iX11_isIn_0 rfl rfl ?_
  refine e_iload_n hX 0 iX11_isIn_1 rfl rfl ?_
  refine e_ishr hX iX11_isIn_2 ?_
  refine e_iconst (v := 1) hX iX11_isIn_3 (by decide) ?_
  refine e_iand hX iX11_isIn_4 ?_
  refine e_iconst (v := 1) hX iX11_isIn_5 (by decide) ?_
  refine e_icmp_ne hX iX11_isIn_6 (fun c6 => ?_) (fun c6 => ?_)
  · refine e_iconst (v := 0) hX iX11_isIn_13 (by decide) ?_
    exact e_zret hX hQ iX11_isIn_14 rfl nar_0 (by decide) (by decide) ⟨by rw [show sb b i = false from decide_eq_false c6]; rfl, rfl⟩
  · refine e_iconst (v := 1) hX iX11_isIn_9 (by decide) ?_
    refine e_goto hX iX11_isIn_10 ?_
    exact e_zret hX hQ iX11_isIn_14 rfl nar_1 (by decide) (by decide) ⟨by rw [show sb b i = true from decide_eq_true c6]; rfl, rfl⟩
theorem c_breaksSome {l : Launch} (htr : l.stackTraces = false) {θ : e_T} {ph : e_PH} {ub ue k : Nat} {rr : Nat → Nat} {R : Nat → RU} (hl : lst θ ph ub ue k rr) (hR : rls ph k rr R) {q w : Nat} {v : Nat → Int32} {id : Int32} (hr : rowAt θ ph q w v id) : MC yX11_breaksSome cX11_breaksSome 4 (some .boolean) 3 0 0 l θ [.ref ub, .ref q] ph (fun z p => z = some (.int (b2i (badB k R v))) ∧ p = ph) (fun _ _ => False) := by
  have hk := hl.le
  refine MC.of htr (by decide) (Nat.le_of_ble_eq_true rfl) ?_
  intro x hX hQ hT
  have loop : ∀ (g i : Nat) (lvx : List (Nat × Value)), k - i < g → i ≤ k → (∀ z, z < i → (!drR (R z) && brkR (R z) v) = false) → EJ θ x 2 [(0, .ref ub), (1, .ref q), (2, .int (nI i))] [] ph 0 0 := by
    intro g
    induction g with
    | zero => intro i lvx hg; omega
    | succ g ih =>
      intro i lvx hg hi hinv
      have next : i < k → (!drR (R i) && brkR (R i) v) = false → EJ θ x 36 [(0, .ref ub), (1, .ref q), (2, .int (nI i))] [] ph 0 0 := by
        intro hin hf
        refine e_iinc hX iX11_breaksSome_36 rfl (by first | exact nI_inc _ | rfl) (by decide) ?_
        refine e_goto hX iX11_breaksSome_39 ?_
        refine e_loc [0, 1, 2] ?_
        refine ih (i + 1) lvx (by omega) (by omega) (fun z hz => ?_)
        by_cases e : z = i
        · subst e; exact hf
        · exact hinv z (by omega)
      refine e_iload_n hX 2 iX11_breaksSome_2 rfl rfl ?_
      refine e_aload_n hX 0 iX11_breaksSome_3 rfl rfl ?_
      refine e_callV hX iX11_breaksSome_4 (lst.hp hl) (c_size htr hl) rfl rfl ⟨by decide, by decide, by decide, by decide⟩ (Nat.le_of_ble_eq_true rfl) (fun _ _ h => h.elim) (fun v9 ph9 hv9 => ?_)
      obtain ⟨rfl, e9⟩ := hv9
      subst ph9
      refine e_icmp_ge hX iX11_breaksSome_7 (fun c7 => ?_) (fun c7 => ?_)
      · have hin : i = k := by
          rcases Nat.lt_or_ge i k with h | h
          · exact absurd c7 (nI_ge h (by omega))
          · omega
        subst hin
        refine e_iconst (v := 0) hX iX11_breaksSome_42 (by decide) ?_
        exact e_zret hX hQ iX11_breaksSome_43 rfl nar_0 (by decide) (by decide) ⟨by rw [show badB i R v = false from anyB_f.mpr hinv]; rfl, rfl⟩
      · have hin : i < k := by
          rcases Nat.lt_or_ge i k with h | h
          · exact h
          · exact absurd (nI_le h (by omega)) c7
        have hri := hR i hin
        refine e_aload_n hX 0 iX11_breaksSome_10 rfl rfl ?_
        refine e_iload_n hX 2 iX11_breaksSome_11 rfl rfl ?_
        refine e_callV hX iX11_breaksSome_12 (lst.hp hl) (c_lget (i := i) htr hl hin) rfl rfl ⟨by decide, by decide, by decide, by decide⟩ (Nat.le_of_ble_eq_true rfl) (fun _ _ h => h.elim) (fun v9 ph9 hv9 => ?_)
        obtain ⟨rfl, e9⟩ := hv9
        subst ph9
        refine e_castR hX iX11_breaksSome_15 klRX11_206 hri ?_
        refine e_astore_n hX 3 iX11_breaksSome_18 rfl (by decide) ?_
        refine e_aload_n hX 3 iX11_breaksSome_19 rfl rfl ?_
        refine e_getDr hX iX11_breaksSome_20_c7 iX11_breaksSome_20_c8 iX11_breaksSome_20_c9 iX11_breaksSome_20_c10 iX11_breaksSome_20_c11 hri ?_
        refine e_if_ne hX iX11_breaksSome_23 (fun c23 => ?_) (fun c23 => ?_)
        · refine e_loc [0, 1, 2] ?_
          exact next hin (and_f1 (by rw [b2i_n0.mp c23]; rfl))
        · refine e_aload_n hX 3 iX11_breaksSome_26 rfl rfl ?_
          refine e_aload_n hX 1 iX11_breaksSome_27 rfl rfl ?_
          refine e_callBrk hX iX11_breaksSome_28_c7 iX11_breaksSome_28_c8 iX11_breaksSome_28_c9 iX11_breaksSome_28_c10 iX11_breaksSome_28_c11 htr hri hr ⟨by decide, by decide, by decide, by decide⟩ (Nat.le_of_ble_eq_true rfl) ?_
          refine e_if_eq hX iX11_breaksSome_31 (fun c31 => ?_) (fun c31 => ?_)
          · refine e_loc [0, 1, 2] ?_
            exact next hin (and_f2 (b2i_0.mp c31))
          · refine e_iconst (v := 1) hX iX11_breaksSome_34 (by decide) ?_
            exact e_zret hX hQ iX11_breaksSome_35 rfl nar_1 (by decide) (by decide) ⟨by rw [show badB k R v = true from anyB_t.mpr ⟨i, hin, and_tt (by rw [b2i_0.mp c23]; rfl) (b2i_n0.mp c31)⟩]; rfl, rfl⟩
  refine e_iconst (v := 0) hX iX11_breaksSome_0 (by decide) ?_
  refine e_istore_n hX 2 iX11_breaksSome_1 rfl (by decide) ?_
  refine e_loc [0, 1, 2] ?_
  exact loop (k + 1) 0 [] (by omega) (by omega) (fun z hz => absurd hz (Nat.not_lt_zero z))
theorem c_clashBySome {l : Launch} (htr : l.stackTraces = false) {θ : e_T} {ph : e_PH} {ub ue k : Nat} {rr : Nat → Nat} {R : Nat → RU} (hl : lst θ ph ub ue k rr) (hR : rls ph k rr R) {q w : Nat} {v : Nat → Int32} {id : Int32} (hr : rowAt θ ph q w v id) {q2 w2 : Nat} {u : Nat → Int32} {id2 : Int32} (hr2 : rowAt θ ph q2 w2 u id2) : MC yX11_clashBySome cX11_clashBySome 5 (some .boolean) 3 0 0 l θ [.ref ub, .ref q, .ref q2] ph (fun z p => z = some (.int (b2i (conB k R v u))) ∧ p = ph) (fun _ _ => False) := by
  have hk := hl.le
  refine MC.of htr (by decide) (Nat.le_of_ble_eq_true rfl) ?_
  intro x hX hQ hT
  have loop : ∀ (g i : Nat), k - i < g → i ≤ k → (∀ z, z < i → (!drR (R z) && clsR (R z) v u) = false) → EJ θ x 2 [(0, .ref ub), (1, .ref q), (2, .ref q2), (3, .int (nI i))] [] ph 0 0 := by
    intro g
    induction g with
    | zero => intro i hg; omega
    | succ g ih =>
      intro i hg hi hinv
      have next : i < k → (!drR (R i) && clsR (R i) v u) = false → EJ θ x 40 [(0, .ref ub), (1, .ref q), (2, .ref q2), (3, .int (nI i))] [] ph 0 0 := by
        intro hin hf
        refine e_iinc hX iX11_clashBySome_40 rfl (by first | exact nI_inc _ | rfl) (by decide) ?_
        refine e_goto hX iX11_clashBySome_43 ?_
        refine e_loc [0, 1, 2, 3] ?_
        refine ih (i + 1) (by omega) (by omega) (fun z hz => ?_)
        by_cases e : z = i
        · subst e; exact hf
        · exact hinv z (by omega)
      refine e_iload_n hX 3 iX11_clashBySome_2 rfl rfl ?_
      refine e_aload_n hX 0 iX11_clashBySome_3 rfl rfl ?_
      refine e_callV hX iX11_clashBySome_4 (lst.hp hl) (c_size htr hl) rfl rfl ⟨by decide, by decide, by decide, by decide⟩ (Nat.le_of_ble_eq_true rfl) (fun _ _ h => h.elim) (fun v9 ph9 hv9 => ?_)
      obtain ⟨rfl, e9⟩ := hv9
      subst ph9
      refine e_icmp_ge hX iX11_clashBySome_7 (fun c7 => ?_) (fun c7 => ?_)
      · have hin : i = k := by
          rcases Nat.lt_or_ge i k with h | h
          · exact absurd c7 (nI_ge h (by omega))
          · omega
        subst hin
        refine e_iconst (v := 0) hX iX11_clashBySome_46 (by decide) ?_
        exact e_zret hX hQ iX11_clashBySome_47 rfl nar_0 (by decide) (by decide) ⟨by rw [show conB i R v u = false from anyB_f.mpr hinv]; rfl, rfl⟩
      · have hin : i < k := by
          rcases Nat.lt_or_ge i k with h | h
          · exact h
          · exact absurd (nI_le h (by omega)) c7
        have hri := hR i hin
        refine e_aload_n hX 0 iX11_clashBySome_10 rfl rfl ?_
        refine e_iload_n hX 3 iX11_clashBySome_11 rfl rfl ?_
        refine e_callV hX iX11_clashBySome_12 (lst.hp hl) (c_lget (i := i) htr hl hin) rfl rfl ⟨by decide, by decide, by decide, by decide⟩ (Nat.le_of_ble_eq_true rfl) (fun _ _ h => h.elim) (fun v9 ph9 hv9 => ?_)
        obtain ⟨rfl, e9⟩ := hv9
        subst ph9
        refine e_castR hX iX11_clashBySome_15 klRX11_206 hri ?_
        refine e_astore hX iX11_clashBySome_18 (by decide) ?_
        refine e_aload hX iX11_clashBySome_20 rfl ?_
        refine e_getDr hX iX11_clashBySome_22_c7 iX11_clashBySome_22_c8 iX11_clashBySome_22_c9 iX11_clashBySome_22_c10 iX11_clashBySome_22_c11 hri ?_
        refine e_if_ne hX iX11_clashBySome_25 (fun c25 => ?_) (fun c25 => ?_)
        · refine e_loc [0, 1, 2, 3] ?_
          exact next hin (and_f1 (by rw [b2i_n0.mp c25]; rfl))
        · refine e_aload hX iX11_clashBySome_28 rfl ?_
          refine e_aload_n hX 1 iX11_clashBySome_30 rfl rfl ?_
          refine e_aload_n hX 2 iX11_clashBySome_31 rfl rfl ?_
          refine e_callCls hX iX11_clashBySome_32_c7 iX11_clashBySome_32_c8 iX11_clashBySome_32_c9 iX11_clashBySome_32_c10 iX11_clashBySome_32_c11 htr hri hr hr2 ⟨by decide, by decide, by decide, by decide⟩ (Nat.le_of_ble_eq_true rfl) ?_
          refine e_if_eq hX iX11_clashBySome_35 (fun c35 => ?_) (fun c35 => ?_)
          · refine e_loc [0, 1, 2, 3] ?_
            exact next hin (and_f2 (b2i_0.mp c35))
          · refine e_iconst (v := 1) hX iX11_clashBySome_38 (by decide) ?_
            exact e_zret hX hQ iX11_clashBySome_39 rfl nar_1 (by decide) (by decide) ⟨by rw [show conB k R v u = true from anyB_t.mpr ⟨i, hin, and_tt (by rw [b2i_0.mp c25]; rfl) (b2i_n0.mp c35)⟩]; rfl, rfl⟩
  refine e_iconst (v := 0) hX iX11_clashBySome_0 (by decide) ?_
  refine e_istore_n hX 3 iX11_clashBySome_1 rfl (by decide) ?_
  refine e_loc [0, 1, 2, 3] ?_
  exact loop (k + 1) 0 (by omega) (by omega) (fun z hz => absurd hz (Nat.not_lt_zero z))
/-- the set of those below n that have it, as a number -/
def maskN : Nat → (Nat → Bool) → Nat
  | 0, _ => 0
  | n + 1, f => maskN n f ||| (if f n = true then 2 ^ n else 0)
theorem maskN_t {f : Nat → Bool} {j : Nat} : ∀ {n : Nat}, (maskN n f).testBit j = (decide (j < n) && f j)
  | 0 => by show (0 : Nat).testBit j = _; rw [Nat.zero_testBit, decide_eq_false (Nat.not_lt_zero j)]; rfl
  | n + 1 => by
    show (maskN n f ||| (if f n = true then 2 ^ n else 0)).testBit j = _
    rw [Nat.testBit_or, maskN_t]
    by_cases e : j = n
    · subst e
      rw [decide_eq_false (Nat.lt_irrefl j), decide_eq_true (Nat.lt_succ_self j)]
      cases c : f j
      · rw [if_neg (by decide), Nat.zero_testBit]; rfl
      · rw [if_pos rfl, tb_pow, decide_eq_true rfl]; rfl
    · have h1 : (if f n = true then 2 ^ n else 0 : Nat).testBit j = false := by
        by_cases c : f n = true
        · rw [if_pos c, tb_pow, decide_eq_false (fun h => e h.symm)]
        · rw [if_neg c, Nat.zero_testBit]
      rw [h1, Bool.or_false]
      congr 1
      exact decide_eq_decide.mpr ⟨fun h => by omega, fun h => by omega⟩
theorem maskN_lt {f : Nat → Bool} : ∀ (n : Nat), maskN n f < 2 ^ n
  | 0 => Nat.zero_lt_one
  | n + 1 => by
    refine lor_lt (Nat.lt_of_lt_of_le (maskN_lt n) (Nat.pow_le_pow_right (by decide) (Nat.le_succ n))) ?_
    by_cases c : f n = true
    · rw [if_pos c]; exact Nat.pow_lt_pow_right (by decide) (Nat.lt_succ_self n)
    · rw [if_neg c]; exact Nat.two_pow_pos _
theorem maskN_12 {f : Nat → Bool} {n : Nat} (h : n ≤ 12) : maskN n f < 2 ^ 12 := Nat.lt_of_lt_of_le (maskN_lt n) (Nat.pow_le_pow_right (by decide) h)
theorem maskN_s1 {f : Nat → Bool} {n : Nat} (h : f n = true) : maskN (n + 1) f = maskN n f ||| 2 ^ n := by show maskN n f ||| (if f n = true then 2 ^ n else 0) = _; rw [if_pos h]
theorem maskN_s0 {f : Nat → Bool} {n : Nat} (h : f n = false) : maskN (n + 1) f = maskN n f := by show maskN n f ||| (if f n = true then 2 ^ n else 0) = _; rw [if_neg (by rw [h]; decide), Nat.or_zero]
/-- what Conflicts holds: n rows, the bad ones, the partners -/
def cfl (θ : e_T) (ph : e_PH) (cf ca n B : Nat) (M : Nat → Nat) : Prop := ph cf = some (e_O 3 [.ref ca, .int (nI B), .int (nI n)]) ∧ (∃ f, ph ca = some (e_I θ 12 f) ∧ ∀ i, i < n → f i = nI (M i)) ∧ B < 2 ^ 12 ∧ (∀ i, i < n → M i < 2 ^ 12) ∧ n ≤ 12
def badM (n k : Nat) (R : Nat → RU) (v : Nat → Nat → Int32) : Nat := maskN n (fun i => badB k R (v i))
def adjB (k : Nat) (R : Nat → RU) (v : Nat → Nat → Int32) (i j : Nat) : Bool := decide (¬ j = i) && conB k R (v i) (v j)
def conM (n k : Nat) (R : Nat → RU) (v : Nat → Nat → Int32) (i : Nat) : Nat := maskN n (adjB k R v i)
theorem adjB_symm {k : Nat} {R : Nat → RU} {v : Nat → Nat → Int32} {i j : Nat} : adjB k R v i j = adjB k R v j i := by
  unfold adjB
  rw [conB_symm]
  congr 1
  exact decide_eq_decide.mpr ⟨fun h e => h e.symm, fun h e => h e.symm⟩
theorem adjB_n {k : Nat} {R : Nat → RU} {v : Nat → Nat → Int32} {i j : Nat} (h : ¬ j = i) : adjB k R v i j = conB k R (v i) (v j) := by unfold adjB; rw [decide_eq_true h]; rfl
theorem adjB_s {k : Nat} {R : Nat → RU} {v : Nat → Nat → Int32} {i : Nat} : adjB k R v i i = false := by unfold adjB; rw [decide_eq_false (fun h => h rfl)]; rfl
theorem c_find {l : Launch} (htr : l.stackTraces = false) {θ : e_T} {ph : e_PH} {cf ca tb ed n ub ue k : Nat} {r rr : Nat → Nat} {v : Nat → Nat → Int32} {R : Nat → RU} {f0 : Nat → Int32} {s0 s1 : Int32} (h1 : ph cf = some (e_O 3 [.ref ca, .int s1, .int s0])) (h2 : ph ca = some (e_I θ 12 f0)) (hl : lst θ ph tb ed n r) (hr : rws θ ph n r v) (hn : n ≤ 12) (hu : lst θ ph ub ue k rr) (hR : rls ph k rr R) : MC yX0_find cX0_find 6 none 4 0 0 l θ [.ref cf, .ref tb, .ref ub] ph (fun z p => z = none ∧ cfl θ p cf ca n (badM n k R v) (conM n k R v) ∧ kept ph p (prS cf ca)) (fun _ _ => False) := by
  refine MC.of htr (by decide) (Nat.le_of_ble_eq_true rfl) ?_
  intro x hX hQ hT
  have hpf : cf ≠ ca := e_ne2 h1 h2 (fun e => e_IO e.symm)
  have hL : ∀ p, kept ph p (prS cf ca) → lst θ p tb ed n r := fun p hk => hl.keep2 hk (fun b fs hb => prS.no h1 h2 hb (fun gs => e_OO (by decide)) (fun g e => e_IO e.symm)) (fun b N f hb => prS.no h1 h2 hb (fun gs e => e_OR e.symm) (fun g => e_RI))
  have hU : ∀ p, kept ph p (prS cf ca) → lst θ p ub ue k rr := fun p hk => hu.keep2 hk (fun b fs hb => prS.no h1 h2 hb (fun gs => e_OO (by decide)) (fun g e => e_IO e.symm)) (fun b N f hb => prS.no h1 h2 hb (fun gs e => e_OR e.symm) (fun g => e_RI))
  have hV : ∀ p, kept ph p (prS cf ca) → rws θ p n r v := fun p hk => hr.keep hk (fun b fs hb => prS.no h1 h2 hb (fun gs => e_OO (by decide)) (fun g e => e_IO e.symm)) (fun b f hb => prS.no h1 h2 hb (fun gs => e_IO) (fun g => e_II12 (by decide)))
  have hQs : ∀ p, kept ph p (prS cf ca) → rls p k rr R := fun p hk i hi => ⟨(hR i hi).1, hk _ _ (hR i hi).2 (prS.no h1 h2 (hR i hi).2 (fun gs => e_OO (by omega)) (fun g e => e_IO e.symm))⟩
  have outer : ∀ (g i : Nat) (p : e_PH) (f : Nat → Int32), n - i < g → i ≤ n → p cf = some (e_O 3 [.ref ca, .int (nI (maskN i (fun i => badB k R (v i)))), .int (nI n)]) → p ca = some (e_I θ 12 f) → (∀ z, z < i → f z = nI (maskN i (adjB k R v z))) → kept ph p (prS cf ca) → EJ θ x 23 [(0, .ref cf), (1, .ref tb), (2, .ref ub), (3, .int (nI i))] [] p 0 0 := by
    intro g
    induction g with
    | zero => intro i p f hg; omega
    | succ g ih =>
      intro i p f hg hi g1 g2 g3 g4
      refine e_iload_n hX 3 iX0_find_23 rfl rfl ?_
      refine e_aload_n hX 0 iX0_find_24 rfl rfl ?_
      refine e_get hX iX0_find_25 g1 rfl ?_
      refine e_icmp_ge hX iX0_find_28 (fun c28 => ?_) (fun c28 => ?_)
      · have hin : i = n := by
          rcases Nat.lt_or_ge i n with h | h
          · exact absurd c28 (nI_ge h (by omega))
          · omega
        subst hin
        exact e_vret hX hQ iX0_find_134 rfl (by decide) (by decide) ⟨rfl, ⟨g1, ⟨f, g2, g3⟩, maskN_12 hn, fun z _ => maskN_12 hn, hn⟩, g4⟩
      · have hin : i < n := by
          rcases Nat.lt_or_ge i n with h | h
          · exact h
          · exact absurd (nI_le h (by omega)) c28
        have hl' := hL p g4
        have hu' := hU p g4
        have hR' := hQs p g4
        obtain ⟨wi, idi, hri⟩ := hV p g4 i hin
        have inner : ∀ (g' j : Nat) (p' : e_PH) (f' : Nat → Int32), i - j < g' → j ≤ i → p' cf = some (e_O 3 [.ref ca, .int (nI (maskN (i + 1) (fun i => badB k R (v i)))), .int (nI n)]) → p' ca = some (e_I θ 12 f') → (∀ z, z < j → f' z = nI (maskN (i + 1) (adjB k R v z))) → (∀ z, j ≤ z → z < i → f' z = nI (maskN i (adjB k R v z))) → f' i = nI (maskN j (adjB k R v i)) → kept ph p' (prS cf ca) → EJ θ x 72 [(0, .ref cf), (1, .ref tb), (2, .ref ub), (3, .int (nI i)), (4, .ref (r i)), (5, .int (nI j))] [] p' 0 0 := by
          intro g'
          induction g' with
          | zero => intro j p' f' hg'; omega
          | succ g' ih' =>
            intro j p' f' hg' hj k1 k2 k3 k4 k5 k6
            refine e_iload hX iX0_find_72 rfl ?_
            refine e_iload_n hX 3 iX0_find_74 rfl rfl ?_
            refine e_icmp_ge hX iX0_find_75 (fun c75 => ?_) (fun c75 => ?_)
            · have hji : j = i := by
                rcases Nat.lt_or_ge j i with h | h
                · exact absurd c75 (nI_ge h (by omega))
                · omega
              subst hji
              refine e_iinc hX iX0_find_128 rfl (by first | exact nI_inc _ | rfl) (by decide) ?_
              refine e_goto hX iX0_find_131 ?_
              refine e_loc [0, 1, 2, 3] ?_
              refine ih (j + 1) p' f' (by omega) (by omega) k1 k2 (fun z hz => ?_) k6
              by_cases e : z = j
              · subst e; rw [k5, maskN_s0 adjB_s]
              · exact k3 z (by omega)
            · have hji : j < i := by
                rcases Nat.lt_or_ge j i with h | h
                · exact h
                · exact absurd (nI_le h (by omega)) c75
              have hl2 := hL p' k6
              have hu2 := hU p' k6
              have hR2 := hQs p' k6
              obtain ⟨wi2, idi2, hri2⟩ := hV p' k6 i hin
              obtain ⟨wj, idj, hrj⟩ := hV p' k6 j (by omega)
              refine e_aload_n hX 2 iX0_find_78 rfl rfl ?_
              refine e_aload hX iX0_find_79 rfl ?_
              refine e_aload_n hX 1 iX0_find_81 rfl rfl ?_
              refine e_iload hX iX0_find_82 rfl ?_
              refine e_callV hX iX0_find_84 (lst.hp hl2) (c_lget (i := j) htr hl2 (by omega)) rfl rfl ⟨by decide, by decide, by decide, by decide⟩ (Nat.le_of_ble_eq_true rfl) (fun _ _ h => h.elim) (fun v9 ph9 hv9 => ?_)
              obtain ⟨rfl, e9⟩ := hv9
              subst ph9
              refine e_castS hX iX0_find_87 klRX0_37 (rowAt.hp hrj) rfl ?_
              refine e_callS hX iX0_find_90 (c_clashBySome htr hu2 hR2 hri2 hrj) rfl rfl ⟨by decide, by decide, by decide, by decide⟩ (Nat.le_of_ble_eq_true rfl) (fun _ _ h => h.elim) (fun v9 ph9 hv9 => ?_)
              obtain ⟨rfl, e9⟩ := hv9
              subst ph9
              refine e_if_eq hX iX0_find_93 (fun c93 => ?_) (fun c93 => ?_)
              · have e1 : adjB k R v i j = false := (adjB_n (by omega)).trans (b2i_0.mp c93)
                refine e_iinc hX iX0_find_122 rfl (by first | exact nI_inc _ | rfl) (by decide) ?_
                refine e_goto hX iX0_find_125 ?_
                refine e_loc [0, 1, 2, 3, 4, 5] ?_
                refine ih' (j + 1) p' f' (by omega) (by omega) k1 k2 (fun z hz => ?_) (fun z hz1 hz2 => k4 z (by omega) hz2) (by rw [k5, maskN_s0 e1]) k6
                by_cases e : z = j
                · subst e; rw [k4 z (Nat.le_refl _) hji, maskN_s0 (adjB_symm.trans e1)]
                · exact k3 z (by omega)
              · have e1 : adjB k R v i j = true := (adjB_n (by omega)).trans (b2i_n0.mp c93)
                refine e_aload_n hX 0 iX0_find_96 rfl rfl ?_
                refine e_get hX iX0_find_97 k1 rfl ?_
                refine e_iload_n hX 3 iX0_find_100 rfl rfl ?_
                refine e_dup2 hX iX0_find_101 rfl rfl ?_
                refine e_iald hX i iX0_find_102 k2 rfl (by omega) (by decide) ?_
                refine e_iconst (v := 1) hX iX0_find_103 (by decide) ?_
                refine e_iload hX iX0_find_104 rfl ?_
                refine e_ishl hX iX0_find_106 ?_
                refine e_ior hX iX0_find_107 ?_
                refine e_iast hX i iX0_find_108 k2 rfl (by omega) (by decide) ?_
                refine e_aload_n hX 0 iX0_find_109 rfl rfl ?_
                refine e_get hX iX0_find_110 (e_up_o k1 hpf) rfl ?_
                refine e_iload hX iX0_find_113 rfl ?_
                refine e_dup2 hX iX0_find_115 rfl rfl ?_
                refine e_iald hX j iX0_find_116 e_up_s rfl (by omega) (by decide) ?_
                refine e_iconst (v := 1) hX iX0_find_117 (by decide) ?_
                refine e_iload_n hX 3 iX0_find_118 rfl rfl ?_
                refine e_ishl hX iX0_find_119 ?_
                refine e_ior hX iX0_find_120 ?_
                refine e_iast hX j iX0_find_121 e_up_s rfl (by omega) (by decide) ?_
                refine e_iinc hX iX0_find_122 rfl (by first | exact nI_inc _ | rfl) (by decide) ?_
                refine e_goto hX iX0_find_125 ?_
                refine e_loc [0, 1, 2, 3, 4, 5] ?_
                rw [e_upI]
                refine ih' (j + 1) _ _ (by omega) (by omega) (e_up_o k1 hpf) e_up_s (fun z hz => ?_) (fun z hz1 hz2 => ?_) ?_ (k6.up2 (Or.inl (Or.inr rfl)))
                · by_cases e : z = j
                  · subst e; rw [upd_s, upd_n (by omega), k4 z (Nat.le_refl _) hji, sh1 i (by omega), nI_or, maskN_s1 (adjB_symm.trans e1)]
                  · rw [upd_n e, upd_n (by omega)]; exact k3 z (by omega)
                · rw [upd_n (by omega), upd_n (by omega)]; exact k4 z (by omega) hz2
                · rw [upd_n (by omega), upd_s, k5, sh1 j (by omega), nI_or, maskN_s1 e1]
        have cont : ∀ p2 : e_PH, p2 cf = some (e_O 3 [.ref ca, .int (nI (maskN (i + 1) (fun i => badB k R (v i)))), .int (nI n)]) → p2 ca = some (e_I θ 12 f) → kept ph p2 (prS cf ca) → EJ θ x 62 [(0, .ref cf), (1, .ref tb), (2, .ref ub), (3, .int (nI i)), (4, .ref (r i))] [] p2 0 0 := by
          intro p2 k1 k2 k6
          refine e_aload_n hX 0 iX0_find_62 rfl rfl ?_
          refine e_get hX iX0_find_63 k1 rfl ?_
          refine e_iload_n hX 3 iX0_find_66 rfl rfl ?_
          refine e_iconst (v := 0) hX iX0_find_67 (by decide) ?_
          refine e_iast hX i iX0_find_68 k2 rfl (by omega) (by decide) ?_
          refine e_iconst (v := 0) hX iX0_find_69 (by decide) ?_
          refine e_istore hX iX0_find_70 (by decide) ?_
          refine e_loc [0, 1, 2, 3, 4, 5] ?_
          refine inner (i + 1) 0 _ _ (by omega) (by omega) (e_up_o k1 hpf) e_up_s (fun z hz => absurd hz (Nat.not_lt_zero z)) (fun z hz1 hz2 => by rw [upd_n (by omega)]; exact g3 z hz2) upd_s (k6.up2 (Or.inl (Or.inr rfl)))
        refine e_aload_n hX 1 iX0_find_31 rfl rfl ?_
        refine e_iload_n hX 3 iX0_find_32 rfl rfl ?_
        refine e_callV hX iX0_find_33 (lst.hp hl') (c_lget (i := i) htr hl' hin) rfl rfl ⟨by decide, by decide, by decide, by decide⟩ (Nat.le_of_ble_eq_true rfl) (fun _ _ h => h.elim) (fun v9 ph9 hv9 => ?_)
        obtain ⟨rfl, e9⟩ := hv9
        subst ph9
        refine e_castS hX iX0_find_36 klRX0_37 (rowAt.hp hri) rfl ?_
        refine e_astore hX iX0_find_39 (by decide) ?_
        refine e_aload_n hX 2 iX0_find_41 rfl rfl ?_
        refine e_aload hX iX0_find_42 rfl ?_
        refine e_callS hX iX0_find_44 (c_breaksSome htr hu' hR' hri) rfl rfl ⟨by decide, by decide, by decide, by decide⟩ (Nat.le_of_ble_eq_true rfl) (fun _ _ h => h.elim) (fun v9 ph9 hv9 => ?_)
        obtain ⟨rfl, e9⟩ := hv9
        subst ph9
        refine e_if_eq hX iX0_find_47 (fun c47 => ?_) (fun c47 => ?_)
        · refine e_loc [0, 1, 2, 3, 4] ?_
          exact cont p (by rw [maskN_s0 (f := fun i => badB k R (v i)) (b2i_0.mp c47)]; exact g1) g2 g4
        · refine e_aload_n hX 0 iX0_find_50 rfl rfl ?_
          refine e_dup hX iX0_find_51 rfl ?_
          refine e_get hX iX0_find_52 g1 rfl ?_
          refine e_iconst (v := 1) hX iX0_find_55 (by decide) ?_
          refine e_iload_n hX 3 iX0_find_56 rfl rfl ?_
          refine e_ishl hX iX0_find_57 ?_
          refine e_ior hX iX0_find_58 ?_
          refine e_put hX iX0_find_59 g1 rfl (Nat.le_of_ble_eq_true rfl) rfl rfl ?_
          refine e_loc [0, 1, 2, 3, 4] ?_
          refine cont _ ?_ (e_up_o g2 (fun e => hpf e.symm)) (g4.up2 (Or.inl (Or.inl rfl)))
          rw [maskN_s1 (f := fun i => badB k R (v i)) (b2i_n0.mp c47), ← nI_or, ← sh1 i (by omega)]
          exact e_up_s
  refine e_aload_n hX 0 iX0_find_0 rfl rfl ?_
  refine e_aload_n hX 1 iX0_find_1 rfl rfl ?_
  refine e_callV hX iX0_find_2 (lst.hp hl) (c_size htr hl) rfl rfl ⟨by decide, by decide, by decide, by decide⟩ (Nat.le_of_ble_eq_true rfl) (fun _ _ h => h.elim) (fun v9 ph9 hv9 => ?_)
  obtain ⟨rfl, e9⟩ := hv9
  subst ph9
  refine e_aload_n hX 0 iX0_find_5 rfl rfl ?_
  refine e_get hX iX0_find_6 h1 rfl ?_
  refine e_lenI hX iX0_find_9 h2 ?_
  refine e_min hX iX0_find_10 mlRX0_21 ⟨by decide, Nat.le_of_ble_eq_true rfl, by decide, by decide⟩ ?_
  rw [show (if nI 12 < nI n then nI 12 else nI n) = nI n from if_neg (nI_nlt hn (by decide))]
  refine e_put hX iX0_find_13 h1 rfl (Nat.le_of_ble_eq_true rfl) rfl rfl ?_
  refine e_aload_n hX 0 iX0_find_16 rfl rfl ?_
  refine e_iconst (v := 0) hX iX0_find_17 (by decide) ?_
  refine e_put hX iX0_find_18 e_up_s rfl (Nat.le_of_ble_eq_true rfl) rfl rfl ?_
  rw [e_up_up]
  refine e_iconst (v := 0) hX iX0_find_21 (by decide) ?_
  refine e_istore_n hX 3 iX0_find_22 rfl (by decide) ?_
  refine e_loc [0, 1, 2, 3] ?_
  exact outer (n + 1) 0 _ f0 (by omega) (by omega) e_up_s (e_up_o h2 (fun e => hpf e.symm)) (fun z hz => absurd hz (Nat.not_lt_zero z)) (kept.refl.up2 (Or.inl (Or.inl rfl)))
