def prt (θ : e_T) (ph : e_PH) (pt fa n : Nat) (s : Int32) (v : Nat → Nat → Int32) : Prop := ph pt = some (e_O 4 [.ref fa, .int (nI n)]) ∧ ∃ f, ph fa = some (e_I θ 12 f) ∧ ∀ i, i < n → f i = nI (fst s v i)
def keyB (s : Int32) (n : Nat) (v : Nat → Nat → Int32) : Bool := allB n (fun k => allB k (fun i => !eqIn s (v k) (v i)))
def fixB (s : Int32) (c n : Nat) (v : Nat → Nat → Int32) : Bool := allB n (fun k => allB k (fun i => !eqIn s (v k) (v i) || decide (v k c = v i c)))
def mxN : Nat → (Nat → Nat) → Nat
  | 0, _ => 0
  | n + 1, f => if mxN n f < f n then f n else mxN n f
def sumN : Nat → (Nat → Nat) → Nat
  | 0, _ => 0
  | n + 1, f => sumN n f + f n
def eqcN (s : Int32) (c n : Nat) (v : Nat → Nat → Int32) (p : Nat) : Nat := cntB n (fun i => eqIn s (v i) (v p) && decide (v i c = v p c))
def memN (s : Int32) (n : Nat) (v : Nat → Nat → Int32) (k : Nat) : Nat := cntB n (fun i => decide (fst s v i = k))
def mostN (s : Int32) (c n : Nat) (v : Nat → Nat → Int32) (k : Nat) : Nat := mxN n (fun i => if fst s v i = k then eqcN s c n v i else 0)
def errN (s : Int32) (c n : Nat) (v : Nat → Nat → Int32) : Nat := sumN n (fun k => if fst s v k = k then memN s n v k - mostN s c n v k else 0)
theorem mxN_le {f : Nat → Nat} {b : Nat} : ∀ {n : Nat}, (∀ i, i < n → f i ≤ b) → mxN n f ≤ b
  | 0, _ => Nat.zero_le _
  | n + 1, h => by
    have h1 := mxN_le (f := f) (b := b) (n := n) (fun i hi => h i (by omega))
    unfold mxN
    by_cases c : mxN n f < f n
    · rw [if_pos c]; exact h n (by omega)
    · rw [if_neg c]; exact h1
theorem cntB_mono {f g : Nat → Bool} : ∀ {n : Nat}, (∀ i, i < n → f i = true → g i = true) → cntB n f ≤ cntB n g
  | 0, _ => Nat.le_refl _
  | n + 1, h => by
    have h1 := cntB_mono (f := f) (g := g) (n := n) (fun i hi => h i (by omega))
    cases c : f n
    · rw [cntB_s0 c]
      exact Nat.le_trans h1 (by show cntB n g ≤ cntB n g + _; exact Nat.le_add_right _ _)
    · rw [cntB_s1 c, cntB_s1 (h n (by omega) c)]
      exact Nat.succ_le_succ h1
theorem eqcN_mem {s : Int32} {c n : Nat} {v : Nat → Nat → Int32} {p k : Nat} (h : fst s v p = k) : eqcN s c n v p ≤ memN s n v k := cntB_mono (fun i _ h1 => by
  rw [Bool.and_eq_true] at h1
  exact decide_eq_true ((fst_eq.mpr h1.1).trans h))
theorem mostN_mem {s : Int32} {c n : Nat} {v : Nat → Nat → Int32} {k : Nat} : mostN s c n v k ≤ memN s n v k := mxN_le (fun i _ => by
  by_cases h : fst s v i = k
  · rw [if_pos h]; exact eqcN_mem h
  · rw [if_neg h]; exact Nat.zero_le _)
theorem memN_le {s : Int32} {n : Nat} {v : Nat → Nat → Int32} {k : Nat} : memN s n v k ≤ n := cntB_le _ _
theorem keyB_t {s : Int32} {n : Nat} {v : Nat → Nat → Int32} : keyB s n v = true ↔ ∀ i, i < n → fst s v i = i := by
  unfold keyB
  rw [allB_t]
  constructor
  · intro h i hi
    refine fst_first.mpr (fun j hj => ?_)
    have h1 := allB_t.mp (h i hi) j hj
    simpa using h1
  · intro h k hk
    refine allB_t.mpr (fun i hi => ?_)
    rw [fst_first.mp (h k hk) i hi]; rfl
theorem fixB_f {s : Int32} {c n : Nat} {v : Nat → Nat → Int32} {k i : Nat} (hk : k < n) (hi : i < k) (he : fst s v k = i) (h : ¬ v k c = v i c) : fixB s c n v = false := by
  refine allB_f hk (allB_f hi ?_)
  have h1 := (fst_s s v k).2.1
  rw [he] at h1
  rw [h1, decide_eq_false h]; rfl
theorem fixB_tt {s : Int32} {c n : Nat} {v : Nat → Nat → Int32} (h : ∀ m i, m < n → m < i → i < n → fst s v i = m → v i c = v m c) : fixB s c n v = true := by
  have h0 : ∀ i, i < n → v i c = v (fst s v i) c := fun i hi => by
    have h1 := (fst_s s v i).1
    by_cases e : fst s v i = i
    · rw [e]
    · exact h _ i (by omega) (by omega) hi rfl
  refine allB_t.mpr (fun k hk => allB_t.mpr (fun i hi => ?_))
  cases c1 : eqIn s (v k) (v i)
  · rfl
  · rw [decide_eq_true ((h0 k hk).trans (by rw [fst_eq.mpr c1]; exact (h0 i (by omega)).symm))]; rfl
theorem c_alone {l : Launch} (htr : l.stackTraces = false) {θ : e_T} {ph : e_PH} {pt fa n : Nat} {v : Nat → Nat → Int32} {s : Int32} (h : prt θ ph pt fa n s v) (hn : n ≤ 12) : MC yX3_isEachRowAlone cX3_isEachRowAlone 2 (some .boolean) 0 0 0 l θ [.ref pt] ph (fun z p => z = some (.int (b2i (keyB s n v))) ∧ p = ph) (fun _ _ => False) := by
  obtain ⟨h1, f, h2, h3⟩ := h
  refine MC.of htr (by decide) (Nat.le_of_ble_eq_true rfl) ?_
  intro x hX hQ hT
  have loop : ∀ (g i : Nat), n - i < g → i ≤ n → (∀ z, z < i → fst s v z = z) → EJ θ x 2 [(0, .ref pt), (1, .int (nI i))] [] ph 0 0 := by
    intro g
    induction g with
    | zero => intro i hg; omega
    | succ g ih =>
      intro i hg hi hinv
      refine e_iload_n hX 1 iX3_isEachRowAlone_2 rfl rfl ?_
      refine e_aload_n hX 0 iX3_isEachRowAlone_3 rfl rfl ?_
      refine e_get hX iX3_isEachRowAlone_4 h1 rfl ?_
      refine e_icmp_ge hX iX3_isEachRowAlone_7 (fun c7 => ?_) (fun c7 => ?_)
      · have hin : i = n := by
          rcases Nat.lt_or_ge i n with h | h
          · exact absurd c7 (nI_ge h (by omega))
          · omega
        subst hin
        refine e_iconst (v := 1) hX iX3_isEachRowAlone_28 (by decide) ?_
        exact e_zret hX hQ iX3_isEachRowAlone_29 rfl nar_1 (by decide) (by decide) ⟨by rw [keyB_t.mpr hinv]; rfl, rfl⟩
      · have hin : i < n := by
          rcases Nat.lt_or_ge i n with h | h
          · exact h
          · exact absurd (nI_le h (by omega)) c7
        have fj := fst_s s v i
        refine e_aload_n hX 0 iX3_isEachRowAlone_10 rfl rfl ?_
        refine e_get hX iX3_isEachRowAlone_11 h1 rfl ?_
        refine e_iload_n hX 1 iX3_isEachRowAlone_14 rfl rfl ?_
        refine e_iald hX i iX3_isEachRowAlone_15 h2 rfl (by omega) (by decide) ?_
        rw [h3 i hin]
        refine e_iload_n hX 1 iX3_isEachRowAlone_16 rfl rfl ?_
        refine e_icmp_eq hX iX3_isEachRowAlone_17 (fun c17 => ?_) (fun c17 => ?_)
        · refine e_iinc hX iX3_isEachRowAlone_22 rfl (by first | exact nI_inc _ | rfl) (by decide) ?_
          refine e_goto hX iX3_isEachRowAlone_25 ?_
          refine e_loc [0, 1] ?_
          refine ih (i + 1) (by omega) (by omega) (fun z hz => ?_)
          by_cases e : z = i
          · subst e; exact (nI_eq (by omega) (by omega)).mp c17
          · exact hinv z (by omega)
        · refine e_iconst (v := 0) hX iX3_isEachRowAlone_20 (by decide) ?_
          have e0 : keyB s n v = false := by
            cases c : keyB s n v
            · rfl
            · exact absurd (by rw [keyB_t.mp c i hin]) c17
          exact e_zret hX hQ iX3_isEachRowAlone_21 rfl nar_0 (by decide) (by decide) ⟨by rw [e0]; rfl, rfl⟩
  refine e_iconst (v := 0) hX iX3_isEachRowAlone_0 (by decide) ?_
  refine e_istore_n hX 1 iX3_isEachRowAlone_1 rfl (by decide) ?_
  exact loop (n + 1) 0 (by omega) (by omega) (fun z hz => absurd hz (Nat.not_lt_zero z))
theorem c_eachEq {l : Launch} (htr : l.stackTraces = false) {θ : e_T} {ph : e_PH} {pt fa n tb ed : Nat} {r : Nat → Nat} {v : Nat → Nat → Int32} {s : Int32} (h : prt θ ph pt fa n s v) (hl : lst θ ph tb ed n r) (hr : rws θ ph n r v) (hn : n ≤ 12) (c : Nat) (hc : c < 5) : MC yX3_isEachClassEqualIn cX3_isEachClassEqualIn 5 (some .boolean) 3 0 0 l θ [.ref pt, .ref tb, .int (nI c)] ph (fun z p => z = some (.int (b2i (fixB s c n v))) ∧ p = ph) (fun _ _ => False) := by
  obtain ⟨h1, f, h2, h3⟩ := h
  refine MC.of htr (by decide) (Nat.le_of_ble_eq_true rfl) ?_
  intro x hX hQ hT
  have loop : ∀ (g m : Nat), n - m < g → m ≤ n → (∀ m' i, m' < m → m' < i → i < n → fst s v i = m' → v i c = v m' c) → EJ θ x 2 [(0, .ref pt), (1, .ref tb), (2, .int (nI c)), (3, .int (nI m))] [] ph 0 0 := by
    intro g
    induction g with
    | zero => intro i hg; omega
    | succ g ih =>
      intro m hg hm hinv
      refine e_iload_n hX 3 iX3_isEachClassEqualIn_2 rfl rfl ?_
      refine e_aload_n hX 0 iX3_isEachClassEqualIn_3 rfl rfl ?_
      refine e_get hX iX3_isEachClassEqualIn_4 h1 rfl ?_
      refine e_icmp_ge hX iX3_isEachClassEqualIn_7 (fun c7 => ?_) (fun c7 => ?_)
      · have hin : m = n := by
          rcases Nat.lt_or_ge m n with h | h
          · exact absurd c7 (nI_ge h (by omega))
          · omega
        subst hin
        refine e_iconst (v := 1) hX iX3_isEachClassEqualIn_77 (by decide) ?_
        exact e_zret hX hQ iX3_isEachClassEqualIn_78 rfl nar_1 (by decide) (by decide) ⟨by rw [fixB_tt hinv]; rfl, rfl⟩
      · have hin : m < n := by
          rcases Nat.lt_or_ge m n with h | h
          · exact h
          · exact absurd (nI_le h (by omega)) c7
        have inner : ∀ (g' i : Nat), n - i < g' → m < i → i ≤ n → (∀ z, m < z → z < i → fst s v z = m → v z c = v m c) → EJ θ x 15 [(0, .ref pt), (1, .ref tb), (2, .int (nI c)), (3, .int (nI m)), (4, .int (nI i))] [] ph 0 0 := by
          intro g'
          induction g' with
          | zero => intro j hg'; omega
          | succ g' ih' =>
            intro i hg' hmi hi hk
            refine e_iload hX iX3_isEachClassEqualIn_15 rfl ?_
            refine e_aload_n hX 0 iX3_isEachClassEqualIn_17 rfl rfl ?_
            refine e_get hX iX3_isEachClassEqualIn_18 h1 rfl ?_
            refine e_icmp_ge hX iX3_isEachClassEqualIn_21 (fun c21 => ?_) (fun c21 => ?_)
            · have hin2 : i = n := by
                rcases Nat.lt_or_ge i n with h | h
                · exact absurd c21 (nI_ge h (by omega))
                · omega
              refine e_iinc hX iX3_isEachClassEqualIn_71 rfl (by first | exact nI_inc _ | rfl) (by decide) ?_
              refine e_goto hX iX3_isEachClassEqualIn_74 ?_
              refine e_loc [0, 1, 2, 3] ?_
              refine ih (m + 1) (by omega) (by omega) (fun m' z h4 h5 h6 h7 => ?_)
              by_cases e : m' = m
              · subst e; exact hk z h5 (by omega) h7
              · exact hinv m' z (by omega) h5 h6 h7
            · have hin2 : i < n := by
                rcases Nat.lt_or_ge i n with h | h
                · exact h
                · exact absurd (nI_le h (by omega)) c21
              have fj := fst_s s v i
              refine e_aload_n hX 0 iX3_isEachClassEqualIn_24 rfl rfl ?_
              refine e_get hX iX3_isEachClassEqualIn_25 h1 rfl ?_
              refine e_iload hX iX3_isEachClassEqualIn_28 rfl ?_
              refine e_iald hX i iX3_isEachClassEqualIn_30 h2 rfl (by omega) (by decide) ?_
              rw [h3 i hin2]
              refine e_iload_n hX 3 iX3_isEachClassEqualIn_31 rfl rfl ?_
              refine e_icmp_ne hX iX3_isEachClassEqualIn_32 (fun c32 => ?_) (fun c32 => ?_)
              · refine e_iinc hX iX3_isEachClassEqualIn_65 rfl (by first | exact nI_inc _ | rfl) (by decide) ?_
                refine e_goto hX iX3_isEachClassEqualIn_68 ?_
                refine e_loc [0, 1, 2, 3, 4] ?_
                refine ih' (i + 1) (by omega) (by omega) (by omega) (fun z h4 h5 h6 => ?_)
                by_cases e : z = i
                · subst e; exact absurd (by rw [h6]) c32
                · exact hk z h4 (by omega) h6
              · have hfm : fst s v i = m := (nI_eq (by omega) (by omega)).mp c32
                obtain ⟨wi, idi, hri⟩ := hr i hin2
                obtain ⟨wj, idj, hrj⟩ := hr m hin
                refine e_aload_n hX 1 iX3_isEachClassEqualIn_35 rfl rfl ?_
                refine e_iload hX iX3_isEachClassEqualIn_36 rfl ?_
                refine e_callV hX iX3_isEachClassEqualIn_38 (lst.hp hl) (c_lget (i := i) htr hl hin2) rfl rfl ⟨by decide, by decide, by decide, by decide⟩ (Nat.le_of_ble_eq_true rfl) (fun _ _ h => h.elim) (fun v9 ph9 hv9 => ?_)
                obtain ⟨rfl, e9⟩ := hv9
                subst ph9
                refine e_castS hX iX3_isEachClassEqualIn_41 klRX3_34 (rowAt.hp hri) rfl ?_
                refine e_iload_n hX 2 iX3_isEachClassEqualIn_44 rfl rfl ?_
                refine e_callV hX iX3_isEachClassEqualIn_45 hri.1 (c_value htr hri c hc) rfl rfl ⟨by decide, by decide, by decide, by decide⟩ (Nat.le_of_ble_eq_true rfl) (fun _ _ h => h.elim) (fun v9 ph9 hv9 => ?_)
                obtain ⟨rfl, e9⟩ := hv9
                subst ph9
                refine e_aload_n hX 1 iX3_isEachClassEqualIn_48 rfl rfl ?_
                refine e_iload_n hX 3 iX3_isEachClassEqualIn_49 rfl rfl ?_
                refine e_callV hX iX3_isEachClassEqualIn_50 (lst.hp hl) (c_lget (i := m) htr hl hin) rfl rfl ⟨by decide, by decide, by decide, by decide⟩ (Nat.le_of_ble_eq_true rfl) (fun _ _ h => h.elim) (fun v9 ph9 hv9 => ?_)
                obtain ⟨rfl, e9⟩ := hv9
                subst ph9
                refine e_castS hX iX3_isEachClassEqualIn_53 klRX3_34 (rowAt.hp hrj) rfl ?_
                refine e_iload_n hX 2 iX3_isEachClassEqualIn_56 rfl rfl ?_
                refine e_callV hX iX3_isEachClassEqualIn_57 hrj.1 (c_value htr hrj c hc) rfl rfl ⟨by decide, by decide, by decide, by decide⟩ (Nat.le_of_ble_eq_true rfl) (fun _ _ h => h.elim) (fun v9 ph9 hv9 => ?_)
                obtain ⟨rfl, e9⟩ := hv9
                subst ph9
                refine e_icmp_eq hX iX3_isEachClassEqualIn_60 (fun c60 => ?_) (fun c60 => ?_)
                · refine e_iinc hX iX3_isEachClassEqualIn_65 rfl (by first | exact nI_inc _ | rfl) (by decide) ?_
                  refine e_goto hX iX3_isEachClassEqualIn_68 ?_
                  refine e_loc [0, 1, 2, 3, 4] ?_
                  refine ih' (i + 1) (by omega) (by omega) (by omega) (fun z h4 h5 h6 => ?_)
                  by_cases e : z = i
                  · subst e; exact c60
                  · exact hk z h4 (by omega) h6
                · refine e_iconst (v := 0) hX iX3_isEachClassEqualIn_63 (by decide) ?_
                  exact e_zret hX hQ iX3_isEachClassEqualIn_64 rfl nar_0 (by decide) (by decide) ⟨by rw [fixB_f hin2 hmi hfm c60]; rfl, rfl⟩
        refine e_iload_n hX 3 iX3_isEachClassEqualIn_10 rfl rfl ?_
        refine e_iconst (v := 1) hX iX3_isEachClassEqualIn_11 (by decide) ?_
        refine e_iadd hX iX3_isEachClassEqualIn_12 ?_
        rw [show nI m + 1 = nI (m + 1) from nI_1 m]
        refine e_istore hX iX3_isEachClassEqualIn_13 (by decide) ?_
        refine e_loc [0, 1, 2, 3, 4] ?_
        exact inner (n + 1) (m + 1) (by omega) (by omega) (by omega) (fun z h4 h5 => by omega)
  refine e_iconst (v := 0) hX iX3_isEachClassEqualIn_0 (by decide) ?_
  refine e_istore_n hX 3 iX3_isEachClassEqualIn_1 rfl (by decide) ?_
  refine e_loc [0, 1, 2, 3] ?_
  exact loop (n + 1) 0 (by omega) (by omega) (fun m' z hz => absurd hz (Nat.not_lt_zero m'))
theorem c_eqInClass {l : Launch} (htr : l.stackTraces = false) {θ : e_T} {ph : e_PH} {pt fa n tb ed : Nat} {r : Nat → Nat} {v : Nat → Nat → Int32} {s : Int32} (h : prt θ ph pt fa n s v) (hl : lst θ ph tb ed n r) (hr : rws θ ph n r v) (hn : n ≤ 12) (c : Nat) (hc : c < 5) {q m : Nat} (hq : q < n) (hm : fst s v q = m) : MC yX3_equalInClass cX3_equalInClass 7 (some .int) 3 0 0 l θ [.ref pt, .ref tb, .int (nI m), .int (nI c), .int (v q c)] ph (fun z p => z = some (.int (nI (eqcN s c n v q))) ∧ p = ph) (fun _ _ => False) := by
  obtain ⟨h1, f, h2, h3⟩ := h
  refine MC.of htr (by decide) (Nat.le_of_ble_eq_true rfl) ?_
  intro x hX hQ hT
  let P : Nat → Bool := fun i => eqIn s (v i) (v q) && decide (v i c = v q c)
  have loop : ∀ (g i : Nat), n - i < g → i ≤ n → EJ θ x 6 [(0, .ref pt), (1, .ref tb), (2, .int (nI m)), (3, .int (nI c)), (4, .int (v q c)), (5, .int (nI (cntB i P))), (6, .int (nI i))] [] ph 0 0 := by
    intro g
    induction g with
    | zero => intro i hg; omega
    | succ g ih =>
      intro i hg hi
      have back : ∀ k, cntB (i + 1) P = k → i < n → EJ θ x 47 [(0, .ref pt), (1, .ref tb), (2, .int (nI m)), (3, .int (nI c)), (4, .int (v q c)), (5, .int (nI k)), (6, .int (nI i))] [] ph 0 0 := by
        intro k hm hin
        refine e_iinc hX iX3_equalInClass_47 rfl (by first | exact nI_inc _ | rfl) (by decide) ?_
        refine e_goto hX iX3_equalInClass_50 ?_
        refine e_loc [0, 1, 2, 3, 4, 5, 6] ?_
        have := ih (i + 1) (by omega) (by omega)
        rw [hm] at this
        exact this
      refine e_iload hX iX3_equalInClass_6 rfl ?_
      refine e_aload_n hX 0 iX3_equalInClass_8 rfl rfl ?_
      refine e_get hX iX3_equalInClass_9 h1 rfl ?_
      refine e_icmp_ge hX iX3_equalInClass_12 (fun c12 => ?_) (fun c12 => ?_)
      · have hin : i = n := by
          rcases Nat.lt_or_ge i n with h | h
          · exact absurd c12 (nI_ge h (by omega))
          · omega
        subst hin
        refine e_iload hX iX3_equalInClass_53 rfl ?_
        exact e_iret hX hQ iX3_equalInClass_55 rfl (by decide) (by decide) ⟨rfl, rfl⟩
      · have hin : i < n := by
          rcases Nat.lt_or_ge i n with h | h
          · exact h
          · exact absurd (nI_le h (by omega)) c12
        have fi := fst_s s v i
        have fq := fst_s s v q
        refine e_aload_n hX 0 iX3_equalInClass_15 rfl rfl ?_
        refine e_get hX iX3_equalInClass_16 h1 rfl ?_
        refine e_iload hX iX3_equalInClass_19 rfl ?_
        refine e_iald hX i iX3_equalInClass_21 h2 rfl (by omega) (by decide) ?_
        rw [h3 i hin]
        refine e_iload_n hX 2 iX3_equalInClass_22 rfl rfl ?_
        refine e_icmp_ne hX iX3_equalInClass_23 (fun c23 => ?_) (fun c23 => ?_)
        · exact back _ (cntB_s0 (and_f1 (by
            cases e : eqIn s (v i) (v q)
            · rfl
            · exact absurd (by rw [fst_eq.mpr e, hm]) c23))) hin
        · have e1 : eqIn s (v i) (v q) = true := fst_eq.mp (((nI_eq (by omega) (by omega)).mp c23).trans hm.symm)
          obtain ⟨wi, idi, hri⟩ := hr i hin
          refine e_aload_n hX 1 iX3_equalInClass_26 rfl rfl ?_
          refine e_iload hX iX3_equalInClass_27 rfl ?_
          refine e_callV hX iX3_equalInClass_29 (lst.hp hl) (c_lget (i := i) htr hl hin) rfl rfl ⟨by decide, by decide, by decide, by decide⟩ (Nat.le_of_ble_eq_true rfl) (fun _ _ h => h.elim) (fun v9 ph9 hv9 => ?_)
          obtain ⟨rfl, e9⟩ := hv9
          subst ph9
          refine e_castS hX iX3_equalInClass_32 klRX3_34 (rowAt.hp hri) rfl ?_
          refine e_iload_n hX 3 iX3_equalInClass_35 rfl rfl ?_
          refine e_callV hX iX3_equalInClass_36 hri.1 (c_value htr hri c hc) rfl rfl ⟨by decide, by decide, by decide, by decide⟩ (Nat.le_of_ble_eq_true rfl) (fun _ _ h => h.elim) (fun v9 ph9 hv9 => ?_)
          obtain ⟨rfl, e9⟩ := hv9
          subst ph9
          refine e_iload hX iX3_equalInClass_39 rfl ?_
          refine e_icmp_ne hX iX3_equalInClass_41 (fun c41 => ?_) (fun c41 => ?_)
          · exact back _ (cntB_s0 (and_f2 (decide_eq_false c41))) hin
          · refine e_iinc hX iX3_equalInClass_44 rfl (by first | exact nI_inc _ | rfl) (by decide) ?_
            refine e_loc [0, 1, 2, 3, 4, 5, 6] ?_
            exact back _ (cntB_s1 (and_tt e1 (decide_eq_true c41))) hin
  refine e_iconst (v := 0) hX iX3_equalInClass_0 (by decide) ?_
  refine e_istore hX iX3_equalInClass_1 (by decide) ?_
  refine e_iconst (v := 0) hX iX3_equalInClass_3 (by decide) ?_
  refine e_istore hX iX3_equalInClass_4 (by decide) ?_
  refine e_loc [0, 1, 2, 3, 4, 5, 6] ?_
  exact loop (n + 1) 0 (by omega) (by omega)
theorem c_remIn {l : Launch} (htr : l.stackTraces = false) {θ : e_T} {ph : e_PH} {pt fa n tb ed : Nat} {r : Nat → Nat} {v : Nat → Nat → Int32} {s : Int32} (h : prt θ ph pt fa n s v) (hl : lst θ ph tb ed n r) (hr : rws θ ph n r v) (hn : n ≤ 12) (c : Nat) (hc : c < 5) {m : Nat} (hm : m < n) : MC yX3_removalsInClass cX3_removalsInClass 7 (some .int) 4 0 0 l θ [.ref pt, .ref tb, .int (nI m), .int (nI c)] ph (fun z p => z = some (.int (nI (memN s n v m - mostN s c n v m))) ∧ p = ph) (fun _ _ => False) := by
  have h0 := h
  obtain ⟨h1, f, h2, h3⟩ := h
  refine MC.of htr (by decide) (Nat.le_of_ble_eq_true rfl) ?_
  intro x hX hQ hT
  let P : Nat → Bool := fun i => decide (fst s v i = m)
  let G : Nat → Nat := fun i => if fst s v i = m then eqcN s c n v i else 0
  have loop : ∀ (g i : Nat), n - i < g → i ≤ n → EJ θ x 9 [(0, .ref pt), (1, .ref tb), (2, .int (nI m)), (3, .int (nI c)), (4, .int (nI (cntB i P))), (5, .int (nI (mxN i G))), (6, .int (nI i))] [] ph 0 0 := by
    intro g
    induction g with
    | zero => intro i hg; omega
    | succ g ih =>
      intro i hg hi
      refine e_iload hX iX3_removalsInClass_9 rfl ?_
      refine e_aload_n hX 0 iX3_removalsInClass_11 rfl rfl ?_
      refine e_get hX iX3_removalsInClass_12 h1 rfl ?_
      refine e_icmp_ge hX iX3_removalsInClass_15 (fun c15 => ?_) (fun c15 => ?_)
      · have hin : i = n := by
          rcases Nat.lt_or_ge i n with h | h
          · exact absurd c15 (nI_ge h (by omega))
          · omega
        subst hin
        refine e_iload hX iX3_removalsInClass_65 rfl ?_
        refine e_iload hX iX3_removalsInClass_67 rfl ?_
        refine e_isub hX iX3_removalsInClass_69 ?_
        rw [pk_sub (show mxN i G ≤ cntB i P from mostN_mem)]
        exact e_iret hX hQ iX3_removalsInClass_70 rfl (by decide) (by decide) ⟨rfl, rfl⟩
      · have hin : i < n := by
          rcases Nat.lt_or_ge i n with h | h
          · exact h
          · exact absurd (nI_le h (by omega)) c15
        have fi := fst_s s v i
        refine e_aload_n hX 0 iX3_removalsInClass_18 rfl rfl ?_
        refine e_get hX iX3_removalsInClass_19 h1 rfl ?_
        refine e_iload hX iX3_removalsInClass_22 rfl ?_
        refine e_iald hX i iX3_removalsInClass_24 h2 rfl (by omega) (by decide) ?_
        rw [h3 i hin]
        refine e_iload_n hX 2 iX3_removalsInClass_25 rfl rfl ?_
        refine e_icmp_ne hX iX3_removalsInClass_26 (fun c26 => ?_) (fun c26 => ?_)
        · have e1 : ¬ fst s v i = m := fun e => c26 (by rw [e])
          refine e_iinc hX iX3_removalsInClass_59 rfl (by first | exact nI_inc _ | rfl) (by decide) ?_
          refine e_goto hX iX3_removalsInClass_62 ?_
          refine e_loc [0, 1, 2, 3, 4, 5, 6] ?_
          have := ih (i + 1) (by omega) (by omega)
          rw [cntB_s0 (show P i = false from decide_eq_false e1), show mxN (i + 1) G = mxN i G by
            show (if mxN i G < G i then G i else mxN i G) = _
            rw [show G i = 0 from if_neg e1, if_neg (Nat.not_lt_zero _)]] at this
          exact this
        · have e1 : fst s v i = m := (nI_eq (by omega) (by omega)).mp c26
          have b1 : mxN i G ≤ 12 := mxN_le (fun z _ => by
            show (if fst s v z = m then eqcN s c n v z else 0) ≤ 12
            by_cases e : fst s v z = m
            · rw [if_pos e]; exact Nat.le_trans (cntB_le _ _) hn
            · rw [if_neg e]; exact Nat.zero_le _)
          have b2 : eqcN s c n v i ≤ 12 := Nat.le_trans (cntB_le _ _) hn
          obtain ⟨wi, idi, hri⟩ := hr i hin
          refine e_iinc hX iX3_removalsInClass_29 rfl (by first | exact nI_inc _ | rfl) (by decide) ?_
          refine e_iload hX iX3_removalsInClass_32 rfl ?_
          refine e_aload_n hX 0 iX3_removalsInClass_34 rfl rfl ?_
          refine e_aload_n hX 1 iX3_removalsInClass_35 rfl rfl ?_
          refine e_iload_n hX 2 iX3_removalsInClass_36 rfl rfl ?_
          refine e_iload_n hX 3 iX3_removalsInClass_37 rfl rfl ?_
          refine e_aload_n hX 1 iX3_removalsInClass_38 rfl rfl ?_
          refine e_iload hX iX3_removalsInClass_39 rfl ?_
          refine e_callV hX iX3_removalsInClass_41 (lst.hp hl) (c_lget (i := i) htr hl hin) rfl rfl ⟨by decide, by decide, by decide, by decide⟩ (Nat.le_of_ble_eq_true rfl) (fun _ _ h => h.elim) (fun v9 ph9 hv9 => ?_)
          obtain ⟨rfl, e9⟩ := hv9
          subst ph9
          refine e_castS hX iX3_removalsInClass_44 klRX3_34 (rowAt.hp hri) rfl ?_
          refine e_iload_n hX 3 iX3_removalsInClass_47 rfl rfl ?_
          refine e_callV hX iX3_removalsInClass_48 hri.1 (c_value htr hri c hc) rfl rfl ⟨by decide, by decide, by decide, by decide⟩ (Nat.le_of_ble_eq_true rfl) (fun _ _ h => h.elim) (fun v9 ph9 hv9 => ?_)
          obtain ⟨rfl, e9⟩ := hv9
          subst ph9
          refine e_callV hX iX3_removalsInClass_51 h1 (c_eqInClass htr h0 hl hr hn c hc hin e1) rfl rfl ⟨by decide, by decide, by decide, by decide⟩ (Nat.le_of_ble_eq_true rfl) (fun _ _ h => h.elim) (fun v9 ph9 hv9 => ?_)
          obtain ⟨rfl, e9⟩ := hv9
          subst ph9
          refine e_max hX iX3_removalsInClass_54 mlRX3_52 ⟨by decide, Nat.le_of_ble_eq_true rfl, by decide, by decide⟩ ?_
          refine e_istore hX iX3_removalsInClass_57 (by decide) ?_
          refine e_iinc hX iX3_removalsInClass_59 rfl (by first | exact nI_inc _ | rfl) (by decide) ?_
          refine e_goto hX iX3_removalsInClass_62 ?_
          refine e_loc [0, 1, 2, 3, 4, 5, 6] ?_
          have := ih (i + 1) (by omega) (by omega)
          rw [cntB_s1 (show P i = true from decide_eq_true e1), show nI (mxN (i + 1) G) = (if nI (mxN i G) < nI (eqcN s c n v i) then nI (eqcN s c n v i) else nI (mxN i G)) by
            show nI (if mxN i G < G i then G i else mxN i G) = _
            rw [show G i = eqcN s c n v i from if_pos e1]
            by_cases e : mxN i G < eqcN s c n v i
            · rw [if_pos e, if_pos ((nI_ltI (by omega) (by omega)).mpr e)]
            · rw [if_neg e, if_neg (fun z => e ((nI_ltI (by omega) (by omega)).mp z))]] at this
          exact this
  refine e_iconst (v := 0) hX iX3_removalsInClass_0 (by decide) ?_
  refine e_istore hX iX3_removalsInClass_1 (by decide) ?_
  refine e_iconst (v := 0) hX iX3_removalsInClass_3 (by decide) ?_
  refine e_istore hX iX3_removalsInClass_4 (by decide) ?_
  refine e_iload_n hX 2 iX3_removalsInClass_6 rfl rfl ?_
  refine e_istore hX iX3_removalsInClass_7 (by decide) ?_
  refine e_loc [0, 1, 2, 3, 4, 5, 6] ?_
  have z1 : ∀ i, i ≤ m → cntB i P = 0 ∧ mxN i G = 0 := by
    intro i
    induction i with
    | zero => intro _; exact ⟨rfl, rfl⟩
    | succ i ih =>
      intro hi
      have e1 : ¬ fst s v i = m := fun e => by have := (fst_s s v i).1; omega
      refine ⟨by rw [cntB_s0 (show P i = false from decide_eq_false e1)]; exact (ih (by omega)).1, ?_⟩
      show (if mxN i G < G i then G i else mxN i G) = 0
      rw [show G i = 0 from if_neg e1, if_neg (Nat.not_lt_zero _)]
      exact (ih (by omega)).2
  have := loop (n + 1) m (by omega) (by omega)
  rw [(z1 m (Nat.le_refl _)).1, (z1 m (Nat.le_refl _)).2] at this
  exact this
theorem c_remDet {l : Launch} (htr : l.stackTraces = false) {θ : e_T} {ph : e_PH} {pt fa n tb ed : Nat} {r : Nat → Nat} {v : Nat → Nat → Int32} {s : Int32} (h : prt θ ph pt fa n s v) (hl : lst θ ph tb ed n r) (hr : rws θ ph n r v) (hn : n ≤ 12) (c : Nat) (hc : c < 5) : MC yX3_removalsToDetermine cX3_removalsToDetermine 5 (some .int) 5 0 0 l θ [.ref pt, .ref tb, .int (nI c)] ph (fun z p => z = some (.int (nI (errN s c n v))) ∧ p = ph) (fun _ _ => False) := by
  have h0 := h
  obtain ⟨h1, f, h2, h3⟩ := h
  refine MC.of htr (by decide) (Nat.le_of_ble_eq_true rfl) ?_
  intro x hX hQ hT
  let G : Nat → Nat := fun k => if fst s v k = k then memN s n v k - mostN s c n v k else 0
  have loop : ∀ (g i : Nat), n - i < g → i ≤ n → EJ θ x 5 [(0, .ref pt), (1, .ref tb), (2, .int (nI c)), (3, .int (nI (sumN i G))), (4, .int (nI i))] [] ph 0 0 := by
    intro g
    induction g with
    | zero => intro i hg; omega
    | succ g ih =>
      intro i hg hi
      refine e_iload hX iX3_removalsToDetermine_5 rfl ?_
      refine e_aload_n hX 0 iX3_removalsToDetermine_7 rfl rfl ?_
      refine e_get hX iX3_removalsToDetermine_8 h1 rfl ?_
      refine e_icmp_ge hX iX3_removalsToDetermine_11 (fun c11 => ?_) (fun c11 => ?_)
      · have hin : i = n := by
          rcases Nat.lt_or_ge i n with h | h
          · exact absurd c11 (nI_ge h (by omega))
          · omega
        subst hin
        refine e_iload_n hX 3 iX3_removalsToDetermine_43 rfl rfl ?_
        exact e_iret hX hQ iX3_removalsToDetermine_44 rfl (by decide) (by decide) ⟨rfl, rfl⟩
      · have hin : i < n := by
          rcases Nat.lt_or_ge i n with h | h
          · exact h
          · exact absurd (nI_le h (by omega)) c11
        have fi := fst_s s v i
        refine e_aload_n hX 0 iX3_removalsToDetermine_14 rfl rfl ?_
        refine e_get hX iX3_removalsToDetermine_15 h1 rfl ?_
        refine e_iload hX iX3_removalsToDetermine_18 rfl ?_
        refine e_iald hX i iX3_removalsToDetermine_20 h2 rfl (by omega) (by decide) ?_
        rw [h3 i hin]
        refine e_iload hX iX3_removalsToDetermine_21 rfl ?_
        refine e_icmp_ne hX iX3_removalsToDetermine_23 (fun c23 => ?_) (fun c23 => ?_)
        · have e1 : ¬ fst s v i = i := fun e => c23 (by rw [e])
          refine e_iinc hX iX3_removalsToDetermine_37 rfl (by first | exact nI_inc _ | rfl) (by decide) ?_
          refine e_goto hX iX3_removalsToDetermine_40 ?_
          refine e_loc [0, 1, 2, 3, 4] ?_
          have := ih (i + 1) (by omega) (by omega)
          rw [show sumN (i + 1) G = sumN i G by
            show sumN i G + G i = _
            rw [show G i = 0 from if_neg e1, Nat.add_zero]] at this
          exact this
        · have e1 : fst s v i = i := (nI_eq (by omega) (by omega)).mp c23
          refine e_iload_n hX 3 iX3_removalsToDetermine_26 rfl rfl ?_
          refine e_aload_n hX 0 iX3_removalsToDetermine_27 rfl rfl ?_
          refine e_aload_n hX 1 iX3_removalsToDetermine_28 rfl rfl ?_
          refine e_iload hX iX3_removalsToDetermine_29 rfl ?_
          refine e_iload_n hX 2 iX3_removalsToDetermine_31 rfl rfl ?_
          refine e_callV hX iX3_removalsToDetermine_32 h1 (c_remIn htr h0 hl hr hn c hc hin) rfl rfl ⟨by decide, by decide, by decide, by decide⟩ (Nat.le_of_ble_eq_true rfl) (fun _ _ h => h.elim) (fun v9 ph9 hv9 => ?_)
          obtain ⟨rfl, e9⟩ := hv9
          subst ph9
          refine e_iadd hX iX3_removalsToDetermine_35 ?_
          rw [nI_add]
          refine e_istore_n hX 3 iX3_removalsToDetermine_36 rfl (by decide) ?_
          refine e_iinc hX iX3_removalsToDetermine_37 rfl (by first | exact nI_inc _ | rfl) (by decide) ?_
          refine e_goto hX iX3_removalsToDetermine_40 ?_
          refine e_loc [0, 1, 2, 3, 4] ?_
          have := ih (i + 1) (by omega) (by omega)
          rw [show sumN (i + 1) G = sumN i G + (memN s n v i - mostN s c n v i) by
            show sumN i G + G i = _
            rw [show G i = _ from if_pos e1]] at this
          exact this
  refine e_iconst (v := 0) hX iX3_removalsToDetermine_0 (by decide) ?_
  refine e_istore_n hX 3 iX3_removalsToDetermine_1 rfl (by decide) ?_
  refine e_iconst (v := 0) hX iX3_removalsToDetermine_2 (by decide) ?_
  refine e_istore hX iX3_removalsToDetermine_3 (by decide) ?_
  refine e_loc [0, 1, 2, 3, 4] ?_
  exact loop (n + 1) 0 (by omega) (by omega)
