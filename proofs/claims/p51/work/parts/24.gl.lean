theorem nI_same {i n : Nat} (hi : i ≤ n) (hn : n < 2 ^ 31) (h : nI n ≤ nI i) : i = n := by
  rcases Nat.lt_or_ge i n with c | c
  · exact absurd h (nI_ge c hn)
  · omega
theorem nI_less {i n : Nat} (hi : i ≤ n) (hn : n < 2 ^ 31) (h : ¬ nI n ≤ nI i) : i < n := by
  rcases Nat.lt_or_ge i n with c | c
  · exact c
  · exact absurd (nI_le c (by omega)) h
/-- insertion does not look at the places from p on -/
theorem insG_hi {y : Int32} : ∀ {p i : Nat} {f : Nat → Int32}, p < i → insG p f y i = f i
  | 0, i, f, h => upd_n (by omega)
  | p + 1, i, f, h => by
    unfold insG
    by_cases c : y < f p
    · rw [if_pos c, insG_hi (by omega), upd_n (by omega)]
    · rw [if_neg c, upd_n (by omega)]
theorem insG_agree {y : Int32} : ∀ {p : Nat} {f f' : Nat → Int32}, (∀ i, i < p → f i = f' i) → ∀ i, i ≤ p → insG p f y i = insG p f' y i
  | 0, f, f', h, i, hi => by
    have : i = 0 := by omega
    subst this
    unfold insG
    rw [upd_s, upd_s]
  | p + 1, f, f', h, i, hi => by
    unfold insG
    rw [h p (by omega)]
    by_cases c : y < f' p
    · rw [if_pos c, if_pos c]
      by_cases e : i = p + 1
      · subst e
        rw [insG_hi (by omega), insG_hi (by omega), upd_s, upd_s]
      · exact insG_agree (fun j hj => by rw [upd_n (by omega), upd_n (by omega)]; exact h j (by omega)) i (by omega)
    · rw [if_neg c, if_neg c]
      by_cases e : i = p + 1
      · subst e; rw [upd_s, upd_s]
      · rw [upd_n e, upd_n e]; exact h i (by omega)
/-- the numbers y i of those with P i, in order -/
def srtG (f0 : Nat → Int32) (P : Nat → Bool) (y : Nat → Int32) : Nat → Nat × (Nat → Int32)
  | 0 => (0, f0)
  | i + 1 => if P i = true then ((srtG f0 P y i).1 + 1, insG (srtG f0 P y i).1 (srtG f0 P y i).2 (y i)) else srtG f0 P y i
theorem srtG_le {f0 : Nat → Int32} {P : Nat → Bool} {y : Nat → Int32} : ∀ n, (srtG f0 P y n).1 ≤ n
  | 0 => Nat.le_refl _
  | n + 1 => by
    have := srtG_le (f0 := f0) (P := P) (y := y) n
    unfold srtG
    by_cases c : P n = true
    · rw [if_pos c]; exact Nat.succ_le_succ this
    · rw [if_neg c]; omega
theorem srtG_agree {f0 f1 : Nat → Int32} {P : Nat → Bool} {y : Nat → Int32} : ∀ n, (srtG f0 P y n).1 = (srtG f1 P y n).1 ∧ ∀ i, i < (srtG f0 P y n).1 → (srtG f0 P y n).2 i = (srtG f1 P y n).2 i
  | 0 => ⟨rfl, fun i hi => absurd hi (Nat.not_lt_zero i)⟩
  | n + 1 => by
    have h := srtG_agree (f0 := f0) (f1 := f1) (P := P) (y := y) n
    unfold srtG
    by_cases c : P n = true
    · rw [if_pos c, if_pos c]
      refine ⟨by show _ + 1 = _ + 1; rw [h.1], fun i hi => ?_⟩
      show insG (srtG f0 P y n).1 _ _ i = insG (srtG f1 P y n).1 _ _ i
      rw [← h.1]
      exact insG_agree h.2 i (Nat.le_of_lt_succ hi)
    · rw [if_neg c, if_neg c]; exact h
def medG (P : Nat → Bool) (y : Nat → Int32) (n : Nat) : Int32 := midG (srtG (fun _ => 0) P y n).1 (srtG (fun _ => 0) P y n).2
theorem medG_any {f0 : Nat → Int32} {P : Nat → Bool} {y : Nat → Int32} {n : Nat} : midG (srtG f0 P y n).1 (srtG f0 P y n).2 = medG P y n := by
  have h := srtG_agree (f0 := f0) (f1 := fun _ => 0) (P := P) (y := y) n
  unfold medG midG
  rw [← h.1]
  by_cases c : (srtG f0 P y n).1 = 0
  · rw [if_pos c, if_pos c]
  · rw [if_neg c, if_neg c]; exact h.2 _ (by omega)
def medN (σ : SG) (c : Nat) : Int32 := medG (fun i => pres (gV σ i c)) (fun i => gV σ i c) (gN σ)
def sprN (σ : SG) (c : Nat) (m : Int32) : Int32 := medG (fun i => pres (gV σ i c)) (fun i => dist (gV σ i c) m) (gN σ)
def prsN (σ : SG) (c : Nat) : Nat := cntB (gN σ) (fun i => pres (gV σ i c))
def bktN (σ : SG) (c b : Nat) : Nat := cntB (gN σ) (fun i => decide (bktG (gV σ i c) = nI b))
def detB (σ : SG) (s c : Nat) : Bool := !s.testBit c && fixB (nI s) c (gN σ) (gV σ)
section GL
variable {θ : e_T} {ph : e_PH} {g : Nat} {X : Nat → Prop} {σ : SG} {κ : Nat → Nat} {te be ue : Nat} {r wr b wb u : Nat → Nat}
theorem c_detC {l : Launch} (htr : l.stackTraces = false) (hg : GI θ ph g X σ κ te be ue r wr b wb u) {s c : Nat} (hs : s < 32) (hc : c < 5) : MC yX11_isDeterminedInClasses cX11_isDeterminedInClasses 3 (some .boolean) 4 0 0 l θ [.ref g, .int (nI s), .int (nI c)] ph (fun z p => z = some (.int (b2i (detB σ s c))) ∧ GI θ p g X σ κ te be ue r wr b wb u ∧ kx ph p X) (fun _ _ => False) := by
  have hn := hg.2.2.2.2.2.2.2.2.1.1
  refine MC.of htr (by decide) (Nat.le_of_ble_eq_true rfl) ?_
  intro x hX hQ hT
  refine e_iload_n hX 2 iX11_isDeterminedInClasses_0 rfl rfl ?_
  refine e_iload_n hX 1 iX11_isDeterminedInClasses_1 rfl rfl ?_
  refine e_callS hX iX11_isDeterminedInClasses_2 (c_isIn htr c (nI s)) rfl rfl ⟨by decide, by decide, by decide, by decide⟩ (Nat.le_of_ble_eq_true rfl) (fun _ _ h => h.elim) (fun v9 ph9 hv9 => ?_)
  obtain ⟨rfl, e9⟩ := hv9
  subst ph9
  rw [sb_n s (show c < 32 by omega)]
  refine e_if_eq hX iX11_isDeterminedInClasses_5 (fun c5 => ?_) (fun c5 => ?_)
  · refine e_aload_n hX 0 iX11_isDeterminedInClasses_10 rfl rfl ?_
    refine e_get hX iX11_isDeterminedInClasses_11 hg.1 rfl ?_
    refine e_aload_n hX 0 iX11_isDeterminedInClasses_14 rfl rfl ?_
    refine e_get hX iX11_isDeterminedInClasses_15 hg.1 rfl ?_
    refine e_iload_n hX 1 iX11_isDeterminedInClasses_18 rfl rfl ?_
    obtain ⟨-, ⟨a2, f2, j1, j2⟩, -⟩ := hg.2.2.2.2.2.1
    refine e_callV hX iX11_isDeterminedInClasses_19 j1 (c_divide htr j1 j2 hg.2.1.1 hg.rws hn (nI s)) rfl rfl ⟨by decide, by decide, by decide, by decide⟩ (Nat.le_of_ble_eq_true rfl) (fun _ _ h => h.elim) (fun v9 ph9 hv9 => ?_)
    obtain ⟨rfl, f, e1, e2, e3, e4⟩ := hv9
    obtain ⟨hg2, hx⟩ := hg.divide e4 e1 e2
    refine e_aload_n hX 0 iX11_isDeterminedInClasses_22 rfl rfl ?_
    refine e_get hX iX11_isDeterminedInClasses_23 hg2.1 rfl ?_
    refine e_aload_n hX 0 iX11_isDeterminedInClasses_26 rfl rfl ?_
    refine e_get hX iX11_isDeterminedInClasses_27 hg2.1 rfl ?_
    refine e_iload_n hX 2 iX11_isDeterminedInClasses_30 rfl rfl ?_
    refine e_callV hX iX11_isDeterminedInClasses_31 e1 (c_eachEq htr ⟨e1, f, e2, e3⟩ hg2.2.1.1 hg2.rws hn c hc) rfl rfl ⟨by decide, by decide, by decide, by decide⟩ (Nat.le_of_ble_eq_true rfl) (fun _ _ h => h.elim) (fun v9 ph9 hv9 => ?_)
    obtain ⟨rfl, e9⟩ := hv9
    subst ph9
    exact e_zret hX hQ iX11_isDeterminedInClasses_34 rfl (nar_b _) (by decide) (by decide) ⟨by unfold detB; rw [b2i_0.mp c5]; rfl, hg2, hx⟩
  · refine e_iconst (v := 0) hX iX11_isDeterminedInClasses_8 (by decide) ?_
    exact e_zret hX hQ iX11_isDeterminedInClasses_9 rfl nar_0 (by decide) (by decide) ⟨by rw [show detB σ s c = false from and_f1 (by rw [b2i_n0.mp c5]; rfl)]; rfl, hg, kx.refl⟩
theorem c_tell {l : Launch} (htr : l.stackTraces = false) (hg : GI θ ph g X σ κ te be ue r wr b wb u) {s : Nat} : MC yX11_isTellingRowsApart cX11_isTellingRowsApart 2 (some .boolean) 4 0 0 l θ [.ref g, .int (nI s)] ph (fun z p => z = some (.int (b2i (keyB (nI s) (gN σ) (gV σ)))) ∧ GI θ p g X σ κ te be ue r wr b wb u ∧ kx ph p X) (fun _ _ => False) := by
  have hn := hg.2.2.2.2.2.2.2.2.1.1
  refine MC.of htr (by decide) (Nat.le_of_ble_eq_true rfl) ?_
  intro x hX hQ hT
  refine e_aload_n hX 0 iX11_isTellingRowsApart_0 rfl rfl ?_
  refine e_get hX iX11_isTellingRowsApart_1 hg.1 rfl ?_
  refine e_aload_n hX 0 iX11_isTellingRowsApart_4 rfl rfl ?_
  refine e_get hX iX11_isTellingRowsApart_5 hg.1 rfl ?_
  refine e_iload_n hX 1 iX11_isTellingRowsApart_8 rfl rfl ?_
  obtain ⟨-, ⟨a2, f2, j1, j2⟩, -⟩ := hg.2.2.2.2.2.1
  refine e_callV hX iX11_isTellingRowsApart_9 j1 (c_divide htr j1 j2 hg.2.1.1 hg.rws hn (nI s)) rfl rfl ⟨by decide, by decide, by decide, by decide⟩ (Nat.le_of_ble_eq_true rfl) (fun _ _ h => h.elim) (fun v9 ph9 hv9 => ?_)
  obtain ⟨rfl, f, e1, e2, e3, e4⟩ := hv9
  obtain ⟨hg2, hx⟩ := hg.divide e4 e1 e2
  refine e_aload_n hX 0 iX11_isTellingRowsApart_12 rfl rfl ?_
  refine e_get hX iX11_isTellingRowsApart_13 hg2.1 rfl ?_
  refine e_callV hX iX11_isTellingRowsApart_16 e1 (c_alone htr ⟨e1, f, e2, e3⟩ hn) rfl rfl ⟨by decide, by decide, by decide, by decide⟩ (Nat.le_of_ble_eq_true rfl) (fun _ _ h => h.elim) (fun v9 ph9 hv9 => ?_)
  obtain ⟨rfl, e9⟩ := hv9
  subst ph9
  exact e_zret hX hQ iX11_isTellingRowsApart_19 rfl (nar_b _) (by decide) (by decide) ⟨rfl, hg2, hx⟩
theorem c_detP {l : Launch} (htr : l.stackTraces = false) (hg : GI θ ph g X σ κ te be ue r wr b wb u) {s c : Nat} (hs : s < 32) (hc : c < 5) : MC yX11_isDeterminedInPairs cX11_isDeterminedInPairs 7 (some .boolean) 3 0 0 l θ [.ref g, .int (nI s), .int (nI c)] ph (fun z p => z = some (.int (b2i (detB σ s c))) ∧ p = ph) (fun _ _ => False) := by
  have hn := hg.2.2.2.2.2.2.2.2.1.1
  obtain ⟨gO, ⟨gT, gTr⟩, -⟩ := hg
  refine MC.of htr (by decide) (Nat.le_of_ble_eq_true rfl) ?_
  intro x hX hQ hT
  let P : Nat → Nat → Bool := fun k i => !eqIn (nI s) (gV σ k) (gV σ i) || decide (gV σ k c = gV σ i c)
  have outer : s.testBit c = false → ∀ (q i : Nat), gN σ - i < q → i ≤ gN σ → (∀ k, k < i → ∀ j, j < k → P k j = true) → EJ θ x 12 [(0, .ref g), (1, .int (nI s)), (2, .int (nI c)), (3, .int (nI i))] [] ph 0 0 := by
    intro hsc q
    induction q with
    | zero => intro i hg; omega
    | succ q ih =>
      intro i hq hi hinv
      refine e_iload_n hX 3 iX11_isDeterminedInPairs_12 rfl rfl ?_
      refine e_aload_n hX 0 iX11_isDeterminedInPairs_13 rfl rfl ?_
      refine e_get hX iX11_isDeterminedInPairs_14 gO rfl ?_
      refine e_callV hX iX11_isDeterminedInPairs_17 (lst.hp gT) (c_size htr gT) rfl rfl ⟨by decide, by decide, by decide, by decide⟩ (Nat.le_of_ble_eq_true rfl) (fun _ _ h => h.elim) (fun v9 ph9 hv9 => ?_)
      obtain ⟨rfl, e9⟩ := hv9
      subst ph9
      refine e_icmp_ge hX iX11_isDeterminedInPairs_20 (fun c20 => ?_) (fun c20 => ?_)
      · have hin := nI_same hi (by omega) c20
        refine e_iconst (v := 1) hX iX11_isDeterminedInPairs_99 (by decide) ?_
        exact e_zret hX hQ iX11_isDeterminedInPairs_100 rfl nar_1 (by decide) (by decide) ⟨by rw [show detB σ s c = true from and_tt (by rw [hsc]; rfl) (allB_t.mpr (fun k hk => allB_t.mpr (fun j hj => hinv k (by omega) j hj)))]; rfl, rfl⟩
      · have hin := nI_less hi (by omega) c20
        have inner : ∀ (q' j : Nat), i - j < q' → j ≤ i → (∀ z, z < j → P i z = true) → EJ θ x 39 [(0, .ref g), (1, .int (nI s)), (2, .int (nI c)), (3, .int (nI i)), (4, .ref (r i)), (5, .int (nI j))] [] ph 0 0 := by
          intro q'
          induction q' with
          | zero => intro j hg'; omega
          | succ q' ih' =>
            intro j hq' hj hk
            have next : ∀ lvx, lres lvx [0, 1, 2, 3, 4, 5] = [(0, .ref g), (1, .int (nI s)), (2, .int (nI c)), (3, .int (nI i)), (4, .ref (r i)), (5, .int (nI j))] → j < i → P i j = true → EJ θ x 87 lvx [] ph 0 0 := by
              intro lvx hlv hji hp
              refine e_loc [0, 1, 2, 3, 4, 5] ?_
              rw [hlv]
              refine e_iinc hX iX11_isDeterminedInPairs_87 rfl (by first | exact nI_inc _ | rfl) (by decide) ?_
              refine e_goto hX iX11_isDeterminedInPairs_90 ?_
              refine e_loc [0, 1, 2, 3, 4, 5] ?_
              refine ih' (j + 1) (by omega) (by omega) (fun z hz => ?_)
              by_cases e : z = j
              · subst e; exact hp
              · exact hk z (by omega)
            refine e_iload hX iX11_isDeterminedInPairs_39 rfl ?_
            refine e_iload_n hX 3 iX11_isDeterminedInPairs_41 rfl rfl ?_
            refine e_icmp_ge hX iX11_isDeterminedInPairs_42 (fun c42 => ?_) (fun c42 => ?_)
            · have hji := nI_same hj (by omega) c42
              subst hji
              refine e_iinc hX iX11_isDeterminedInPairs_93 rfl (by first | exact nI_inc _ | rfl) (by decide) ?_
              refine e_goto hX iX11_isDeterminedInPairs_96 ?_
              refine e_loc [0, 1, 2, 3] ?_
              refine ih (j + 1) (by omega) (by omega) (fun k hk2 z hz => ?_)
              by_cases e : k = j
              · subst e; exact hk z hz
              · exact hinv k (by omega) z hz
            · have hji := nI_less hj (by omega) c42
              refine e_aload_n hX 0 iX11_isDeterminedInPairs_45 rfl rfl ?_
              refine e_get hX iX11_isDeterminedInPairs_46 gO rfl ?_
              refine e_iload hX iX11_isDeterminedInPairs_49 rfl ?_
              refine e_callV hX iX11_isDeterminedInPairs_51 (lst.hp gT) (c_lget (i := j) htr gT (by omega)) rfl rfl ⟨by decide, by decide, by decide, by decide⟩ (Nat.le_of_ble_eq_true rfl) (fun _ _ h => h.elim) (fun v9 ph9 hv9 => ?_)
              obtain ⟨rfl, e9⟩ := hv9
              subst ph9
              refine e_castS hX iX11_isDeterminedInPairs_54 klRX11_79 (rowAt.hp (gTr j (by omega))) rfl ?_
              refine e_astore hX iX11_isDeterminedInPairs_57 (by decide) ?_
              refine e_aload hX iX11_isDeterminedInPairs_59 rfl ?_
              refine e_iload_n hX 2 iX11_isDeterminedInPairs_61 rfl rfl ?_
              refine e_callV hX iX11_isDeterminedInPairs_62 (gTr i hin).1 (c_value htr (gTr i hin) c hc) rfl rfl ⟨by decide, by decide, by decide, by decide⟩ (Nat.le_of_ble_eq_true rfl) (fun _ _ h => h.elim) (fun v9 ph9 hv9 => ?_)
              obtain ⟨rfl, e9⟩ := hv9
              subst ph9
              refine e_aload hX iX11_isDeterminedInPairs_65 rfl ?_
              refine e_iload_n hX 2 iX11_isDeterminedInPairs_67 rfl rfl ?_
              refine e_callV hX iX11_isDeterminedInPairs_68 (gTr j (by omega)).1 (c_value htr (gTr j (by omega)) c hc) rfl rfl ⟨by decide, by decide, by decide, by decide⟩ (Nat.le_of_ble_eq_true rfl) (fun _ _ h => h.elim) (fun v9 ph9 hv9 => ?_)
              obtain ⟨rfl, e9⟩ := hv9
              subst ph9
              refine e_icmp_eq hX iX11_isDeterminedInPairs_71 (fun c71 => ?_) (fun c71 => ?_)
              · exact next _ rfl hji (or_t2 (decide_eq_true c71))
              · refine e_aload hX iX11_isDeterminedInPairs_74 rfl ?_
                refine e_iload_n hX 1 iX11_isDeterminedInPairs_76 rfl rfl ?_
                refine e_aload hX iX11_isDeterminedInPairs_77 rfl ?_
                refine e_callV hX iX11_isDeterminedInPairs_79 (gTr i hin).1 (c_isEqualIn htr (gTr i hin) (gTr j (by omega)) (nI s)) rfl rfl ⟨by decide, by decide, by decide, by decide⟩ (Nat.le_of_ble_eq_true rfl) (fun _ _ h => h.elim) (fun v9 ph9 hv9 => ?_)
                obtain ⟨rfl, e9⟩ := hv9
                subst ph9
                refine e_if_eq hX iX11_isDeterminedInPairs_82 (fun c82 => ?_) (fun c82 => ?_)
                · exact next _ rfl hji (or_t1 (by rw [b2i_0.mp c82]; rfl))
                · have e0 : detB σ s c = false := and_f2 (allB_f hin (allB_f hji (or_ff (by rw [b2i_n0.mp c82]; rfl) (decide_eq_false c71))))
                  refine e_iconst (v := 0) hX iX11_isDeterminedInPairs_85 (by decide) ?_
                  exact e_zret hX hQ iX11_isDeterminedInPairs_86 rfl nar_0 (by decide) (by decide) ⟨by rw [e0]; rfl, rfl⟩
        refine e_aload_n hX 0 iX11_isDeterminedInPairs_23 rfl rfl ?_
        refine e_get hX iX11_isDeterminedInPairs_24 gO rfl ?_
        refine e_iload_n hX 3 iX11_isDeterminedInPairs_27 rfl rfl ?_
        refine e_callV hX iX11_isDeterminedInPairs_28 (lst.hp gT) (c_lget (i := i) htr gT hin) rfl rfl ⟨by decide, by decide, by decide, by decide⟩ (Nat.le_of_ble_eq_true rfl) (fun _ _ h => h.elim) (fun v9 ph9 hv9 => ?_)
        obtain ⟨rfl, e9⟩ := hv9
        subst ph9
        refine e_castS hX iX11_isDeterminedInPairs_31 klRX11_79 (rowAt.hp (gTr i hin)) rfl ?_
        refine e_astore hX iX11_isDeterminedInPairs_34 (by decide) ?_
        refine e_iconst (v := 0) hX iX11_isDeterminedInPairs_36 (by decide) ?_
        refine e_istore hX iX11_isDeterminedInPairs_37 (by decide) ?_
        refine e_loc [0, 1, 2, 3, 4, 5] ?_
        exact inner (i + 1) 0 (by omega) (by omega) (fun z hz => absurd hz (Nat.not_lt_zero z))
  refine e_iload_n hX 2 iX11_isDeterminedInPairs_0 rfl rfl ?_
  refine e_iload_n hX 1 iX11_isDeterminedInPairs_1 rfl rfl ?_
  refine e_callS hX iX11_isDeterminedInPairs_2 (c_isIn htr c (nI s)) rfl rfl ⟨by decide, by decide, by decide, by decide⟩ (Nat.le_of_ble_eq_true rfl) (fun _ _ h => h.elim) (fun v9 ph9 hv9 => ?_)
  obtain ⟨rfl, e9⟩ := hv9
  subst ph9
  rw [sb_n s (show c < 32 by omega)]
  refine e_if_eq hX iX11_isDeterminedInPairs_5 (fun c5 => ?_) (fun c5 => ?_)
  · refine e_iconst (v := 0) hX iX11_isDeterminedInPairs_10 (by decide) ?_
    refine e_istore_n hX 3 iX11_isDeterminedInPairs_11 rfl (by decide) ?_
    refine e_loc [0, 1, 2, 3] ?_
    exact outer (b2i_0.mp c5) (gN σ + 1) 0 (by omega) (by omega) (fun z hz => absurd hz (Nat.not_lt_zero z))
  · refine e_iconst (v := 0) hX iX11_isDeterminedInPairs_8 (by decide) ?_
    exact e_zret hX hQ iX11_isDeterminedInPairs_9 rfl nar_0 (by decide) (by decide) ⟨by rw [show detB σ s c = false from and_f1 (by rw [b2i_n0.mp c5]; rfl)]; rfl, rfl⟩
theorem c_present {l : Launch} (htr : l.stackTraces = false) (hg : GI θ ph g X σ κ te be ue r wr b wb u) {c : Nat} (hc : c < 5) : MC yX11_presentCount cX11_presentCount 4 (some .int) 3 0 0 l θ [.ref g, .int (nI c)] ph (fun z p => z = some (.int (nI (prsN σ c))) ∧ p = ph) (fun _ _ => False) := by
  have hn := hg.2.2.2.2.2.2.2.2.1.1
  obtain ⟨gO, ⟨gT, gTr⟩, -⟩ := hg
  refine MC.of htr (by decide) (Nat.le_of_ble_eq_true rfl) ?_
  intro x hX hQ hT
  let P : Nat → Bool := fun i => pres (gV σ i c)
  have loop : ∀ (q i : Nat), gN σ - i < q → i ≤ gN σ → EJ θ x 4 [(0, .ref g), (1, .int (nI c)), (2, .int (nI (cntB i P))), (3, .int (nI i))] [] ph 0 0 := by
    intro q
    induction q with
    | zero => intro i hg; omega
    | succ q ih =>
      intro i hq hi
      have next : ∀ y, cntB (i + 1) P = y → i < gN σ → EJ θ x 36 [(0, .ref g), (1, .int (nI c)), (2, .int (nI y)), (3, .int (nI i))] [] ph 0 0 := by
        intro y hy hin
        refine e_iinc hX iX11_presentCount_36 rfl (by first | exact nI_inc _ | rfl) (by decide) ?_
        refine e_goto hX iX11_presentCount_39 ?_
        refine e_loc [0, 1, 2, 3] ?_
        have := ih (i + 1) (by omega) (by omega)
        rw [hy] at this
        exact this
      refine e_iload_n hX 3 iX11_presentCount_4 rfl rfl ?_
      refine e_aload_n hX 0 iX11_presentCount_5 rfl rfl ?_
      refine e_get hX iX11_presentCount_6 gO rfl ?_
      refine e_callV hX iX11_presentCount_9 (lst.hp gT) (c_size htr gT) rfl rfl ⟨by decide, by decide, by decide, by decide⟩ (Nat.le_of_ble_eq_true rfl) (fun _ _ h => h.elim) (fun v9 ph9 hv9 => ?_)
      obtain ⟨rfl, e9⟩ := hv9
      subst ph9
      refine e_icmp_ge hX iX11_presentCount_12 (fun c12 => ?_) (fun c12 => ?_)
      · have hin := nI_same hi (by omega) c12
        subst hin
        refine e_iload_n hX 2 iX11_presentCount_42 rfl rfl ?_
        exact e_iret hX hQ iX11_presentCount_43 rfl (by decide) (by decide) ⟨rfl, rfl⟩
      · have hin := nI_less hi (by omega) c12
        refine e_aload_n hX 0 iX11_presentCount_15 rfl rfl ?_
        refine e_get hX iX11_presentCount_16 gO rfl ?_
        refine e_iload_n hX 3 iX11_presentCount_19 rfl rfl ?_
        refine e_callV hX iX11_presentCount_20 (lst.hp gT) (c_lget (i := i) htr gT hin) rfl rfl ⟨by decide, by decide, by decide, by decide⟩ (Nat.le_of_ble_eq_true rfl) (fun _ _ h => h.elim) (fun v9 ph9 hv9 => ?_)
        obtain ⟨rfl, e9⟩ := hv9
        subst ph9
        refine e_castS hX iX11_presentCount_23 klRX11_79 (rowAt.hp (gTr i hin)) rfl ?_
        refine e_iload_n hX 1 iX11_presentCount_26 rfl rfl ?_
        refine e_callV hX iX11_presentCount_27 (gTr i hin).1 (c_isPresent htr (gTr i hin) c hc) rfl rfl ⟨by decide, by decide, by decide, by decide⟩ (Nat.le_of_ble_eq_true rfl) (fun _ _ h => h.elim) (fun v9 ph9 hv9 => ?_)
        obtain ⟨rfl, e9⟩ := hv9
        subst ph9
        refine e_if_eq hX iX11_presentCount_30 (fun c30 => ?_) (fun c30 => ?_)
        · refine e_loc [0, 1, 2, 3] ?_
          exact next _ (cntB_s0 (b2i_0.mp c30)) hin
        · refine e_iinc hX iX11_presentCount_33 rfl (by first | exact nI_inc _ | rfl) (by decide) ?_
          refine e_loc [0, 1, 2, 3] ?_
          exact next _ (cntB_s1 (b2i_n0.mp c30)) hin
  refine e_iconst (v := 0) hX iX11_presentCount_0 (by decide) ?_
  refine e_istore_n hX 2 iX11_presentCount_1 rfl (by decide) ?_
  refine e_iconst (v := 0) hX iX11_presentCount_2 (by decide) ?_
  refine e_istore_n hX 3 iX11_presentCount_3 rfl (by decide) ?_
  refine e_loc [0, 1, 2, 3] ?_
  exact loop (gN σ + 1) 0 (by omega) (by omega)
theorem c_inBucket {l : Launch} (htr : l.stackTraces = false) (hg : GI θ ph g X σ κ te be ue r wr b wb u) {c : Nat} (hc : c < 5) (bk : Nat) : MC yX11_rowsInBucket cX11_rowsInBucket 5 (some .int) 3 0 0 l θ [.ref g, .int (nI c), .int (nI bk)] ph (fun z p => z = some (.int (nI (bktN σ c bk))) ∧ p = ph) (fun _ _ => False) := by
  have hn := hg.2.2.2.2.2.2.2.2.1.1
  obtain ⟨gO, ⟨gT, gTr⟩, -⟩ := hg
  refine MC.of htr (by decide) (Nat.le_of_ble_eq_true rfl) ?_
  intro x hX hQ hT
  let P : Nat → Bool := fun i => decide (bktG (gV σ i c) = nI bk)
  have loop : ∀ (q i : Nat), gN σ - i < q → i ≤ gN σ → EJ θ x 5 [(0, .ref g), (1, .int (nI c)), (2, .int (nI bk)), (3, .int (nI (cntB i P))), (4, .int (nI i))] [] ph 0 0 := by
    intro q
    induction q with
    | zero => intro i hg; omega
    | succ q ih =>
      intro i hq hi
      have next : ∀ y, cntB (i + 1) P = y → i < gN σ → EJ θ x 40 [(0, .ref g), (1, .int (nI c)), (2, .int (nI bk)), (3, .int (nI y)), (4, .int (nI i))] [] ph 0 0 := by
        intro y hy hin
        refine e_iinc hX iX11_rowsInBucket_40 rfl (by first | exact nI_inc _ | rfl) (by decide) ?_
        refine e_goto hX iX11_rowsInBucket_43 ?_
        refine e_loc [0, 1, 2, 3, 4] ?_
        have := ih (i + 1) (by omega) (by omega)
        rw [hy] at this
        exact this
      refine e_iload hX iX11_rowsInBucket_5 rfl ?_
      refine e_aload_n hX 0 iX11_rowsInBucket_7 rfl rfl ?_
      refine e_get hX iX11_rowsInBucket_8 gO rfl ?_
      refine e_callV hX iX11_rowsInBucket_11 (lst.hp gT) (c_size htr gT) rfl rfl ⟨by decide, by decide, by decide, by decide⟩ (Nat.le_of_ble_eq_true rfl) (fun _ _ h => h.elim) (fun v9 ph9 hv9 => ?_)
      obtain ⟨rfl, e9⟩ := hv9
      subst ph9
      refine e_icmp_ge hX iX11_rowsInBucket_14 (fun c14 => ?_) (fun c14 => ?_)
      · have hin := nI_same hi (by omega) c14
        subst hin
        refine e_iload_n hX 3 iX11_rowsInBucket_46 rfl rfl ?_
        exact e_iret hX hQ iX11_rowsInBucket_47 rfl (by decide) (by decide) ⟨rfl, rfl⟩
      · have hin := nI_less hi (by omega) c14
        refine e_aload_n hX 0 iX11_rowsInBucket_17 rfl rfl ?_
        refine e_get hX iX11_rowsInBucket_18 gO rfl ?_
        refine e_iload hX iX11_rowsInBucket_21 rfl ?_
        refine e_callV hX iX11_rowsInBucket_23 (lst.hp gT) (c_lget (i := i) htr gT hin) rfl rfl ⟨by decide, by decide, by decide, by decide⟩ (Nat.le_of_ble_eq_true rfl) (fun _ _ h => h.elim) (fun v9 ph9 hv9 => ?_)
        obtain ⟨rfl, e9⟩ := hv9
        subst ph9
        refine e_castS hX iX11_rowsInBucket_26 klRX11_79 (rowAt.hp (gTr i hin)) rfl ?_
        refine e_iload_n hX 1 iX11_rowsInBucket_29 rfl rfl ?_
        refine e_callV hX iX11_rowsInBucket_30 (gTr i hin).1 (c_bucket htr (gTr i hin) c hc) rfl rfl ⟨by decide, by decide, by decide, by decide⟩ (Nat.le_of_ble_eq_true rfl) (fun _ _ h => h.elim) (fun v9 ph9 hv9 => ?_)
        obtain ⟨rfl, e9⟩ := hv9
        subst ph9
        refine e_iload_n hX 2 iX11_rowsInBucket_33 rfl rfl ?_
        refine e_icmp_ne hX iX11_rowsInBucket_34 (fun c34 => ?_) (fun c34 => ?_)
        · refine e_loc [0, 1, 2, 3, 4] ?_
          exact next _ (cntB_s0 (decide_eq_false c34)) hin
        · refine e_iinc hX iX11_rowsInBucket_37 rfl (by first | exact nI_inc _ | rfl) (by decide) ?_
          refine e_loc [0, 1, 2, 3, 4] ?_
          exact next _ (cntB_s1 (decide_eq_true c34)) hin
  refine e_iconst (v := 0) hX iX11_rowsInBucket_0 (by decide) ?_
  refine e_istore_n hX 3 iX11_rowsInBucket_1 rfl (by decide) ?_
  refine e_iconst (v := 0) hX iX11_rowsInBucket_2 (by decide) ?_
  refine e_istore hX iX11_rowsInBucket_3 (by decide) ?_
  refine e_loc [0, 1, 2, 3, 4] ?_
  exact loop (gN σ + 1) 0 (by omega) (by omega)
def absI (x : Int32) : Int32 := if 0 ≤ x then x else 0 - x
def sumI (f : Nat → Int32) : Nat → Int32
  | 0 => 0
  | n + 1 => sumI f n + f n
/-- how far a column has drifted -/
def drfB (σ : SG) (c : Nat) (bk : Nat) : Int32 := absI (nI (bktN σ c bk) * nI (gP σ) - gQ σ c bk * nI (gN σ))
def drfN (σ : SG) (c : Nat) : Int32 := (1000 * sumI (drfB σ c) 11) / (2 * nI (gN σ) * nI (gP σ))
theorem drf_n0 : ∀ n, n < 13 → ∀ p, p < 13 → ¬ n = 0 → ¬ p = 0 → ¬ (2 * nI n * nI p) = 0 := by decide +kernel
theorem c_drift {l : Launch} (htr : l.stackTraces = false) (hg : GI θ ph g X σ κ te be ue r wr b wb u) {c : Nat} (hc : c < 5) (h1 : ¬ gN σ = 0) (h2 : ¬ gP σ = 0) : MC yX11_driftFromProfile cX11_driftFromProfile 6 (some .int) 4 0 0 l θ [.ref g, .int (nI c)] ph (fun z p => z = some (.int (drfN σ c)) ∧ p = ph) (fun _ _ => False) := by
  have hg0 := hg
  have hn := hg.2.2.2.2.2.2.2.2.1.1
  have hp := hg.2.2.2.2.2.2.2.2.1.2.2.2.1
  obtain ⟨gO, ⟨gT, gTr⟩, -, -, -, -, ⟨⟨f, q0, q1⟩, q2⟩, -⟩ := hg
  refine MC.of htr (by decide) (Nat.le_of_ble_eq_true rfl) ?_
  intro x hX hQ hT
  have loop : ∀ (q i : Nat), 11 - i < q → i ≤ 11 → EJ θ x 26 [(0, .ref g), (1, .int (nI c)), (2, .int (nI (gN σ))), (3, .int (sumI (drfB σ c) i)), (4, .int (nI i))] [] ph 0 0 := by
    intro q
    induction q with
    | zero => intro i hg; omega
    | succ q ih =>
      intro i hq hi
      refine e_iload hX iX11_driftFromProfile_26 rfl ?_
      refine e_bipush (v := 11) hX iX11_driftFromProfile_28 (by decide) ?_
      refine e_icmp_ge hX iX11_driftFromProfile_30 (fun c30 => ?_) (fun c30 => ?_)
      · have hin := nI_same hi (by omega) c30
        subst hin
        refine e_sipush (v := 1000) hX iX11_driftFromProfile_73 (by decide) ?_
        refine e_iload_n hX 3 iX11_driftFromProfile_76 rfl rfl ?_
        refine e_imul hX iX11_driftFromProfile_77 ?_
        refine e_iconst (v := 2) hX iX11_driftFromProfile_78 (by decide) ?_
        refine e_iload_n hX 2 iX11_driftFromProfile_79 rfl rfl ?_
        refine e_imul hX iX11_driftFromProfile_80 ?_
        refine e_aload_n hX 0 iX11_driftFromProfile_81 rfl rfl ?_
        refine e_get hX iX11_driftFromProfile_82 gO rfl ?_
        refine e_imul hX iX11_driftFromProfile_85 ?_
        refine e_idiv hX iX11_driftFromProfile_86 (drf_n0 _ (by omega) _ (by omega) h1 h2) ?_
        exact e_iret hX hQ iX11_driftFromProfile_87 rfl (by decide) (by decide) ⟨rfl, rfl⟩
      · have hin := nI_less hi (by omega) c30
        refine e_aload_n hX 0 iX11_driftFromProfile_33 rfl rfl ?_
        refine e_iload_n hX 1 iX11_driftFromProfile_34 rfl rfl ?_
        refine e_iload hX iX11_driftFromProfile_35 rfl ?_
        refine e_callV hX iX11_driftFromProfile_37 gO (c_inBucket htr hg0 hc i) rfl rfl ⟨by decide, by decide, by decide, by decide⟩ (Nat.le_of_ble_eq_true rfl) (fun _ _ h => h.elim) (fun v9 ph9 hv9 => ?_)
        obtain ⟨rfl, e9⟩ := hv9
        subst ph9
        refine e_istore hX iX11_driftFromProfile_40 (by decide) ?_
        refine e_iload_n hX 3 iX11_driftFromProfile_42 rfl rfl ?_
        refine e_iload hX iX11_driftFromProfile_43 rfl ?_
        refine e_aload_n hX 0 iX11_driftFromProfile_45 rfl rfl ?_
        refine e_get hX iX11_driftFromProfile_46 gO rfl ?_
        refine e_imul hX iX11_driftFromProfile_49 ?_
        refine e_aload_n hX 0 iX11_driftFromProfile_50 rfl rfl ?_
        refine e_get hX iX11_driftFromProfile_51 gO rfl ?_
        refine e_iload_n hX 1 iX11_driftFromProfile_54 rfl rfl ?_
        refine e_aald2 hX c iX11_driftFromProfile_55 q0 rfl hc (by decide) (q1 c hc) ?_
        refine e_iload hX iX11_driftFromProfile_56 rfl ?_
        refine e_iald hX i iX11_driftFromProfile_58 (q2 c hc) rfl (by omega) (by decide) ?_
        refine e_iload_n hX 2 iX11_driftFromProfile_59 rfl rfl ?_
        refine e_imul hX iX11_driftFromProfile_60 ?_
        refine e_isub hX iX11_driftFromProfile_61 ?_
        refine e_abs hX iX11_driftFromProfile_62 mlRX11_410 ⟨by decide, Nat.le_of_ble_eq_true rfl, by decide, by decide⟩ ?_
        refine e_iadd hX iX11_driftFromProfile_65 ?_
        refine e_istore_n hX 3 iX11_driftFromProfile_66 rfl (by decide) ?_
        refine e_iinc hX iX11_driftFromProfile_67 rfl (by first | exact nI_inc _ | rfl) (by decide) ?_
        refine e_goto hX iX11_driftFromProfile_70 ?_
        refine e_loc [0, 1, 2, 3, 4] ?_
        exact ih (i + 1) (by omega) (by omega)
  refine e_aload_n hX 0 iX11_driftFromProfile_0 rfl rfl ?_
  refine e_get hX iX11_driftFromProfile_1 gO rfl ?_
  refine e_callV hX iX11_driftFromProfile_4 (lst.hp gT) (c_size htr gT) rfl rfl ⟨by decide, by decide, by decide, by decide⟩ (Nat.le_of_ble_eq_true rfl) (fun _ _ h => h.elim) (fun v9 ph9 hv9 => ?_)
  obtain ⟨rfl, e9⟩ := hv9
  subst ph9
  refine e_istore_n hX 2 iX11_driftFromProfile_7 rfl (by decide) ?_
  refine e_iload_n hX 2 iX11_driftFromProfile_8 rfl rfl ?_
  refine e_if_eq hX iX11_driftFromProfile_9 (fun c9 => ?_) (fun c9 => ?_)
  · exact absurd c9 (nI_ne0 (by omega) (by omega))
  · refine e_aload_n hX 0 iX11_driftFromProfile_12 rfl rfl ?_
    refine e_get hX iX11_driftFromProfile_13 gO rfl ?_
    refine e_if_ne hX iX11_driftFromProfile_16 (fun c16 => ?_) (fun c16 => ?_)
    · refine e_iconst (v := 0) hX iX11_driftFromProfile_21 (by decide) ?_
      refine e_istore_n hX 3 iX11_driftFromProfile_22 rfl (by decide) ?_
      refine e_iconst (v := 0) hX iX11_driftFromProfile_23 (by decide) ?_
      refine e_istore hX iX11_driftFromProfile_24 (by decide) ?_
      refine e_loc [0, 1, 2, 3, 4] ?_
      exact loop 12 0 (by omega) (by omega)
    · exact absurd c16 (nI_ne0 (by omega) (by omega))
def bstN (σ : SG) : Nat := bfN (badM (gN σ) (gK σ) (gR σ) (gV σ)) (conM (gN σ) (gK σ) (gR σ) (gV σ)) (gN σ) 0 0 (2 ^ gN σ - 1)
theorem pow12_lt {n : Nat} (h : n ≤ 12) : 2 ^ n - 1 < 2 ^ 12 := by
  have := Nat.pow_le_pow_right (n := 2) (by decide) h
  have := Nat.two_pow_pos n
  omega
theorem bstN_lt {σ : SG} (h : gN σ ≤ 12) : bstN σ < 2 ^ 12 := bfN_lt _ _ _ _ (by omega) (by decide) (pow12_lt h)
theorem c_bestRepair {l : Launch} (htr : l.stackTraces = false) (hg : GI θ ph g X σ κ te be ue r wr b wb u) : MC yX11_bestRepair cX11_bestRepair 1 (some .int) 15 0 0 l θ [.ref g] ph (fun z p => z = some (.int (nI (bstN σ))) ∧ GI θ p g X σ κ te be ue r wr b wb u ∧ kx ph p X) (fun _ _ => False) := by
  have hn := hg.2.2.2.2.2.2.2.2.1.1
  refine MC.of htr (by decide) (Nat.le_of_ble_eq_true rfl) ?_
  intro x hX hQ hT
  refine e_aload_n hX 0 iX11_bestRepair_0 rfl rfl ?_
  refine e_get hX iX11_bestRepair_1 hg.1 rfl ?_
  refine e_aload_n hX 0 iX11_bestRepair_4 rfl rfl ?_
  refine e_get hX iX11_bestRepair_5 hg.1 rfl ?_
  refine e_aload_n hX 0 iX11_bestRepair_8 rfl rfl ?_
  refine e_get hX iX11_bestRepair_9 hg.1 rfl ?_
  obtain ⟨⟨a1, b1, f1, j1, j2⟩, -⟩ := hg.2.2.2.2.2.1
  refine e_callV hX iX11_bestRepair_12 j1 (c_find htr j1 j2 hg.2.1.1 hg.rws hn hg.2.2.2.1.1 hg.2.2.2.1.2) rfl rfl ⟨by decide, by decide, by decide, by decide⟩ (Nat.le_of_ble_eq_true rfl) (fun _ _ h => h.elim) (fun v9 ph9 hv9 => ?_)
  obtain ⟨rfl, e1, e2⟩ := hv9
  obtain ⟨hg2, hx⟩ := hg.find e2 e1
  refine e_aload_n hX 0 iX11_bestRepair_15 rfl rfl ?_
  refine e_get hX iX11_bestRepair_16 hg2.1 rfl ?_
  refine e_iconst (v := 0) hX iX11_bestRepair_19 (by decide) ?_
  refine e_iconst (v := 0) hX iX11_bestRepair_20 (by decide) ?_
  refine e_aload_n hX 0 iX11_bestRepair_21 rfl rfl ?_
  refine e_get hX iX11_bestRepair_22 hg2.1 rfl ?_
  refine e_callV hX iX11_bestRepair_25 e1.1 (c_everyRow htr e1) rfl rfl ⟨by decide, by decide, by decide, by decide⟩ (Nat.le_of_ble_eq_true rfl) (fun _ _ h => h.elim) (fun v9 ph9 hv9 => ?_)
  obtain ⟨rfl, e9⟩ := hv9
  subst ph9
  refine e_callS hX iX11_bestRepair_28 (c_bestFrom htr e1 (gN σ) 0 0 (2 ^ gN σ - 1) (by omega) (by decide) (pow12_lt hn)) rfl rfl ⟨by show _ ≤ 25; omega, by show _ ≤ 750; omega, Nat.le_refl _, Nat.le_refl _⟩ (Nat.le_of_ble_eq_true rfl) (fun _ _ h => h.elim) (fun v9 ph9 hv9 => ?_)
  obtain ⟨rfl, e9⟩ := hv9
  subst ph9
  exact e_iret hX hQ iX11_bestRepair_31 rfl (by decide) (by decide) ⟨rfl, hg2, hx⟩
/-- the minimal sets of a column, worked out by size -/
def minK (f : Nat → Bool) : Nat → Nat
  | 0 => 0
  | k + 1 => if (decide (popN (k % 32) = k / 32) && !holdB (k % 32) (minK f k) && f (k % 32)) = true then minK f k ||| 2 ^ (k % 32) else minK f k
theorem minK_lt {f : Nat → Bool} : ∀ k, minK f k < 2 ^ 32
  | 0 => Nat.two_pow_pos 32
  | k + 1 => by
    unfold minK
    split
    · exact lor_lt (minK_lt k) (Nat.pow_lt_pow_right (by decide) (by omega))
    · exact minK_lt k
theorem c_minSets {l : Launch} (htr : l.stackTraces = false) (hg : GI θ ph g X σ κ te be ue r wr b wb u) {c : Nat} (hc : c < 5) : MC yX11_minimalSets cX11_minimalSets 6 (some .long) 5 0 0 l θ [.ref g, .int (nI c)] ph (fun z p => z = some (.long (lN (minK (fun s => detB σ s c) 192))) ∧ GI θ p g X σ κ te be ue r wr b wb u ∧ kx ph p X) (fun _ _ => False) := by
  refine MC.of htr (by decide) (Nat.le_of_ble_eq_true rfl) ?_
  intro x hX hQ hT
  let F : Nat → Bool := fun s => detB σ s c
  have outer : ∀ (q L : Nat) (p : e_PH), 6 - L < q → L ≤ 6 → GI θ p g X σ κ te be ue r wr b wb u → kx ph p X → EJ θ x 5 [(0, .ref g), (1, .int (nI c)), (2, .long (lN (minK F (32 * L)))), (4, .int (nI L))] [] p 0 0 := by
    intro q
    induction q with
    | zero => intro L p hq; omega
    | succ q ih =>
      intro L p hq hL hgp hxp
      refine e_iload hX iX11_minimalSets_5 rfl ?_
      refine e_iconst (v := 5) hX iX11_minimalSets_7 (by decide) ?_
      refine e_icmp_gt hX iX11_minimalSets_8 (fun c8 => ?_) (fun c8 => ?_)
      · have hL6 : L = 6 := by
          rcases Nat.lt_or_ge L 6 with h | h
          · exact absurd (nI_le (show L ≤ 5 by omega) (by decide)) (Int32.not_le.mpr c8)
          · omega
        subst hL6
        refine e_lload_n hX 2 iX11_minimalSets_69 rfl rfl ?_
        exact e_lret hX hQ iX11_minimalSets_70 rfl (by decide) (by decide) ⟨rfl, hgp, hxp⟩
      · have hL6 : L < 6 := by
          rcases Nat.lt_or_ge L 6 with h | h
          · exact h
          · exact absurd (nI_lt (show 5 < L by omega) (by omega)) c8
        have inner : ∀ (q' s : Nat) (p' : e_PH), 32 - s < q' → s ≤ 32 → GI θ p' g X σ κ te be ue r wr b wb u → kx ph p' X → EJ θ x 14 [(0, .ref g), (1, .int (nI c)), (2, .long (lN (minK F (32 * L + s)))), (4, .int (nI L)), (5, .int (nI s))] [] p' 0 0 := by
          intro q'
          induction q' with
          | zero => intro s p' hq'; omega
          | succ q' ih' =>
            intro s p' hq' hs hg' hx'
            refine e_iload hX iX11_minimalSets_14 rfl ?_
            refine e_bipush (v := 32) hX iX11_minimalSets_16 (by decide) ?_
            refine e_icmp_ge hX iX11_minimalSets_18 (fun c18 => ?_) (fun c18 => ?_)
            · have hs2 := nI_same hs (by decide) c18
              subst hs2
              refine e_iinc hX iX11_minimalSets_63 rfl (by first | exact nI_inc _ | rfl) (by decide) ?_
              refine e_goto hX iX11_minimalSets_66 ?_
              refine e_loc [0, 1, 2, 4] ?_
              exact ih (L + 1) p' (by omega) (by omega) hg' hx'
            · have hs2 := nI_less hs (by decide) c18
              have m1 : (32 * L + s) % 32 = s := by omega
              have m2 : (32 * L + s) / 32 = L := by omega
              have eM : minK F (32 * L + (s + 1)) = if (decide (popN s = L) && !holdB s (minK F (32 * L + s)) && F s) = true then minK F (32 * L + s) ||| 2 ^ s else minK F (32 * L + s) := by
                show (if (decide (popN ((32 * L + s) % 32) = (32 * L + s) / 32) && !holdB ((32 * L + s) % 32) (minK F (32 * L + s)) && F ((32 * L + s) % 32)) = true then minK F (32 * L + s) ||| 2 ^ ((32 * L + s) % 32) else minK F (32 * L + s)) = _
                rw [m1, m2]
              have hp : popN s ≤ 12 := cntB_le _ _
              have step : ∀ y p2, minK F (32 * L + (s + 1)) = y → GI θ p2 g X σ κ te be ue r wr b wb u → kx ph p2 X → EJ θ x 57 [(0, .ref g), (1, .int (nI c)), (2, .long (lN y)), (4, .int (nI L)), (5, .int (nI s))] [] p2 0 0 := by
                intro y p2 hy h1 h2
                refine e_iinc hX iX11_minimalSets_57 rfl (by first | exact nI_inc _ | rfl) (by decide) ?_
                refine e_goto hX iX11_minimalSets_60 ?_
                refine e_loc [0, 1, 2, 4, 5] ?_
                have := ih' (s + 1) p2 (by omega) (by omega) h1 h2
                rw [hy] at this
                exact this
              refine e_iload hX iX11_minimalSets_21 rfl ?_
              refine e_callS hX iX11_minimalSets_23 (c_bitCount htr (show s < 2 ^ 12 by omega)) rfl rfl ⟨by decide, by decide, by decide, by decide⟩ (Nat.le_of_ble_eq_true rfl) (fun _ _ h => h.elim) (fun v9 ph9 hv9 => ?_)
              obtain ⟨rfl, e9⟩ := hv9
              subst ph9
              refine e_iload hX iX11_minimalSets_26 rfl ?_
              refine e_icmp_ne hX iX11_minimalSets_28 (fun c28 => ?_) (fun c28 => ?_)
              · refine e_loc [0, 1, 2, 4, 5] ?_
                exact step _ _ (by rw [eM, decide_eq_false (fun e => c28 (by rw [e]))]; rfl) hg' hx'
              · have e1 : popN s = L := (nI_eq (by omega) (by omega)).mp c28
                refine e_iload hX iX11_minimalSets_31 rfl ?_
                refine e_lload_n hX 2 iX11_minimalSets_33 rfl rfl ?_
                refine e_callS hX iX11_minimalSets_34 (c_holdsOther htr hs2 (minK F (32 * L + s))) rfl rfl ⟨by decide, by decide, by decide, by decide⟩ (Nat.le_of_ble_eq_true rfl) (fun _ _ h => h.elim) (fun v9 ph9 hv9 => ?_)
                obtain ⟨rfl, e9⟩ := hv9
                subst ph9
                refine e_if_ne hX iX11_minimalSets_37 (fun c37 => ?_) (fun c37 => ?_)
                · refine e_loc [0, 1, 2, 4, 5] ?_
                  exact step _ _ (by rw [eM, b2i_n0.mp c37]; simp) hg' hx'
                · refine e_aload_n hX 0 iX11_minimalSets_40 rfl rfl ?_
                  refine e_iload hX iX11_minimalSets_41 rfl ?_
                  refine e_iload_n hX 1 iX11_minimalSets_43 rfl rfl ?_
                  refine e_callV hX iX11_minimalSets_44 hg'.1 (c_detC htr hg' hs2 hc) rfl rfl ⟨by decide, by decide, by decide, by decide⟩ (Nat.le_of_ble_eq_true rfl) (fun _ _ h => h.elim) (fun v9 ph9 hv9 => ?_)
                  obtain ⟨rfl, hg3, hx3⟩ := hv9
                  refine e_if_eq hX iX11_minimalSets_47 (fun c47 => ?_) (fun c47 => ?_)
                  · refine e_loc [0, 1, 2, 4, 5] ?_
                    exact step _ _ (by rw [eM, show F s = false from b2i_0.mp c47]; simp) hg3 (hx'.trans hx3)
                  · refine e_lload_n hX 2 iX11_minimalSets_50 rfl rfl ?_
                    refine e_lconst (v := 1) hX iX11_minimalSets_51 (by decide) ?_
                    refine e_iload hX iX11_minimalSets_52 rfl ?_
                    refine e_lshl hX iX11_minimalSets_54 ?_
                    rw [shL s hs2]
                    refine e_lor hX iX11_minimalSets_55 ?_
                    rw [q_or]
                    refine e_lstore_n hX 2 iX11_minimalSets_56 rfl (by decide) ?_
                    refine e_loc [0, 1, 2, 4, 5] ?_
                    exact step _ _ (by rw [eM, show F s = true from b2i_n0.mp c47, b2i_0.mp c37, decide_eq_true e1]; rfl) hg3 (hx'.trans hx3)
        refine e_iconst (v := 0) hX iX11_minimalSets_11 (by decide) ?_
        refine e_istore hX iX11_minimalSets_12 (by decide) ?_
        refine e_loc [0, 1, 2, 4, 5] ?_
        exact inner 33 0 p (by omega) (by omega) hgp hxp
  refine e_lconst (v := 0) hX iX11_minimalSets_0 (by decide) ?_
  refine e_lstore_n hX 2 iX11_minimalSets_1 rfl (by decide) ?_
  refine e_iconst (v := 0) hX iX11_minimalSets_2 (by decide) ?_
  refine e_istore hX iX11_minimalSets_3 (by decide) ?_
  refine e_loc [0, 1, 2, 4] ?_
  exact outer 7 0 ph (by omega) (by omega) hg kx.refl
end GL
