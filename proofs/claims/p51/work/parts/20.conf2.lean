theorem low1n : ∀ n, n < 13 → (1 : Int32) <<< (nI n &&& 31) - 1 = nI (2 ^ n - 1) := by decide +kernel
theorem c_everyRow {l : Launch} (htr : l.stackTraces = false) {θ : e_T} {ph : e_PH} {cf ca n B : Nat} {M : Nat → Nat} (h : cfl θ ph cf ca n B M) : MC yX0_everyRow cX0_everyRow 1 (some .int) 0 0 0 l θ [.ref cf] ph (fun z p => z = some (.int (nI (2 ^ n - 1))) ∧ p = ph) (fun _ _ => False) := by
  obtain ⟨h1, -, -, -, hn⟩ := h
  refine MC.of htr (by decide) (Nat.le_of_ble_eq_true rfl) ?_
  intro x hX hQ hT
  refine e_iconst (v := 1) hX iX0_everyRow_0 (by decide) ?_
  refine e_aload_n hX 0 iX0_everyRow_1 rfl rfl ?_
  refine e_get hX iX0_everyRow_2 h1 rfl ?_
  refine e_ishl hX iX0_everyRow_5 ?_
  refine e_iconst (v := 1) hX iX0_everyRow_6 (by decide) ?_
  refine e_isub hX iX0_everyRow_7 ?_
  rw [low1n n (by omega)]
  exact e_iret hX hQ iX0_everyRow_8 rfl (by decide) (by decide) ⟨rfl, rfl⟩
/-- one round, and some rounds, of reachedFrom -/
def passN (M : Nat → Nat) : Nat → Nat → Nat
  | 0, S => S
  | i + 1, S => if (passN M i S).testBit i = true then passN M i S ||| M i else passN M i S
def itN (M : Nat → Nat) (n : Nat) : Nat → Nat → Nat
  | 0, S => S
  | r + 1, S => passN M n (itN M n r S)
theorem c_reached {l : Launch} (htr : l.stackTraces = false) {θ : e_T} {ph : e_PH} {cf ca n B : Nat} {M : Nat → Nat} (h : cfl θ ph cf ca n B M) {q : Nat} (hq : q < n) : MC yX0_reachedFrom cX0_reachedFrom 5 (some .int) 1 0 0 l θ [.ref cf, .int (nI q)] ph (fun z p => z = some (.int (nI (itN M n n (2 ^ q)))) ∧ p = ph) (fun _ _ => False) := by
  obtain ⟨h1, ⟨f, h2, h3⟩, -, -, hn⟩ := h
  refine MC.of htr (by decide) (Nat.le_of_ble_eq_true rfl) ?_
  intro x hX hQ hT
  have loop : ∀ (g i : Nat), n - i < g → i ≤ n → EJ θ x 6 [(0, .ref cf), (1, .int (nI q)), (2, .int (nI (itN M n i (2 ^ q)))), (3, .int (nI i))] [] ph 0 0 := by
    intro g
    induction g with
    | zero => intro i hg; omega
    | succ g ih =>
      intro i hg hi
      have inner : ∀ (g' j : Nat), n - j < g' → j ≤ n → i < n → EJ θ x 17 [(0, .ref cf), (1, .int (nI q)), (2, .int (nI (passN M j (itN M n i (2 ^ q))))), (3, .int (nI i)), (4, .int (nI j))] [] ph 0 0 := by
        intro g'
        induction g' with
        | zero => intro j hg'; omega
        | succ g' ih' =>
          intro j hg' hj hin
          refine e_iload hX iX0_reachedFrom_17 rfl ?_
          refine e_aload_n hX 0 iX0_reachedFrom_19 rfl rfl ?_
          refine e_get hX iX0_reachedFrom_20 h1 rfl ?_
          refine e_icmp_ge hX iX0_reachedFrom_23 (fun c23 => ?_) (fun c23 => ?_)
          · have hjn : j = n := by
              rcases Nat.lt_or_ge j n with h | h
              · exact absurd c23 (nI_ge h (by omega))
              · omega
            subst hjn
            refine e_iinc hX iX0_reachedFrom_51 rfl (by first | exact nI_inc _ | rfl) (by decide) ?_
            refine e_goto hX iX0_reachedFrom_54 ?_
            refine e_loc [0, 1, 2, 3] ?_
            exact ih (i + 1) (by omega) (by omega)
          · have hjn : j < n := by
              rcases Nat.lt_or_ge j n with h | h
              · exact h
              · exact absurd (nI_le h (by omega)) c23
            have step : ∀ m, passN M (j + 1) (itN M n i (2 ^ q)) = m → EJ θ x 45 [(0, .ref cf), (1, .int (nI q)), (2, .int (nI m)), (3, .int (nI i)), (4, .int (nI j))] [] ph 0 0 := by
              intro m hm
              refine e_iinc hX iX0_reachedFrom_45 rfl (by first | exact nI_inc _ | rfl) (by decide) ?_
              refine e_goto hX iX0_reachedFrom_48 ?_
              refine e_loc [0, 1, 2, 3, 4] ?_
              have := ih' (j + 1) (by omega) (by omega) hin
              rw [hm] at this
              exact this
            refine e_iload hX iX0_reachedFrom_26 rfl ?_
            refine e_iload_n hX 2 iX0_reachedFrom_28 rfl rfl ?_
            refine e_callS hX iX0_reachedFrom_29 (c_isIn htr j (nI (passN M j (itN M n i (2 ^ q))))) rfl rfl ⟨by decide, by decide, by decide, by decide⟩ (Nat.le_of_ble_eq_true rfl) (fun _ _ h => h.elim) (fun v9 ph9 hv9 => ?_)
            obtain ⟨rfl, e9⟩ := hv9
            subst ph9
            rw [sb_n _ (show j < 32 by omega)]
            refine e_if_eq hX iX0_reachedFrom_32 (fun c32 => ?_) (fun c32 => ?_)
            · refine e_loc [0, 1, 2, 3, 4] ?_
              refine step _ ?_
              show (if _ then _ else _) = _
              rw [if_neg (by rw [b2i_0.mp c32]; decide)]
            · refine e_iload_n hX 2 iX0_reachedFrom_35 rfl rfl ?_
              refine e_aload_n hX 0 iX0_reachedFrom_36 rfl rfl ?_
              refine e_get hX iX0_reachedFrom_37 h1 rfl ?_
              refine e_iload hX iX0_reachedFrom_40 rfl ?_
              refine e_iald hX j iX0_reachedFrom_42 h2 rfl (by omega) (by decide) ?_
              rw [h3 j hjn]
              refine e_ior hX iX0_reachedFrom_43 ?_
              rw [nI_or]
              refine e_istore_n hX 2 iX0_reachedFrom_44 rfl (by decide) ?_
              refine e_loc [0, 1, 2, 3, 4] ?_
              refine step _ ?_
              show (if _ then _ else _) = _
              rw [if_pos (b2i_n0.mp c32)]
      refine e_iload_n hX 3 iX0_reachedFrom_6 rfl rfl ?_
      refine e_aload_n hX 0 iX0_reachedFrom_7 rfl rfl ?_
      refine e_get hX iX0_reachedFrom_8 h1 rfl ?_
      refine e_icmp_ge hX iX0_reachedFrom_11 (fun c11 => ?_) (fun c11 => ?_)
      · have hin : i = n := by
          rcases Nat.lt_or_ge i n with h | h
          · exact absurd c11 (nI_ge h (by omega))
          · omega
        subst hin
        refine e_iload_n hX 2 iX0_reachedFrom_57 rfl rfl ?_
        exact e_iret hX hQ iX0_reachedFrom_58 rfl (by decide) (by decide) ⟨rfl, rfl⟩
      · have hin : i < n := by
          rcases Nat.lt_or_ge i n with h | h
          · exact h
          · exact absurd (nI_le h (by omega)) c11
        refine e_iconst (v := 0) hX iX0_reachedFrom_14 (by decide) ?_
        refine e_istore hX iX0_reachedFrom_15 (by decide) ?_
        refine e_loc [0, 1, 2, 3, 4] ?_
        exact inner (n + 1) 0 (by omega) (by omega) hin
  refine e_iconst (v := 1) hX iX0_reachedFrom_0 (by decide) ?_
  refine e_iload_n hX 1 iX0_reachedFrom_1 rfl rfl ?_
  refine e_ishl hX iX0_reachedFrom_2 ?_
  rw [sh1 q (by omega)]
  refine e_istore_n hX 2 iX0_reachedFrom_3 rfl (by decide) ?_
  refine e_iconst (v := 0) hX iX0_reachedFrom_4 (by decide) ?_
  refine e_istore_n hX 3 iX0_reachedFrom_5 rfl (by decide) ?_
  refine e_loc [0, 1, 2, 3] ?_
  exact loop (n + 1) 0 (by omega) (by omega)
/-- whether a is a part of r -/
def subN (a r : Nat) : Bool := allB 12 (fun j => !a.testBit j || r.testBit j)
theorem subN_t {a r : Nat} (ha : a < 2 ^ 12) : subN a r = true ↔ ∀ j, a.testBit j = true → r.testBit j = true := by
  unfold subN
  rw [allB_t]
  constructor
  · intro h j hj
    have h1 := h j (tb_lt ha hj)
    rw [hj] at h1
    simpa using h1
  · intro h j hj
    cases c : a.testBit j
    · rfl
    · rw [h j c]; rfl
def stayN (B : Nat) (M : Nat → Nat) (p rem : Nat) : Bool := !B.testBit p && allB p (fun j => !(M p).testBit j || rem.testBit j)
def repN (n B : Nat) (M : Nat → Nat) (rem : Nat) : Bool := subN B rem && allB n (fun i => rem.testBit i || subN (M i) rem)
theorem stay_t {B : Nat} {M : Nat → Nat} {p rem : Nat} (hb : B.testBit p = false) (hp : p < 31) (hM : M p < 2 ^ 12) : nI (M p) &&& (nI (2 ^ p - 1) &&& (nI rem ^^^ (-1))) = 0 ↔ stayN B M p rem = true := by
  rw [nI_stay (M p) rem p (Nat.lt_trans hM (by decide)) hp]
  unfold stayN
  rw [hb]
  show _ ↔ allB p _ = true
  rw [allB_t]
  constructor
  · intro h j hj
    cases c : (M p).testBit j
    · rfl
    · rw [h j hj c]; rfl
  · intro h j hj hc
    have h1 := h j hj
    rw [hc] at h1
    simpa using h1
theorem c_mayStay {l : Launch} (htr : l.stackTraces = false) {θ : e_T} {ph : e_PH} {cf ca n B : Nat} {M : Nat → Nat} (h : cfl θ ph cf ca n B M) {p : Nat} (hp : p < n) (rem : Nat) : MC yX0_mayStay cX0_mayStay 4 (some .boolean) 1 0 0 l θ [.ref cf, .int (nI p), .int (nI rem)] ph (fun z p' => z = some (.int (b2i (stayN B M p rem))) ∧ p' = ph) (fun _ _ => False) := by
  obtain ⟨h1, ⟨f, h2, h3⟩, -, hM, hn⟩ := h
  refine MC.of htr (by decide) (Nat.le_of_ble_eq_true rfl) ?_
  intro x hX hQ hT
  refine e_iload_n hX 1 iX0_mayStay_0 rfl rfl ?_
  refine e_if_lt hX iX0_mayStay_1 (fun c1 => ?_) (fun c1 => ?_)
  · exact absurd c1 (nI_pos (by omega))
  · refine e_iload_n hX 1 iX0_mayStay_4 rfl rfl ?_
    refine e_aload_n hX 0 iX0_mayStay_5 rfl rfl ?_
    refine e_get hX iX0_mayStay_6 h1 rfl ?_
    refine e_icmp_ge hX iX0_mayStay_9 (fun c9 => ?_) (fun c9 => ?_)
    · exact absurd c9 (nI_ge hp (by omega))
    · refine e_iload_n hX 1 iX0_mayStay_12 rfl rfl ?_
      refine e_aload_n hX 0 iX0_mayStay_13 rfl rfl ?_
      refine e_get hX iX0_mayStay_14 h1 rfl ?_
      refine e_callS hX iX0_mayStay_17 (c_isIn htr p (nI B)) rfl rfl ⟨by decide, by decide, by decide, by decide⟩ (Nat.le_of_ble_eq_true rfl) (fun _ _ h => h.elim) (fun v9 ph9 hv9 => ?_)
      obtain ⟨rfl, e9⟩ := hv9
      subst ph9
      rw [sb_n _ (show p < 32 by omega)]
      refine e_if_eq hX iX0_mayStay_20 (fun c20 => ?_) (fun c20 => ?_)
      · have hb := b2i_0.mp c20
        refine e_iconst (v := 1) hX iX0_mayStay_25 (by decide) ?_
        refine e_iload_n hX 1 iX0_mayStay_26 rfl rfl ?_
        refine e_ishl hX iX0_mayStay_27 ?_
        refine e_iconst (v := 1) hX iX0_mayStay_28 (by decide) ?_
        refine e_isub hX iX0_mayStay_29 ?_
        rw [low1n p (by omega)]
        refine e_iload_n hX 2 iX0_mayStay_30 rfl rfl ?_
        refine e_iconst (v := (-1)) hX iX0_mayStay_31 (by decide) ?_
        refine e_ixor hX iX0_mayStay_32 ?_
        refine e_iand hX iX0_mayStay_33 ?_
        refine e_istore_n hX 3 iX0_mayStay_34 rfl (by decide) ?_
        refine e_aload_n hX 0 iX0_mayStay_35 rfl rfl ?_
        refine e_get hX iX0_mayStay_36 h1 rfl ?_
        refine e_iload_n hX 1 iX0_mayStay_39 rfl rfl ?_
        refine e_iald hX p iX0_mayStay_40 h2 rfl (by omega) (by decide) ?_
        rw [h3 p hp]
        refine e_iload_n hX 3 iX0_mayStay_41 rfl rfl ?_
        refine e_iand hX iX0_mayStay_42 ?_
        refine e_if_ne hX iX0_mayStay_43 (fun c43 => ?_) (fun c43 => ?_)
        · refine e_iconst (v := 0) hX iX0_mayStay_50 (by decide) ?_
          have e0 : stayN B M p rem = false := by
            cases c : stayN B M p rem
            · rfl
            · exact absurd ((stay_t hb (by omega) (hM p hp)).mpr c) c43
          exact e_zret hX hQ iX0_mayStay_51 rfl nar_0 (by decide) (by decide) ⟨by rw [e0]; rfl, rfl⟩
        · refine e_iconst (v := 1) hX iX0_mayStay_46 (by decide) ?_
          refine e_goto hX iX0_mayStay_47 ?_
          exact e_zret hX hQ iX0_mayStay_51 rfl nar_1 (by decide) (by decide) ⟨by rw [(stay_t hb (by omega) (hM p hp)).mp c43]; rfl, rfl⟩
      · refine e_iconst (v := 0) hX iX0_mayStay_23 (by decide) ?_
        exact e_zret hX hQ iX0_mayStay_24 rfl nar_0 (by decide) (by decide) ⟨by rw [show stayN B M p rem = false from and_f1 (by rw [b2i_n0.mp c20]; rfl)]; rfl, rfl⟩
theorem nota_t {a r : Nat} (ha : a < 2 ^ 12) : nI a &&& (nI r ^^^ (-1)) = 0 ↔ subN a r = true := by
  rw [nI_nota a r (Nat.lt_trans ha (by decide)), subN_t ha]
theorem c_isRep {l : Launch} (htr : l.stackTraces = false) {θ : e_T} {ph : e_PH} {cf ca n B : Nat} {M : Nat → Nat} (h : cfl θ ph cf ca n B M) (rem : Nat) : MC yX0_isRepairedBy cX0_isRepairedBy 3 (some .boolean) 1 0 0 l θ [.ref cf, .int (nI rem)] ph (fun z p' => z = some (.int (b2i (repN n B M rem))) ∧ p' = ph) (fun _ _ => False) := by
  obtain ⟨h1, ⟨f, h2, h3⟩, hB, hM, hn⟩ := h
  refine MC.of htr (by decide) (Nat.le_of_ble_eq_true rfl) ?_
  intro x hX hQ hT
  have loop : subN B rem = true → ∀ (g i : Nat), n - i < g → i ≤ n → (∀ z, z < i → (rem.testBit z || subN (M z) rem) = true) → EJ θ x 15 [(0, .ref cf), (1, .int (nI rem)), (2, .int (nI i))] [] ph 0 0 := by
    intro hs g
    induction g with
    | zero => intro i hg; omega
    | succ g ih =>
      intro i hg hi hinv
      have next : i < n → (rem.testBit i || subN (M i) rem) = true → EJ θ x 46 [(0, .ref cf), (1, .int (nI rem)), (2, .int (nI i))] [] ph 0 0 := by
        intro hin hf
        refine e_iinc hX iX0_isRepairedBy_46 rfl (by first | exact nI_inc _ | rfl) (by decide) ?_
        refine e_goto hX iX0_isRepairedBy_49 ?_
        refine e_loc [0, 1, 2] ?_
        refine ih (i + 1) (by omega) (by omega) (fun z hz => ?_)
        by_cases e : z = i
        · subst e; exact hf
        · exact hinv z (by omega)
      refine e_iload_n hX 2 iX0_isRepairedBy_15 rfl rfl ?_
      refine e_aload_n hX 0 iX0_isRepairedBy_16 rfl rfl ?_
      refine e_get hX iX0_isRepairedBy_17 h1 rfl ?_
      refine e_icmp_ge hX iX0_isRepairedBy_20 (fun c20 => ?_) (fun c20 => ?_)
      · have hin : i = n := by
          rcases Nat.lt_or_ge i n with h | h
          · exact absurd c20 (nI_ge h (by omega))
          · omega
        subst hin
        refine e_iconst (v := 1) hX iX0_isRepairedBy_52 (by decide) ?_
        exact e_zret hX hQ iX0_isRepairedBy_53 rfl nar_1 (by decide) (by decide) ⟨by rw [show repN i B M rem = true from and_tt hs (allB_t.mpr hinv)]; rfl, rfl⟩
      · have hin : i < n := by
          rcases Nat.lt_or_ge i n with h | h
          · exact h
          · exact absurd (nI_le h (by omega)) c20
        refine e_iload_n hX 2 iX0_isRepairedBy_23 rfl rfl ?_
        refine e_iload_n hX 1 iX0_isRepairedBy_24 rfl rfl ?_
        refine e_callS hX iX0_isRepairedBy_25 (c_isIn htr i (nI rem)) rfl rfl ⟨by decide, by decide, by decide, by decide⟩ (Nat.le_of_ble_eq_true rfl) (fun _ _ h => h.elim) (fun v9 ph9 hv9 => ?_)
        obtain ⟨rfl, e9⟩ := hv9
        subst ph9
        rw [sb_n _ (show i < 32 by omega)]
        refine e_if_ne hX iX0_isRepairedBy_28 (fun c28 => ?_) (fun c28 => ?_)
        · refine e_loc [0, 1, 2] ?_
          exact next hin (or_t1 (b2i_n0.mp c28))
        · refine e_aload_n hX 0 iX0_isRepairedBy_31 rfl rfl ?_
          refine e_get hX iX0_isRepairedBy_32 h1 rfl ?_
          refine e_iload_n hX 2 iX0_isRepairedBy_35 rfl rfl ?_
          refine e_iald hX i iX0_isRepairedBy_36 h2 rfl (by omega) (by decide) ?_
          rw [h3 i hin]
          refine e_iload_n hX 1 iX0_isRepairedBy_37 rfl rfl ?_
          refine e_iconst (v := (-1)) hX iX0_isRepairedBy_38 (by decide) ?_
          refine e_ixor hX iX0_isRepairedBy_39 ?_
          refine e_iand hX iX0_isRepairedBy_40 ?_
          refine e_if_eq hX iX0_isRepairedBy_41 (fun c41 => ?_) (fun c41 => ?_)
          · refine e_loc [0, 1, 2] ?_
            exact next hin (or_t2 ((nota_t (hM i hin)).mp c41))
          · have e0 : repN n B M rem = false := and_f2 (allB_f hin (or_ff (b2i_0.mp c28) (by
              cases c : subN (M i) rem
              · rfl
              · exact absurd ((nota_t (hM i hin)).mpr c) c41)))
            refine e_iconst (v := 0) hX iX0_isRepairedBy_44 (by decide) ?_
            exact e_zret hX hQ iX0_isRepairedBy_45 rfl nar_0 (by decide) (by decide) ⟨by rw [e0]; rfl, rfl⟩
  refine e_aload_n hX 0 iX0_isRepairedBy_0 rfl rfl ?_
  refine e_get hX iX0_isRepairedBy_1 h1 rfl ?_
  refine e_iload_n hX 1 iX0_isRepairedBy_4 rfl rfl ?_
  refine e_iconst (v := (-1)) hX iX0_isRepairedBy_5 (by decide) ?_
  refine e_ixor hX iX0_isRepairedBy_6 ?_
  refine e_iand hX iX0_isRepairedBy_7 ?_
  refine e_if_eq hX iX0_isRepairedBy_8 (fun c8 => ?_) (fun c8 => ?_)
  · refine e_iconst (v := 0) hX iX0_isRepairedBy_13 (by decide) ?_
    refine e_istore_n hX 2 iX0_isRepairedBy_14 rfl (by decide) ?_
    refine e_loc [0, 1, 2] ?_
    exact loop ((nota_t hB).mp c8) (n + 1) 0 (by omega) (by omega) (fun z hz => absurd hz (Nat.not_lt_zero z))
  · have e0 : repN n B M rem = false := and_f1 (by
      cases c : subN B rem
      · rfl
      · exact absurd ((nota_t hB).mpr c) c8)
    refine e_iconst (v := 0) hX iX0_isRepairedBy_11 (by decide) ?_
    exact e_zret hX hQ iX0_isRepairedBy_12 rfl nar_0 (by decide) (by decide) ⟨by rw [e0]; rfl, rfl⟩
def popN (k : Nat) : Nat := cntB 12 (fun i => k.testBit i)
/-- what Integer.bitCount works out -/
def us (x : Int32) (k : Int32) : Int32 := (x.toUInt32 >>> (k.toUInt32 &&& Int32.toUInt32 31)).toInt32
def bc1 (x : Int32) : Int32 := x - (us x 1 &&& 1431655765)
def bc2 (x : Int32) : Int32 := (x &&& 858993459) + (us x 2 &&& 858993459)
def bc3 (x : Int32) : Int32 := (x + us x 4) &&& 252645135
def bc4 (x : Int32) : Int32 := x + us x 8
def bc5 (x : Int32) : Int32 := (x + us x 16) &&& 63
theorem bc_all0 : ∀ a, a < 64 → ∀ b, b < 64 → bc5 (bc4 (bc3 (bc2 (bc1 (nI (64 * a + b)))))) = nI (popN (64 * a + b)) := by decide +kernel
theorem bc_all {k : Nat} (h : k < 2 ^ 12) : bc5 (bc4 (bc3 (bc2 (bc1 (nI k))))) = nI (popN k) := by
  have := bc_all0 (k / 64) (by omega) (k % 64) (by omega)
  rw [show 64 * (k / 64) + k % 64 = k by omega] at this
  exact this
theorem c_bitCount {l : Launch} (htr : l.stackTraces = false) {θ : e_T} {ph : e_PH} {k : Nat} (hk : k < 2 ^ 12) : MC yJ6_bitCount_0f7a4 cJ6_bitCount_0f7a4 1 (some .int) 0 0 0 l θ [.int (nI k)] ph (fun z p => z = some (.int (nI (popN k))) ∧ p = ph) (fun _ _ => False) := by
  refine MC.of htr (by decide) (Nat.le_of_ble_eq_true rfl) ?_
  intro x hX hQ hT
  refine e_iload_n hX 0 iJ6_bitCount_0f7a4_0 rfl rfl ?_
  refine e_iload_n hX 0 iJ6_bitCount_0f7a4_1 rfl rfl ?_
  refine e_iconst (v := 1) hX iJ6_bitCount_0f7a4_2 (by decide) ?_
  refine e_iushr hX iJ6_bitCount_0f7a4_3 ?_
  refine e_ldcw hX iJ6_bitCount_0f7a4_4 kcRJ6_265 ?_
  refine e_iand hX iJ6_bitCount_0f7a4_7 ?_
  refine e_isub hX iJ6_bitCount_0f7a4_8 ?_
  refine e_istore_n hX 0 iJ6_bitCount_0f7a4_9 rfl (by decide) ?_
  refine e_iload_n hX 0 iJ6_bitCount_0f7a4_10 rfl rfl ?_
  refine e_ldcw hX iJ6_bitCount_0f7a4_11 kcRJ6_266 ?_
  refine e_iand hX iJ6_bitCount_0f7a4_14 ?_
  refine e_iload_n hX 0 iJ6_bitCount_0f7a4_15 rfl rfl ?_
  refine e_iconst (v := 2) hX iJ6_bitCount_0f7a4_16 (by decide) ?_
  refine e_iushr hX iJ6_bitCount_0f7a4_17 ?_
  refine e_ldcw hX iJ6_bitCount_0f7a4_18 kcRJ6_266 ?_
  refine e_iand hX iJ6_bitCount_0f7a4_21 ?_
  refine e_iadd hX iJ6_bitCount_0f7a4_22 ?_
  refine e_istore_n hX 0 iJ6_bitCount_0f7a4_23 rfl (by decide) ?_
  refine e_iload_n hX 0 iJ6_bitCount_0f7a4_24 rfl rfl ?_
  refine e_iload_n hX 0 iJ6_bitCount_0f7a4_25 rfl rfl ?_
  refine e_iconst (v := 4) hX iJ6_bitCount_0f7a4_26 (by decide) ?_
  refine e_iushr hX iJ6_bitCount_0f7a4_27 ?_
  refine e_iadd hX iJ6_bitCount_0f7a4_28 ?_
  refine e_ldcw hX iJ6_bitCount_0f7a4_29 kcRJ6_267 ?_
  refine e_iand hX iJ6_bitCount_0f7a4_32 ?_
  refine e_istore_n hX 0 iJ6_bitCount_0f7a4_33 rfl (by decide) ?_
  refine e_iload_n hX 0 iJ6_bitCount_0f7a4_34 rfl rfl ?_
  refine e_iload_n hX 0 iJ6_bitCount_0f7a4_35 rfl rfl ?_
  refine e_bipush (v := 8) hX iJ6_bitCount_0f7a4_36 (by decide) ?_
  refine e_iushr hX iJ6_bitCount_0f7a4_38 ?_
  refine e_iadd hX iJ6_bitCount_0f7a4_39 ?_
  refine e_istore_n hX 0 iJ6_bitCount_0f7a4_40 rfl (by decide) ?_
  refine e_iload_n hX 0 iJ6_bitCount_0f7a4_41 rfl rfl ?_
  refine e_iload_n hX 0 iJ6_bitCount_0f7a4_42 rfl rfl ?_
  refine e_bipush (v := 16) hX iJ6_bitCount_0f7a4_43 (by decide) ?_
  refine e_iushr hX iJ6_bitCount_0f7a4_45 ?_
  refine e_iadd hX iJ6_bitCount_0f7a4_46 ?_
  refine e_istore_n hX 0 iJ6_bitCount_0f7a4_47 rfl (by decide) ?_
  refine e_iload_n hX 0 iJ6_bitCount_0f7a4_48 rfl rfl ?_
  refine e_bipush (v := 63) hX iJ6_bitCount_0f7a4_49 (by decide) ?_
  refine e_iand hX iJ6_bitCount_0f7a4_51 ?_
  exact e_iret hX hQ iJ6_bitCount_0f7a4_52 rfl (by decide) (by decide) ⟨by rw [← bc_all hk]; rfl, rfl⟩
/-- what bestFrom works out: g positions are left -/
def bfN (B : Nat) (M : Nat → Nat) : Nat → Nat → Nat → Nat → Nat
  | 0, _, rem, best => if popN best ≤ popN rem then best else rem
  | g + 1, p, rem, best => if popN best ≤ popN rem then best else bfN B M g (p + 1) (rem ||| 2 ^ p) (if stayN B M p rem = true then bfN B M g (p + 1) rem best else best)
theorem bfN_lt {B : Nat} {M : Nat → Nat} : ∀ (g p rem best : Nat), p + g ≤ 12 → rem < 2 ^ 12 → best < 2 ^ 12 → bfN B M g p rem best < 2 ^ 12
  | 0, p, rem, best, h, hr, hb => by
    unfold bfN
    by_cases c : popN best ≤ popN rem
    · rw [if_pos c]; exact hb
    · rw [if_neg c]; exact hr
  | g + 1, p, rem, best, h, hr, hb => by
    unfold bfN
    by_cases c : popN best ≤ popN rem
    · rw [if_pos c]; exact hb
    · rw [if_neg c]
      refine bfN_lt g (p + 1) _ _ (by omega) (lor_lt hr (pow_lt12 (by omega))) ?_
      by_cases c2 : stayN B M p rem = true
      · rw [if_pos c2]; exact bfN_lt g (p + 1) rem best (by omega) hr hb
      · rw [if_neg c2]; exact hb
theorem c_bestFrom {l : Launch} (htr : l.stackTraces = false) {θ : e_T} {ph : e_PH} {cf ca n B : Nat} {M : Nat → Nat} (h : cfl θ ph cf ca n B M) : ∀ (g p rem best : Nat), p + g = n → rem < 2 ^ 12 → best < 2 ^ 12 → MC yX11_bestFrom cX11_bestFrom 5 (some .int) (g + 2) 0 0 l θ [.ref cf, .int (nI p), .int (nI rem), .int (nI best)] ph (fun z p' => z = some (.int (nI (bfN B M g p rem best))) ∧ p' = ph) (fun _ _ => False) := by
  have hc := h
  obtain ⟨h1, ⟨f, h2, h3⟩, hB, hM, hn⟩ := h
  intro g
  induction g with
  | zero =>
    intro p rem best hp hr hb
    refine MC.of htr (by decide) (Nat.le_of_ble_eq_true rfl) ?_
    intro x hX hQ hT
    refine e_iload_n hX 2 iX11_bestFrom_0 rfl rfl ?_
    refine e_callS hX iX11_bestFrom_1 (c_bitCount htr hr) rfl rfl ⟨by decide, by decide, by decide, by decide⟩ (Nat.le_of_ble_eq_true rfl) (fun _ _ h => h.elim) (fun v9 ph9 hv9 => ?_)
    obtain ⟨rfl, e9⟩ := hv9
    subst ph9
    refine e_iload_n hX 3 iX11_bestFrom_4 rfl rfl ?_
    refine e_callS hX iX11_bestFrom_5 (c_bitCount htr hb) rfl rfl ⟨by decide, by decide, by decide, by decide⟩ (Nat.le_of_ble_eq_true rfl) (fun _ _ h => h.elim) (fun v9 ph9 hv9 => ?_)
    obtain ⟨rfl, e9⟩ := hv9
    subst ph9
    have p1 : popN rem ≤ 12 := cntB_le _ _
    have p2 : popN best ≤ 12 := cntB_le _ _
    refine e_icmp_lt hX iX11_bestFrom_8 (fun c8 => ?_) (fun c8 => ?_)
    · have c8' := (nI_ltI (by omega) (by omega)).mp c8
      refine e_iload_n hX 1 iX11_bestFrom_13 rfl rfl ?_
      refine e_aload_n hX 0 iX11_bestFrom_14 rfl rfl ?_
      refine e_get hX iX11_bestFrom_15 h1 rfl ?_
      refine e_icmp_lt hX iX11_bestFrom_18 (fun c18 => ?_) (fun c18 => ?_)
      · exact absurd c18 (nI_nlt (by omega) (by omega))
      · refine e_iload_n hX 2 iX11_bestFrom_21 rfl rfl ?_
        exact e_iret hX hQ iX11_bestFrom_22 rfl (by decide) (by decide) ⟨by unfold bfN; rw [if_neg (by omega)], rfl⟩
    · have c8' : ¬ popN rem < popN best := fun e => c8 ((nI_ltI (by omega) (by omega)).mpr e)
      refine e_iload_n hX 3 iX11_bestFrom_11 rfl rfl ?_
      exact e_iret hX hQ iX11_bestFrom_12 rfl (by decide) (by decide) ⟨by unfold bfN; rw [if_pos (by omega)], rfl⟩
  | succ g ih =>
    intro p rem best hp hr hb
    refine MC.of htr (by decide) (Nat.le_of_ble_eq_true rfl) ?_
    intro x hX hQ hT
    refine e_iload_n hX 2 iX11_bestFrom_0 rfl rfl ?_
    refine e_callS hX iX11_bestFrom_1 (c_bitCount htr hr) rfl rfl ⟨by show _ ≤ 10 + _; omega, by show _ ≤ 150 + _; omega, Nat.le_refl _, Nat.le_refl _⟩ (Nat.le_of_ble_eq_true rfl) (fun _ _ h => h.elim) (fun v9 ph9 hv9 => ?_)
    obtain ⟨rfl, e9⟩ := hv9
    subst ph9
    refine e_iload_n hX 3 iX11_bestFrom_4 rfl rfl ?_
    refine e_callS hX iX11_bestFrom_5 (c_bitCount htr hb) rfl rfl ⟨by show _ ≤ 10 + _; omega, by show _ ≤ 150 + _; omega, Nat.le_refl _, Nat.le_refl _⟩ (Nat.le_of_ble_eq_true rfl) (fun _ _ h => h.elim) (fun v9 ph9 hv9 => ?_)
    obtain ⟨rfl, e9⟩ := hv9
    subst ph9
    have p1 : popN rem ≤ 12 := cntB_le _ _
    have p2 : popN best ≤ 12 := cntB_le _ _
    refine e_icmp_lt hX iX11_bestFrom_8 (fun c8 => ?_) (fun c8 => ?_)
    · have c8' := (nI_ltI (by omega) (by omega)).mp c8
      have ebf : ∀ y, (if stayN B M p rem = true then bfN B M g (p + 1) rem best else best) = y → bfN B M (g + 1) p rem best = bfN B M g (p + 1) (rem ||| 2 ^ p) y := fun y hy => by
        show (if popN best ≤ popN rem then _ else _) = _
        rw [if_neg (by omega), hy]
      have last : ∀ y, y < 2 ^ 12 → (if stayN B M p rem = true then bfN B M g (p + 1) rem best else best) = y → EJ θ x 47 [(0, .ref cf), (1, .int (nI p)), (2, .int (nI rem)), (3, .int (nI best)), (4, .int (nI y))] [] ph 0 0 := by
        intro y hy he
        refine e_aload_n hX 0 iX11_bestFrom_47 rfl rfl ?_
        refine e_iload_n hX 1 iX11_bestFrom_48 rfl rfl ?_
        refine e_iconst (v := 1) hX iX11_bestFrom_49 (by decide) ?_
        refine e_iadd hX iX11_bestFrom_50 ?_
        rw [show nI p + 1 = nI (p + 1) from nI_1 p]
        refine e_iload_n hX 2 iX11_bestFrom_51 rfl rfl ?_
        refine e_iconst (v := 1) hX iX11_bestFrom_52 (by decide) ?_
        refine e_iload_n hX 1 iX11_bestFrom_53 rfl rfl ?_
        refine e_ishl hX iX11_bestFrom_54 ?_
        refine e_ior hX iX11_bestFrom_55 ?_
        refine e_iload hX iX11_bestFrom_56 rfl ?_
        rw [sh1 p (by omega), nI_or]
        refine e_callS hX iX11_bestFrom_58 (ih (p + 1) (rem ||| 2 ^ p) y (by omega) (lor_lt hr (pow_lt12 (by omega))) hy) rfl rfl ⟨by show _ ≤ 10 + _; omega, by show _ ≤ 150 + _; omega, Nat.le_refl _, Nat.le_refl _⟩ (Nat.le_of_ble_eq_true rfl) (fun _ _ h => h.elim) (fun v9 ph9 hv9 => ?_)
        obtain ⟨rfl, e9⟩ := hv9
        subst ph9
        exact e_iret hX hQ iX11_bestFrom_61 rfl (by decide) (by decide) ⟨by rw [ebf y he], rfl⟩
      refine e_iload_n hX 1 iX11_bestFrom_13 rfl rfl ?_
      refine e_aload_n hX 0 iX11_bestFrom_14 rfl rfl ?_
      refine e_get hX iX11_bestFrom_15 h1 rfl ?_
      refine e_icmp_lt hX iX11_bestFrom_18 (fun c18 => ?_) (fun c18 => ?_)
      · refine e_iload_n hX 3 iX11_bestFrom_23 rfl rfl ?_
        refine e_istore hX iX11_bestFrom_24 (by decide) ?_
        refine e_aload_n hX 0 iX11_bestFrom_26 rfl rfl ?_
        refine e_iload_n hX 1 iX11_bestFrom_27 rfl rfl ?_
        refine e_iload_n hX 2 iX11_bestFrom_28 rfl rfl ?_
        refine e_callV hX iX11_bestFrom_29 h1 (c_mayStay htr hc (p := p) (by omega) rem) rfl rfl ⟨by show _ ≤ 10 + _; omega, by show _ ≤ 150 + _; omega, Nat.le_refl _, Nat.le_refl _⟩ (Nat.le_of_ble_eq_true rfl) (fun _ _ h => h.elim) (fun v9 ph9 hv9 => ?_)
        obtain ⟨rfl, e9⟩ := hv9
        subst ph9
        refine e_if_eq hX iX11_bestFrom_32 (fun c32 => ?_) (fun c32 => ?_)
        · refine e_loc [0, 1, 2, 3, 4] ?_
          exact last best hb (if_neg (by rw [b2i_0.mp c32]; decide))
        · refine e_aload_n hX 0 iX11_bestFrom_35 rfl rfl ?_
          refine e_iload_n hX 1 iX11_bestFrom_36 rfl rfl ?_
          refine e_iconst (v := 1) hX iX11_bestFrom_37 (by decide) ?_
          refine e_iadd hX iX11_bestFrom_38 ?_
          rw [show nI p + 1 = nI (p + 1) from nI_1 p]
          refine e_iload_n hX 2 iX11_bestFrom_39 rfl rfl ?_
          refine e_iload hX iX11_bestFrom_40 rfl ?_
          refine e_callS hX iX11_bestFrom_42 (ih (p + 1) rem best (by omega) hr hb) rfl rfl ⟨by show _ ≤ 10 + _; omega, by show _ ≤ 150 + _; omega, Nat.le_refl _, Nat.le_refl _⟩ (Nat.le_of_ble_eq_true rfl) (fun _ _ h => h.elim) (fun v9 ph9 hv9 => ?_)
          obtain ⟨rfl, e9⟩ := hv9
          subst ph9
          refine e_istore hX iX11_bestFrom_45 (by decide) ?_
          refine e_loc [0, 1, 2, 3, 4] ?_
          exact last _ (bfN_lt g (p + 1) rem best (by omega) hr hb) (if_pos (b2i_n0.mp c32))
      · exact absurd (nI_lt (by omega) (by omega)) c18
    · have c8' : ¬ popN rem < popN best := fun e => c8 ((nI_ltI (by omega) (by omega)).mpr e)
      refine e_iload_n hX 3 iX11_bestFrom_11 rfl rfl ?_
      exact e_iret hX hQ iX11_bestFrom_12 rfl (by decide) (by decide) ⟨by show some (Value.int (nI best)) = some (Value.int (nI (if popN best ≤ popN rem then _ else _))); rw [if_pos (by omega)], rfl⟩
