def bt (x : Int32) (i : Nat) : Bool := x.toBitVec.getLsbD i
theorem b_ext {x y : Int32} (h : ∀ i, i < 32 → bt x i = bt y i) : x = y := Int32.toBitVec_inj.mp (BitVec.eq_of_getLsbD_eq (fun i hi => h i hi))
theorem b_or (x y : Int32) (i : Nat) : bt (x ||| y) i = (bt x i || bt y i) := by unfold bt; rw [Int32.toBitVec_or, BitVec.getLsbD_or]
theorem b_and (x y : Int32) (i : Nat) : bt (x &&& y) i = (bt x i && bt y i) := by unfold bt; rw [Int32.toBitVec_and, BitVec.getLsbD_and]
theorem b_xor (x y : Int32) (i : Nat) : bt (x ^^^ y) i = (bt x i ^^ bt y i) := by unfold bt; rw [Int32.toBitVec_xor, BitVec.getLsbD_xor]
theorem b_m1 : ∀ i, i < 32 → bt (-1) i = true := by decide +kernel
theorem b_0 (i : Nat) : bt 0 i = false := BitVec.getLsbD_zero
theorem s_l : ∀ n, n < 32 → ((nI n &&& 31).toBitVec.smod 32).toNat = n := by decide +kernel
theorem b_sshr (n : Nat) (hn : n < 32) (x : Int32) {i : Nat} (hi : i < 32) : bt (x >>> (nI n &&& 31)) i = if n + i < 32 then bt x (n + i) else bt x 31 := by
  unfold bt
  rw [Int32.toBitVec_shiftRight]
  show (x.toBitVec.sshiftRight ((nI n &&& 31).toBitVec.smod 32).toNat).getLsbD i = _
  rw [s_l n hn, BitVec.getLsbD_sshiftRight, BitVec.msb_eq_getLsbD_last]
  simp [hi]
theorem bt_n (k : Nat) {i : Nat} (hi : i < 32) : bt (nI k) i = k.testBit i := by
  unfold bt
  show (BitVec.ofNat 32 k).getLsbD i = _
  rw [BitVec.getLsbD_ofNat]
  simp [hi]
theorem bt_1 : ∀ i, i < 32 → bt 1 i = decide (i = 0) := by decide +kernel
theorem sb_bt (s : Int32) {i : Nat} (hi : i < 32) : sb s i = bt s i := by
  cases h : bt s i
  · refine (sb_0.mp (b_ext fun j hj => ?_))
    rw [b_and, b_sshr i hi s hj, bt_1 j hj, b_0]
    by_cases h0 : j = 0
    · subst h0; rw [Nat.add_zero, if_pos hi, h]; rfl
    · rw [decide_eq_false h0, Bool.and_false]
  · refine (sb_1.mp (b_ext fun j hj => ?_))
    rw [b_and, b_sshr i hi s hj, bt_1 j hj]
    by_cases h0 : j = 0
    · subst h0; rw [Nat.add_zero, if_pos hi, h]; rfl
    · rw [decide_eq_false h0, Bool.and_false]
theorem sb_n (k : Nat) {i : Nat} (hi : i < 32) : sb (nI k) i = k.testBit i := (sb_bt _ hi).trans (bt_n k hi)
theorem sh1 : ∀ i, i < 31 → (1 : Int32) <<< (nI i &&& 31) = nI (2 ^ i) := by decide +kernel
theorem nI_or (a b : Nat) : nI a ||| nI b = nI (a ||| b) := b_ext fun i hi => by rw [b_or, bt_n a hi, bt_n b hi, bt_n _ hi, Nat.testBit_or]
theorem nI_and (a b : Nat) : nI a &&& nI b = nI (a &&& b) := b_ext fun i hi => by rw [b_and, bt_n a hi, bt_n b hi, bt_n _ hi, Nat.testBit_and]
theorem tb_lt {a k j : Nat} (ha : a < 2 ^ k) (h : a.testBit j = true) : j < k := by
  rcases Nat.lt_or_ge j k with q | q
  · exact q
  · rw [Nat.testBit_lt_two_pow (Nat.lt_of_lt_of_le ha (Nat.pow_le_pow_right (by decide) q))] at h; cases h
theorem nI_nota (a r : Nat) (ha : a < 2 ^ 31) : nI a &&& (nI r ^^^ (-1)) = 0 ↔ ∀ j, a.testBit j = true → r.testBit j = true := by
  constructor
  · intro h j hj
    have hj2 : j < 31 := tb_lt ha hj
    have h1 : bt (nI a &&& (nI r ^^^ (-1))) j = false := by rw [h, b_0]
    rw [b_and, b_xor, bt_n a (by omega), bt_n r (by omega), b_m1 j (by omega), hj] at h1
    simpa using h1
  · intro h
    refine b_ext fun i hi => ?_
    rw [b_and, b_xor, bt_n a hi, bt_n r hi, b_m1 i hi, b_0]
    cases hA : a.testBit i
    · rfl
    · rw [h i hA]; rfl
theorem tb_low (p j : Nat) : (2 ^ p - 1).testBit j = decide (j < p) := Nat.testBit_two_pow_sub_one p j
theorem nI_stay (a r p : Nat) (ha : a < 2 ^ 31) (hp : p < 31) : nI a &&& (nI (2 ^ p - 1) &&& (nI r ^^^ (-1))) = 0 ↔ ∀ j, j < p → a.testBit j = true → r.testBit j = true := by
  constructor
  · intro h j hjp hj
    have h1 : bt (nI a &&& (nI (2 ^ p - 1) &&& (nI r ^^^ (-1)))) j = false := by rw [h, b_0]
    rw [b_and, b_and, b_xor, bt_n a (by omega), bt_n _ (by omega), bt_n r (by omega), b_m1 j (by omega), hj, tb_low, decide_eq_true hjp] at h1
    simpa using h1
  · intro h
    refine b_ext fun i hi => ?_
    rw [b_and, b_and, b_xor, bt_n a hi, bt_n _ hi, bt_n r hi, b_m1 i hi, b_0, tb_low]
    cases hA : a.testBit i
    · rfl
    · by_cases hip : i < p
      · rw [h i hip hA, decide_eq_true hip]; rfl
      · rw [decide_eq_false hip]; rfl
theorem lor_lt {a b k : Nat} (ha : a < 2 ^ k) (hb : b < 2 ^ k) : a ||| b < 2 ^ k := Nat.or_lt_two_pow ha hb
theorem pow_lt12 {i : Nat} (h : i < 12) : 2 ^ i < 2 ^ 12 := Nat.pow_lt_pow_right (by decide) h
theorem tb_pow (i j : Nat) : (2 ^ i).testBit j = decide (i = j) := Nat.testBit_two_pow
/-- does some i below n have it; do all -/
def anyB : Nat → (Nat → Bool) → Bool
  | 0, _ => false
  | n + 1, f => anyB n f || f n
def allB : Nat → (Nat → Bool) → Bool
  | 0, _ => true
  | n + 1, f => allB n f && f n
def cntB : Nat → (Nat → Bool) → Nat
  | 0, _ => 0
  | n + 1, f => cntB n f + (if f n then 1 else 0)
theorem anyB_t {f : Nat → Bool} : ∀ {n : Nat}, anyB n f = true ↔ ∃ i, i < n ∧ f i = true
  | 0 => Iff.intro (fun h => Bool.noConfusion h) (fun ⟨i, h, _⟩ => absurd h (Nat.not_lt_zero i))
  | n + 1 => by
    unfold anyB
    rw [Bool.or_eq_true, anyB_t]
    constructor
    · rintro (⟨i, h1, h2⟩ | h)
      · exact ⟨i, by omega, h2⟩
      · exact ⟨n, by omega, h⟩
    · rintro ⟨i, h1, h2⟩
      by_cases e : i = n
      · subst e; exact Or.inr h2
      · exact Or.inl ⟨i, by omega, h2⟩
theorem allB_t {f : Nat → Bool} : ∀ {n : Nat}, allB n f = true ↔ ∀ i, i < n → f i = true
  | 0 => ⟨fun _ i h => absurd h (Nat.not_lt_zero i), fun _ => rfl⟩
  | n + 1 => by
    unfold allB
    rw [Bool.and_eq_true, allB_t]
    constructor
    · intro h i hi
      by_cases e : i = n
      · subst e; exact h.2
      · exact h.1 i (by omega)
    · intro h
      exact ⟨fun i hi => h i (by omega), h n (by omega)⟩
theorem anyB_f {f : Nat → Bool} {n : Nat} : anyB n f = false ↔ ∀ i, i < n → f i = false := by
  rw [← Bool.not_eq_true, anyB_t]
  constructor
  · intro h i hi
    cases e : f i
    · rfl
    · exact absurd ⟨i, hi, e⟩ h
  · rintro h ⟨i, hi, e⟩
    rw [h i hi] at e
    cases e
theorem allB_f {f : Nat → Bool} {n i : Nat} (hi : i < n) (h : f i = false) : allB n f = false := by
  cases e : allB n f
  · rfl
  · rw [allB_t.mp e i hi] at h; cases h
theorem anyB_c {f g : Nat → Bool} {n : Nat} (h : ∀ i, i < n → f i = g i) : anyB n f = anyB n g := by
  induction n with
  | zero => rfl
  | succ n ih => unfold anyB; rw [ih (fun i hi => h i (by omega)), h n (by omega)]
theorem cntB_c {f g : Nat → Bool} {n : Nat} (h : ∀ i, i < n → f i = g i) : cntB n f = cntB n g := by
  induction n with
  | zero => rfl
  | succ n ih => unfold cntB; rw [ih (fun i hi => h i (by omega)), h n (by omega)]
theorem cntB_le (f : Nat → Bool) : ∀ n, cntB n f ≤ n
  | 0 => Nat.le_refl _
  | n + 1 => by
    have := cntB_le f n
    unfold cntB
    by_cases h : f n = true
    · rw [if_pos h]; omega
    · rw [if_neg h]; omega
theorem cntB_s1 {f : Nat → Bool} {n : Nat} (h : f n = true) : cntB (n + 1) f = cntB n f + 1 := by show cntB n f + (if f n = true then 1 else 0) = _; rw [if_pos h]
theorem cntB_s0 {f : Nat → Bool} {n : Nat} (h : f n = false) : cntB (n + 1) f = cntB n f := by show cntB n f + (if f n = true then 1 else 0) = _; rw [if_neg (by rw [h]; decide)]; rfl
/-- rules as tuples: kind, column, two numbers, strict, dropped -/
abbrev RU : Type := Nat × Nat × Int32 × Int32 × Bool × Bool
def stR (ρ : RU) : Bool := ρ.2.2.2.2.1
def drR (ρ : RU) : Bool := ρ.2.2.2.2.2
def brkR (ρ : RU) (v : Nat → Int32) : Bool := brk ρ.1 ρ.2.1 ρ.2.2.1 ρ.2.2.2.1 v
def clsR (ρ : RU) (v u : Nat → Int32) : Bool := cls ρ.1 ρ.2.1 ρ.2.2.1 v u
def ruleA (ph : e_PH) (q : Nat) (ρ : RU) : Prop := ruleAt ph q ρ.1 ρ.2.1 ρ.2.2.1 ρ.2.2.2.1 (stR ρ) (drR ρ)
def rls (ph : e_PH) (n : Nat) (r : Nat → Nat) (R : Nat → RU) : Prop := ∀ i, i < n → ruleA ph (r i) (R i)
def rws (θ : e_T) (ph : e_PH) (n : Nat) (r : Nat → Nat) (v : Nat → Nat → Int32) : Prop := ∀ i, i < n → ∃ w id, rowAt θ ph (r i) w (v i) id
/-- a row is bad; two rows conflict -/
def badB (n : Nat) (R : Nat → RU) (v : Nat → Int32) : Bool := anyB n (fun i => !drR (R i) && brkR (R i) v)
def conB (n : Nat) (R : Nat → RU) (v u : Nat → Int32) : Bool := anyB n (fun i => !drR (R i) && clsR (R i) v u)
theorem eqIn_symm {s : Int32} {v u : Nat → Int32} : eqIn s v u = eqIn s u v := by
  cases h : eqIn s u v
  · cases h2 : eqIn s v u
    · rfl
    · rw [eqIn_t.mpr (fun c hc hs => (eqIn_t.mp h2 c hc hs).symm)] at h; cases h
  · exact eqIn_t.mpr (fun c hc hs => (eqIn_t.mp h c hc hs).symm)
theorem cls_symm (kd c : Nat) (x : Int32) (v u : Nat → Int32) : cls kd c x v u = cls kd c x u v := by
  unfold cls
  by_cases h3 : kd = 3
  · rw [if_pos h3, if_pos h3]
    by_cases e : v c = u c
    · rw [e]
    · rw [decide_eq_false e, decide_eq_false (fun z => e z.symm), Bool.and_false, Bool.and_false]
  · rw [if_neg h3, if_neg h3]
    by_cases h4 : kd = 4
    · rw [if_pos h4, if_pos h4, eqIn_symm]
      by_cases e : v c = u c
      · rw [e]
      · rw [decide_eq_false e, decide_eq_false (fun z => e z.symm)]
    · rw [if_neg h4, if_neg h4]
theorem conB_symm (n : Nat) (R : Nat → RU) (v u : Nat → Int32) : conB n R v u = conB n R u v := anyB_c (fun i _ => by rw [show clsR (R i) v u = clsR (R i) u v from cls_symm _ _ _ _ _])
section EF
variable {θ : e_T} {x : e_X} {pc nx tgt : Nat} {lv : List (Nat × Value)} {st : List Value} {ph : e_PH} {k n : Nat} {cc : ByteArray} {own nm : String} {nL : Nat} {ret : Option FieldType} {R : Room} {l : Launch} {off : Int}
/-- rule.isStrict, rule.isDropped, over the five kinds -/
theorem e_getSt (hX : e_in cc own nm nL ret R l θ x) (h7 : e_gf cc own pc nx 7 0) (h8 : e_gf cc own pc nx 8 0) (h9 : e_gf cc own pc nx 9 0) (h10 : e_gf cc own pc nx 10 0) (h11 : e_gf cc own pc nx 11 0) {q : Nat} {ρ : RU} (hr : ruleA ph q ρ) (kk : EJ θ x nx lv (.int (b2i (stR ρ)) :: st) ph k n) : EJ θ x pc lv (.ref q :: st) ph k n := by
  obtain ⟨⟨hk, hc, h2⟩, hp⟩ := hr
  generalize hkd : ρ.1 = kd at hk hp h2
  match kd, hk with
  | 0, _ => exact e_get hX h7 hp rfl kk
  | 1, _ => exact e_get hX h8 hp rfl kk
  | 2, _ => exact e_get hX h9 hp rfl kk
  | 3, _ => exact e_get hX h10 hp rfl kk
  | 4, _ => exact e_get hX h11 hp rfl kk
theorem e_getDr (hX : e_in cc own nm nL ret R l θ x) (h7 : e_gf cc own pc nx 7 1) (h8 : e_gf cc own pc nx 8 1) (h9 : e_gf cc own pc nx 9 1) (h10 : e_gf cc own pc nx 10 1) (h11 : e_gf cc own pc nx 11 1) {q : Nat} {ρ : RU} (hr : ruleA ph q ρ) (kk : EJ θ x nx lv (.int (b2i (drR ρ)) :: st) ph k n) : EJ θ x pc lv (.ref q :: st) ph k n := by
  obtain ⟨⟨hk, hc, h2⟩, hp⟩ := hr
  generalize hkd : ρ.1 = kd at hk hp h2
  match kd, hk with
  | 0, _ => exact e_get hX h7 hp rfl kk
  | 1, _ => exact e_get hX h8 hp rfl kk
  | 2, _ => exact e_get hX h9 hp rfl kk
  | 3, _ => exact e_get hX h10 hp rfl kk
  | 4, _ => exact e_get hX h11 hp rfl kk
/-- rule.isBrokenBy(row) -/
theorem e_callBrk (hX : e_in cc own nm nL ret R l θ x) (h7 : e_ivU cc own pc nx 7 yX4_isBrokenBy cX4_isBrokenBy 2 (some .boolean) 1) (h8 : e_ivU cc own pc nx 8 yX6_isBrokenBy cX6_isBrokenBy 2 (some .boolean) 1) (h9 : e_ivU cc own pc nx 9 yX2_isBrokenBy cX2_isBrokenBy 2 (some .boolean) 1) (h10 : e_ivU cc own pc nx 10 yX8_isBrokenBy cX8_isBrokenBy 2 (some .boolean) 1) (h11 : e_ivU cc own pc nx 11 yX8_isBrokenBy cX8_isBrokenBy 2 (some .boolean) 1) (htr : l.stackTraces = false) {q q0 w : Nat} {ρ : RU} {v : Nat → Int32} {id : Int32} (hr : ruleA ph q ρ) (hw : rowAt θ ph q0 w v id) (hf : 12 ≤ R.frames ∧ 211 ≤ R.locals ∧ k ≤ R.cells ∧ n ≤ R.slots) (hst : (st.map fun v => v.category).sum ≤ 8) (kk : EJ θ x nx lv (.int (b2i (brkR ρ v)) :: st) ph k n) : EJ θ x pc lv (.ref q0 :: .ref q :: st) ph k n := by
  obtain ⟨⟨hk, hc, h2⟩, hp⟩ := hr
  obtain ⟨f1, f2, f3, f4⟩ := hf
  obtain ⟨kd, c, xx, yy, sst, dr⟩ := ρ
  match kd, hk with
  | 0, _ => exact e_callU hX h7 hp (c_brk0 htr hw hc hp) rfl rfl ⟨by omega, by omega, f3, f4⟩ hst (fun _ _ h => h.elim) (fun z p h => by obtain ⟨rfl, rfl⟩ := h; exact kk)
  | 1, _ => exact e_callU hX h8 hp (c_brk1 (lo := xx) (hi := yy) htr hw hc hp) rfl rfl ⟨by omega, by omega, f3, f4⟩ hst (fun _ _ h => h.elim) (fun z p h => by obtain ⟨rfl, rfl⟩ := h; exact kk)
  | 2, _ =>
    obtain ⟨c2, hc2, rfl⟩ := h2 rfl
    exact e_callU hX h9 hp (c_brk2 (hi := yy) htr hw hc hc2 hp) rfl rfl ⟨by omega, by omega, f3, f4⟩ hst (fun _ _ h => h.elim) (fun z p h => by obtain ⟨rfl, rfl⟩ := h; exact kk)
  | 3, _ => exact e_callU hX h10 hp (c_X8_isBrokenBy htr) rfl rfl ⟨by omega, by omega, f3, f4⟩ hst (fun _ _ h => h.elim) (fun z p h => by obtain ⟨rfl, rfl⟩ := h; exact kk)
  | 4, _ => exact e_callU hX h11 hp (c_X8_isBrokenBy htr) rfl rfl ⟨by omega, by omega, f3, f4⟩ hst (fun _ _ h => h.elim) (fun z p h => by obtain ⟨rfl, rfl⟩ := h; exact kk)
/-- rule.isClash(row, other) -/
theorem e_callCls (hX : e_in cc own nm nL ret R l θ x) (h7 : e_ivU cc own pc nx 7 yX8_isClash cX8_isClash 3 (some .boolean) 2) (h8 : e_ivU cc own pc nx 8 yX8_isClash cX8_isClash 3 (some .boolean) 2) (h9 : e_ivU cc own pc nx 9 yX8_isClash cX8_isClash 3 (some .boolean) 2) (h10 : e_ivU cc own pc nx 10 yX10_isClash cX10_isClash 3 (some .boolean) 2) (h11 : e_ivU cc own pc nx 11 yX1_isClash cX1_isClash 3 (some .boolean) 2) (htr : l.stackTraces = false) {q q0 w q1 w1 : Nat} {ρ : RU} {v u : Nat → Int32} {id id1 : Int32} (hr : ruleA ph q ρ) (hw : rowAt θ ph q0 w v id) (hw1 : rowAt θ ph q1 w1 u id1) (hf : 12 ≤ R.frames ∧ 212 ≤ R.locals ∧ k ≤ R.cells ∧ n ≤ R.slots) (hst : (st.map fun v => v.category).sum ≤ 8) (kk : EJ θ x nx lv (.int (b2i (clsR ρ v u)) :: st) ph k n) : EJ θ x pc lv (.ref q1 :: .ref q0 :: .ref q :: st) ph k n := by
  obtain ⟨⟨hk, hc, h2⟩, hp⟩ := hr
  obtain ⟨f1, f2, f3, f4⟩ := hf
  obtain ⟨kd, c, xx, yy, sst, dr⟩ := ρ
  match kd, hk with
  | 0, _ => exact e_callU hX h7 hp (c_X8_isClash htr) rfl rfl ⟨by omega, by omega, f3, f4⟩ hst (fun _ _ h => h.elim) (fun z p h => by obtain ⟨rfl, rfl⟩ := h; exact kk)
  | 1, _ => exact e_callU hX h8 hp (c_X8_isClash htr) rfl rfl ⟨by omega, by omega, f3, f4⟩ hst (fun _ _ h => h.elim) (fun z p h => by obtain ⟨rfl, rfl⟩ := h; exact kk)
  | 2, _ => exact e_callU hX h9 hp (c_X8_isClash htr) rfl rfl ⟨by omega, by omega, f3, f4⟩ hst (fun _ _ h => h.elim) (fun z p h => by obtain ⟨rfl, rfl⟩ := h; exact kk)
  | 3, _ => exact e_callU hX h10 hp (c_cls3 (xx := xx) htr hw hw1 hc hp) rfl rfl ⟨by omega, by omega, f3, f4⟩ hst (fun _ _ h => h.elim) (fun z p h => by obtain ⟨rfl, rfl⟩ := h; exact kk)
  | 4, _ => exact e_callU hX h11 hp (c_cls4 htr hw hw1 hc hp) rfl rfl ⟨by omega, by omega, f3, f4⟩ hst (fun _ _ h => h.elim) (fun z p h => by obtain ⟨rfl, rfl⟩ := h; exact kk)
/-- a cast to Rule -/
theorem e_castR (hX : e_in cc own nm nL ret R l θ x) {idx q : Nat} {ρ : RU} (hd : e_at cc pc (.checkcast idx) 3 nx) (hw : e_w (.classLink own idx "QualityGate$Rule")) (hr : ruleA ph q ρ) (kk : EJ θ x nx lv (.ref q :: st) ph k n) : EJ θ x pc lv (.ref q :: st) ph k n := by
  obtain ⟨⟨hk, hc, h2⟩, hp⟩ := hr
  obtain ⟨kd, c, xx, yy, sst, dr⟩ := ρ
  match kd, hk with
  | 0, _ => exact e_cast hX hd hw hp rfl cs_7_R kk
  | 1, _ => exact e_cast hX hd hw hp rfl cs_8_R kk
  | 2, _ => exact e_cast hX hd hw hp rfl cs_9_R kk
  | 3, _ => exact e_cast hX hd hw hp rfl cs_10_R kk
  | 4, _ => exact e_cast hX hd hw hp rfl cs_11_R kk
theorem ruleA.obs {q : Nat} {ρ : RU} (hr : ruleA ph q ρ) : e_obs ph q := by
  obtain ⟨⟨hk, hc, h2⟩, hp⟩ := hr
  obtain ⟨kd, c, xx, yy, sst, dr⟩ := ρ
  match kd, hk with
  | 0, _ => exact ⟨7, _, _, hp, rfl, cs_7_O⟩
  | 1, _ => exact ⟨8, _, _, hp, rfl, cs_8_O⟩
  | 2, _ => exact ⟨9, _, _, hp, rfl, cs_9_O⟩
  | 3, _ => exact ⟨10, _, _, hp, rfl, cs_10_O⟩
  | 4, _ => exact ⟨11, _, _, hp, rfl, cs_11_O⟩
theorem rowAt.obs {q w : Nat} {v : Nat → Int32} {id : Int32} (h : rowAt θ ph q w v id) : e_obs ph q := ⟨2, _, _, h.1, rfl, cs_2_O⟩
end EF
