theorem q_and (a b : Nat) : lN a &&& lN b = lN (a &&& b) := Int64.toBitVec_inj.mp (by
  rw [Int64.toBitVec_and]
  show BitVec.ofNat 64 a &&& BitVec.ofNat 64 b = BitVec.ofNat 64 (a &&& b)
  exact BitVec.eq_of_getLsbD_eq (fun i hi => by rw [BitVec.getLsbD_and, BitVec.getLsbD_ofNat, BitVec.getLsbD_ofNat, BitVec.getLsbD_ofNat, Nat.testBit_and]; simp [hi]))
theorem q_or (a b : Nat) : lN a ||| lN b = lN (a ||| b) := Int64.toBitVec_inj.mp (by
  rw [Int64.toBitVec_or]
  show BitVec.ofNat 64 a ||| BitVec.ofNat 64 b = BitVec.ofNat 64 (a ||| b)
  exact BitVec.eq_of_getLsbD_eq (fun i hi => by rw [BitVec.getLsbD_or, BitVec.getLsbD_ofNat, BitVec.getLsbD_ofNat, BitVec.getLsbD_ofNat, Nat.testBit_or]; simp [hi]))
theorem q_ushr {a k : Nat} {X : Int32} (ha : a < 2 ^ 64) (hs : ((X.toInt64.toUInt64 &&& Int64.toUInt64 63).toBitVec % 64).toNat = k) : ((lN a).toUInt64 >>> (X.toInt64.toUInt64 &&& Int64.toUInt64 63)).toInt64 = lN (a / 2 ^ k) := Int64.toBitVec_inj.mp (by
  show ((lN a).toUInt64 >>> (X.toInt64.toUInt64 &&& Int64.toUInt64 63)).toBitVec = BitVec.ofNat 64 (a / 2 ^ k)
  rw [UInt64.toBitVec_shiftRight]
  show (BitVec.ofNat 64 a >>> ((X.toInt64.toUInt64 &&& Int64.toUInt64 63).toBitVec % 64).toNat) = _
  rw [hs]
  apply BitVec.eq_of_toNat_eq
  rw [BitVec.toNat_ushiftRight, BitVec.toNat_ofNat, BitVec.toNat_ofNat, Nat.mod_eq_of_lt ha, Nat.shiftRight_eq_div_pow, Nat.mod_eq_of_lt (Nat.lt_of_le_of_lt (Nat.div_le_self _ _) ha)])
def btL (x : Int64) (i : Nat) : Bool := x.toBitVec.getLsbD i
theorem bL_ext {x y : Int64} (h : ∀ i, i < 64 → btL x i = btL y i) : x = y := Int64.toBitVec_inj.mp (BitVec.eq_of_getLsbD_eq (fun i hi => h i hi))
theorem bL_n (k : Nat) {i : Nat} (hi : i < 64) : btL (lN k) i = k.testBit i := by
  unfold btL
  show (BitVec.ofNat 64 k).getLsbD i = _
  rw [BitVec.getLsbD_ofNat]
  simp [hi]
theorem bL_and (x y : Int64) (i : Nat) : btL (x &&& y) i = (btL x i && btL y i) := by unfold btL; rw [Int64.toBitVec_and, BitVec.getLsbD_and]
theorem bL_1 : ∀ i, i < 64 → btL 1 i = decide (i = 0) := by decide +kernel
theorem sL_l : ∀ n, n < 64 → (((nI n).toInt64 &&& 63).toBitVec.smod 64).toNat = n := by decide +kernel
theorem bL_sshr (n : Nat) (hn : n < 64) (x : Int64) {i : Nat} (hi : i < 64) : btL (x >>> ((nI n).toInt64 &&& 63)) i = if n + i < 64 then btL x (n + i) else btL x 63 := by
  unfold btL
  rw [Int64.toBitVec_shiftRight]
  show (x.toBitVec.sshiftRight (((nI n).toInt64 &&& 63).toBitVec.smod 64).toNat).getLsbD i = _
  rw [sL_l n hn, BitVec.getLsbD_sshiftRight, BitVec.msb_eq_getLsbD_last]
  simp [hi]
theorem setL {m i : Nat} (hi : i < 64) : (lN m >>> ((nI i).toInt64 &&& 63)) &&& 1 = 1 ↔ m.testBit i = true := by
  constructor
  · intro h
    have h1 : btL ((lN m >>> ((nI i).toInt64 &&& 63)) &&& 1) 0 = btL 1 0 := by rw [h]
    rw [bL_and, bL_sshr i hi _ (by decide), bL_1 0 (by decide), Nat.add_zero, if_pos hi, bL_n m hi] at h1
    simpa using h1
  · intro h
    refine bL_ext fun j hj => ?_
    rw [bL_and, bL_sshr i hi _ hj, bL_1 j hj]
    by_cases h0 : j = 0
    · subst h0; rw [Nat.add_zero, if_pos hi, bL_n m hi, h]; rfl
    · rw [decide_eq_false h0, Bool.and_false]
theorem shL : ∀ i, i < 32 → (1 : Int64) <<< ((nI i).toInt64 &&& 63) = lN (2 ^ i) := by decide +kernel
theorem and_dig {x y u w : Nat} (hx : x < 256) (hu : u < 256) : (x + 256 * y) &&& (u + 256 * w) = (x &&& u) + 256 * (y &&& w) := by
  apply Nat.eq_of_testBit_eq
  intro j
  have e1 : ∀ a b : Nat, a < 256 → (a + 256 * b).testBit j = if j < 8 then a.testBit j else b.testBit (j - 8) := fun a b ha => by
    rw [Nat.add_comm]
    exact Nat.testBit_two_pow_mul_add (i := 8) b ha j
  rw [Nat.testBit_and, e1 x y hx, e1 u w hu, e1 _ _ (Nat.lt_of_le_of_lt Nat.and_le_left hx)]
  by_cases h : j < 8
  · rw [if_pos h, if_pos h, if_pos h, Nat.testBit_and]
  · rw [if_neg h, if_neg h, if_neg h, Nat.testBit_and]
def cD (d : Nat) : Nat → Nat
  | 0 => 0
  | k + 1 => d + 256 * cD d k
def g1 (k m : Nat) : Nat := m - ((m / 2) &&& cD 0x55 k)
def g2 (k m : Nat) : Nat := (m &&& cD 0x33 k) + ((m / 4) &&& cD 0x33 k)
def g3 (k m : Nat) : Nat := (m + m / 16) &&& cD 0x0F k
def h1 (a : Nat) : Nat := a - ((a / 2) &&& 0x55)
def h2 (a : Nat) : Nat := (a &&& 0x33) + ((a / 4) &&& 0x33)
def h12 (a : Nat) : Nat := h2 (h1 a)
def pop8 (a : Nat) : Nat := cntB 8 (fun i => a.testBit i)
theorem d1 : ∀ a, a < 256 → ((a / 2 + 128) &&& 0x55 = (a / 2) &&& 0x55) ∧ ((a / 2) &&& 0x55) ≤ a ∧ h1 a < 256 := by decide +kernel
theorem d2 : ∀ a, a < 256 → ∀ t, t < 4 → ((a / 4 + 64 * t) &&& 0x33 = (a / 4) &&& 0x33) := by decide +kernel
theorem d3 : ∀ a, a < 256 → ∀ t, t < 5 → h12 a % 16 < 5 ∧ h12 a + h12 a / 16 + 16 * t < 256 ∧ ((h12 a + h12 a / 16 + 16 * t) &&& 0x0F) = pop8 a := by decide +kernel
theorem g1_s {k a q : Nat} (ha : a < 256) : g1 (k + 1) (a + 256 * q) = h1 a + 256 * g1 k q := by
  have h := d1 a ha
  have e : (a + 256 * q) / 2 = (a / 2 + 128 * (q % 2)) + 256 * (q / 2) := by omega
  show (a + 256 * q) - (((a + 256 * q) / 2) &&& (0x55 + 256 * cD 0x55 k)) = h1 a + 256 * (q - ((q / 2) &&& cD 0x55 k))
  rw [e, and_dig (by omega) (by decide)]
  have e2 : (a / 2 + 128 * (q % 2)) &&& 0x55 = (a / 2) &&& 0x55 := by
    rcases Nat.mod_two_eq_zero_or_one q with c | c <;> rw [c]
    · rw [Nat.mul_zero, Nat.add_zero]
    · exact h.1
  rw [e2]
  have e3 : (q / 2) &&& cD 0x55 k ≤ q := Nat.le_trans Nat.and_le_left (Nat.div_le_self _ _)
  unfold h1
  have := h.2.1
  omega
theorem g2_s {k a q : Nat} (ha : a < 256) : g2 (k + 1) (a + 256 * q) = h2 a + 256 * g2 k q := by
  have e : (a + 256 * q) / 4 = (a / 4 + 64 * (q % 4)) + 256 * (q / 4) := by omega
  show ((a + 256 * q) &&& (0x33 + 256 * cD 0x33 k)) + (((a + 256 * q) / 4) &&& (0x33 + 256 * cD 0x33 k)) = h2 a + 256 * ((q &&& cD 0x33 k) + ((q / 4) &&& cD 0x33 k))
  rw [e, and_dig (x := a / 4 + 64 * (q % 4)) (by omega) (by decide), and_dig ha (by decide), d2 a ha (q % 4) (by omega)]
  unfold h2
  omega
theorem g3_s {k a q : Nat} (ha : a < 256) (hq : q % 16 < 5) : g3 (k + 1) (h12 a + 256 * q) = pop8 a + 256 * g3 k q := by
  have h := d3 a ha (q % 16) hq
  have e : h12 a + 256 * q + (h12 a + 256 * q) / 16 = (h12 a + h12 a / 16 + 16 * (q % 16)) + 256 * (q + q / 16) := by omega
  show ((h12 a + 256 * q + (h12 a + 256 * q) / 16) &&& (0x0F + 256 * cD 0x0F k)) = pop8 a + 256 * ((q + q / 16) &&& cD 0x0F k)
  rw [e, and_dig h.2.1 (by decide), h.2.2]
theorem z1 : g1 4 0 = 0 ∧ g2 4 0 = 0 ∧ g3 4 0 = 0 := by decide +kernel
theorem h1_lt {a : Nat} (h : a < 256) : h1 a < 256 := (d1 a h).2.2
theorem swar {a b c d : Nat} (ha : a < 256) (hb : b < 256) (hc : c < 256) (hd : d < 256) : g3 8 (g2 8 (g1 8 (a + 256 * (b + 256 * (c + 256 * (d + 256 * 0)))))) = pop8 a + 256 * (pop8 b + 256 * (pop8 c + 256 * pop8 d)) := by
  have fa := (d3 a ha 0 (by decide)).1
  have fb := (d3 b hb 0 (by decide)).1
  have fc := (d3 c hc 0 (by decide)).1
  have fd := (d3 d hd 0 (by decide)).1
  rw [g1_s ha, g1_s hb, g1_s hc, g1_s hd, z1.1, g2_s (h1_lt ha), g2_s (h1_lt hb), g2_s (h1_lt hc), g2_s (h1_lt hd), z1.2.1]
  show g3 8 (h12 a + 256 * (h12 b + 256 * (h12 c + 256 * (h12 d + 256 * 0)))) = _
  rw [g3_s ha (by omega), g3_s hb (by omega), g3_s hc (by omega), g3_s hd (by decide), z1.2.2]
  rfl
theorem cntB_add {f : Nat → Bool} {a : Nat} : ∀ {b : Nat}, cntB (a + b) f = cntB a f + cntB b (fun i => f (a + i))
  | 0 => rfl
  | b + 1 => by
    show cntB (a + b) f + (if f (a + b) = true then 1 else 0) = cntB a f + (cntB b (fun i => f (a + i)) + (if f (a + b) = true then 1 else 0))
    rw [cntB_add]; omega
def pop32 (m : Nat) : Nat := cntB 32 (fun i => m.testBit i)
theorem tb_dig {a q : Nat} (ha : a < 256) (j : Nat) : (a + 256 * q).testBit j = if j < 8 then a.testBit j else q.testBit (j - 8) := by
  rw [Nat.add_comm]
  exact Nat.testBit_two_pow_mul_add (i := 8) q ha j
theorem cnt_dig {a q k : Nat} (ha : a < 256) : cntB (8 + k) (fun i => (a + 256 * q).testBit i) = pop8 a + cntB k (fun i => q.testBit i) := by
  rw [cntB_add]
  congr 1
  · exact cntB_c (fun i hi => by rw [tb_dig ha, if_pos hi])
  · exact cntB_c (fun i hi => by rw [tb_dig ha, if_neg (by omega), show 8 + i - 8 = i by omega])
theorem pop32_dig {a b c d : Nat} (ha : a < 256) (hb : b < 256) (hc : c < 256) (hd : d < 256) : pop32 (a + 256 * (b + 256 * (c + 256 * (d + 256 * 0)))) = pop8 a + (pop8 b + (pop8 c + pop8 d)) := by
  unfold pop32
  rw [show (32 : Nat) = 8 + (8 + (8 + (8 + 0))) from rfl, cnt_dig ha, cnt_dig hb, cnt_dig hc, cnt_dig hd]
  rfl
theorem p8_le (a : Nat) : pop8 a ≤ 8 := cntB_le _ _
/-- what Long.bitCount works out, in numbers -/
theorem swarN {m : Nat} (hm : m < 2 ^ 32) : ∀ x3 x4 x5 x6, x3 = g3 8 (g2 8 (g1 8 m)) → x4 = x3 + x3 / 2 ^ 8 → x5 = x4 + x4 / 2 ^ 16 → x6 = x5 + x5 / 2 ^ 32 → x6 % 128 = pop32 m ∧ x3 < 2 ^ 40 ∧ x4 < 2 ^ 40 ∧ x5 < 2 ^ 40 ∧ x6 < 2 ^ 40 := by
  intro x3 x4 x5 x6 e3 e4 e5 e6
  have em : m = m % 256 + 256 * (m / 256 % 256 + 256 * (m / 65536 % 256 + 256 * (m / 16777216 % 256 + 256 * 0))) := by omega
  rw [em, swar (by omega) (by omega) (by omega) (by omega)] at e3
  rw [em, pop32_dig (by omega) (by omega) (by omega) (by omega)]
  have p0 := p8_le (m % 256)
  have p1 := p8_le (m / 256 % 256)
  have p2 := p8_le (m / 65536 % 256)
  have p3 := p8_le (m / 16777216 % 256)
  generalize pop8 (m % 256) = a at *
  generalize pop8 (m / 256 % 256) = b at *
  generalize pop8 (m / 65536 % 256) = c at *
  generalize pop8 (m / 16777216 % 256) = d at *
  clear em hm
  have y4 : x4 = (a + b) + 256 * ((b + c) + 256 * ((c + d) + 256 * d)) := by omega
  have y5 : x5 = (a + b + c + d) + 256 * ((b + c + d) + 256 * ((c + d) + 256 * d)) := by omega
  have y6 : x6 = x5 := by omega
  omega
theorem g1_le (m : Nat) : g1 8 m ≤ m := Nat.sub_le _ _
theorem g2_lt {m : Nat} (h : m < 2 ^ 32) : g2 8 m < 2 ^ 33 := by
  unfold g2
  have h1 : m &&& cD 0x33 8 ≤ m := Nat.and_le_left
  have h2 : (m / 4) &&& cD 0x33 8 ≤ m / 4 := Nat.and_le_left
  omega
theorem c_bitCountL {l : Launch} (htr : l.stackTraces = false) {θ : e_T} {ph : e_PH} {m : Nat} (hm : m < 2 ^ 32) : MC yJ13_bitCount_95d88 cJ13_bitCount_95d88 2 (some .int) 0 0 0 l θ [.long (lN m)] ph (fun z p => z = some (.int (nI (pop32 m))) ∧ p = ph) (fun _ _ => False) := by
  have hm64 : m < 2 ^ 64 := Nat.lt_trans hm (by decide)
  refine MC.of htr (by decide) (Nat.le_of_ble_eq_true rfl) ?_
  intro x hX hQ hT
  refine e_lload_n hX 0 iJ13_bitCount_95d88_0 rfl rfl ?_
  refine e_lload_n hX 0 iJ13_bitCount_95d88_1 rfl rfl ?_
  refine e_iconst (v := 1) hX iJ13_bitCount_95d88_2 (by decide) ?_
  refine e_lushr hX iJ13_bitCount_95d88_3 ?_
  rw [q_ushr (k := 1) hm64 (by decide)]
  refine e_ldc2 hX iJ13_bitCount_95d88_4 kcRJ13_314 ?_
  rw [show (6148914691236517205 : Int64) = lN (cD 0x55 8) by decide +kernel]
  refine e_land hX iJ13_bitCount_95d88_7 ?_
  rw [q_and]
  refine e_lsub hX iJ13_bitCount_95d88_8 ?_
  rw [lN_sub (show ((m / 2 ^ 1) &&& cD 0x55 8) ≤ m from Nat.le_trans Nat.and_le_left (Nat.div_le_self _ _)), show m - ((m / 2 ^ 1) &&& cD 0x55 8) = g1 8 m from rfl]
  have l1 : g1 8 m < 2 ^ 32 := Nat.lt_of_le_of_lt (g1_le m) hm
  have l2 := g2_lt l1
  obtain ⟨x1, e1⟩ : ∃ x1, x1 = g1 8 m := ⟨_, rfl⟩
  obtain ⟨x2, e2⟩ : ∃ x2, x2 = g2 8 x1 := ⟨_, rfl⟩
  obtain ⟨x3, e3⟩ : ∃ x3, x3 = g3 8 x2 := ⟨_, rfl⟩
  obtain ⟨x4, e4⟩ : ∃ x4, x4 = x3 + x3 / 2 ^ 8 := ⟨_, rfl⟩
  obtain ⟨x5, e5⟩ : ∃ x5, x5 = x4 + x4 / 2 ^ 16 := ⟨_, rfl⟩
  obtain ⟨x6, e6⟩ : ∃ x6, x6 = x5 + x5 / 2 ^ 32 := ⟨_, rfl⟩
  obtain ⟨s1, s2, s3, s4, s5⟩ := swarN hm x3 x4 x5 x6 (by rw [e3, e2, e1]) e4 e5 e6
  rw [← e1] at l1 l2 ⊢
  rw [← e2] at l2
  refine e_lstore_n hX 0 iJ13_bitCount_95d88_9 rfl (by decide) ?_
  refine e_lload_n hX 0 iJ13_bitCount_95d88_10 rfl rfl ?_
  refine e_ldc2 hX iJ13_bitCount_95d88_11 kcRJ13_316 ?_
  rw [show (3689348814741910323 : Int64) = lN (cD 0x33 8) by decide +kernel]
  refine e_land hX iJ13_bitCount_95d88_14 ?_
  rw [q_and]
  refine e_lload_n hX 0 iJ13_bitCount_95d88_15 rfl rfl ?_
  refine e_iconst (v := 2) hX iJ13_bitCount_95d88_16 (by decide) ?_
  refine e_lushr hX iJ13_bitCount_95d88_17 ?_
  rw [q_ushr (k := 2) (show x1 < 2 ^ 64 by omega) (by decide)]
  refine e_ldc2 hX iJ13_bitCount_95d88_18 kcRJ13_316 ?_
  rw [show (3689348814741910323 : Int64) = lN (cD 0x33 8) by decide +kernel]
  refine e_land hX iJ13_bitCount_95d88_21 ?_
  rw [q_and]
  refine e_ladd hX iJ13_bitCount_95d88_22 ?_
  rw [lN_add, show (x1 &&& cD 0x33 8) + (x1 / 2 ^ 2 &&& cD 0x33 8) = x2 from e2.symm]
  refine e_lstore_n hX 0 iJ13_bitCount_95d88_23 rfl (by decide) ?_
  refine e_lload_n hX 0 iJ13_bitCount_95d88_24 rfl rfl ?_
  refine e_lload_n hX 0 iJ13_bitCount_95d88_25 rfl rfl ?_
  refine e_iconst (v := 4) hX iJ13_bitCount_95d88_26 (by decide) ?_
  refine e_lushr hX iJ13_bitCount_95d88_27 ?_
  rw [q_ushr (k := 4) (show x2 < 2 ^ 64 by omega) (by decide)]
  refine e_ladd hX iJ13_bitCount_95d88_28 ?_
  rw [lN_add]
  refine e_ldc2 hX iJ13_bitCount_95d88_29 kcRJ13_318 ?_
  rw [show (1085102592571150095 : Int64) = lN (cD 0x0F 8) by decide +kernel]
  refine e_land hX iJ13_bitCount_95d88_32 ?_
  rw [q_and, show ((x2 + x2 / 2 ^ 4) &&& cD 0x0F 8) = x3 from e3.symm]
  refine e_lstore_n hX 0 iJ13_bitCount_95d88_33 rfl (by decide) ?_
  refine e_lload_n hX 0 iJ13_bitCount_95d88_34 rfl rfl ?_
  refine e_lload_n hX 0 iJ13_bitCount_95d88_35 rfl rfl ?_
  refine e_bipush (v := 8) hX iJ13_bitCount_95d88_36 (by decide) ?_
  refine e_lushr hX iJ13_bitCount_95d88_38 ?_
  rw [q_ushr (k := 8) (show x3 < 2 ^ 64 by omega) (by decide)]
  refine e_ladd hX iJ13_bitCount_95d88_39 ?_
  rw [lN_add, ← e4]
  refine e_lstore_n hX 0 iJ13_bitCount_95d88_40 rfl (by decide) ?_
  refine e_lload_n hX 0 iJ13_bitCount_95d88_41 rfl rfl ?_
  refine e_lload_n hX 0 iJ13_bitCount_95d88_42 rfl rfl ?_
  refine e_bipush (v := 16) hX iJ13_bitCount_95d88_43 (by decide) ?_
  refine e_lushr hX iJ13_bitCount_95d88_45 ?_
  rw [q_ushr (k := 16) (show x4 < 2 ^ 64 by omega) (by decide)]
  refine e_ladd hX iJ13_bitCount_95d88_46 ?_
  rw [lN_add, ← e5]
  refine e_lstore_n hX 0 iJ13_bitCount_95d88_47 rfl (by decide) ?_
  refine e_lload_n hX 0 iJ13_bitCount_95d88_48 rfl rfl ?_
  refine e_lload_n hX 0 iJ13_bitCount_95d88_49 rfl rfl ?_
  refine e_bipush (v := 32) hX iJ13_bitCount_95d88_50 (by decide) ?_
  refine e_lushr hX iJ13_bitCount_95d88_52 ?_
  rw [q_ushr (k := 32) (show x5 < 2 ^ 64 by omega) (by decide)]
  refine e_ladd hX iJ13_bitCount_95d88_53 ?_
  rw [lN_add, ← e6]
  refine e_lstore_n hX 0 iJ13_bitCount_95d88_54 rfl (by decide) ?_
  refine e_lload_n hX 0 iJ13_bitCount_95d88_55 rfl rfl ?_
  refine e_l2i hX iJ13_bitCount_95d88_56 ?_
  rw [lN_i]
  refine e_bipush (v := 127) hX iJ13_bitCount_95d88_57 (by decide) ?_
  refine e_iand hX iJ13_bitCount_95d88_59 ?_
  rw [show (127 : Int32) = nI (2 ^ 7 - 1) from rfl, nI_and, Nat.and_two_pow_sub_one_eq_mod, show x6 % 2 ^ 7 = pop32 m from s1]
  exact e_iret hX hQ iJ13_bitCount_95d88_60 rfl (by decide) (by decide) ⟨rfl, rfl⟩
theorem c_isSetIn {l : Launch} (htr : l.stackTraces = false) {θ : e_T} {ph : e_PH} {i : Nat} (hi : i < 32) (m : Nat) : MC yX11_isSetIn cX11_isSetIn 3 (some .boolean) 0 0 0 l θ [.int (nI i), .long (lN m)] ph (fun z p => z = some (.int (b2i (m.testBit i))) ∧ p = ph) (fun _ _ => False) := by
  refine MC.of htr (by decide) (Nat.le_of_ble_eq_true rfl) ?_
  intro x hX hQ hT
  refine e_lload_n hX 1 iX11_isSetIn_0 rfl rfl ?_
  refine e_iload_n hX 0 iX11_isSetIn_1 rfl rfl ?_
  refine e_lshr hX iX11_isSetIn_2 ?_
  refine e_lconst (v := 1) hX iX11_isSetIn_3 (by decide) ?_
  refine e_land hX iX11_isSetIn_4 ?_
  refine e_lconst (v := 1) hX iX11_isSetIn_5 (by decide) ?_
  refine e_lcmp hX iX11_isSetIn_6 ?_
  refine e_if_ne hX iX11_isSetIn_7 (fun c7 => ?_) (fun c7 => ?_)
  · refine e_iconst (v := 0) hX iX11_isSetIn_14 (by decide) ?_
    have e0 : m.testBit i = false := by
      cases c : m.testBit i
      · rfl
      · exact absurd ((lg_cmp_eq _ _).mpr ((setL (show i < 64 by omega)).mpr c)) c7
    exact e_zret hX hQ iX11_isSetIn_15 rfl nar_0 (by decide) (by decide) ⟨by rw [e0]; rfl, rfl⟩
  · refine e_iconst (v := 1) hX iX11_isSetIn_10 (by decide) ?_
    refine e_goto hX iX11_isSetIn_11 ?_
    have e0 : m.testBit i = true := (setL (show i < 64 by omega)).mp ((lg_cmp_eq _ _).mp c7)
    exact e_zret hX hQ iX11_isSetIn_15 rfl nar_1 (by decide) (by decide) ⟨by rw [e0]; rfl, rfl⟩
/-- one of the sets results when columns are taken out of s -/
def holdB (s m : Nat) : Bool := anyB s (fun t => decide (t &&& s = t) && m.testBit t)
theorem c_holdsOther {l : Launch} (htr : l.stackTraces = false) {θ : e_T} {ph : e_PH} {s : Nat} (hs : s < 32) (m : Nat) : MC yX11_holdsOther cX11_holdsOther 4 (some .boolean) 1 0 0 l θ [.int (nI s), .long (lN m)] ph (fun z p => z = some (.int (b2i (holdB s m))) ∧ p = ph) (fun _ _ => False) := by
  refine MC.of htr (by decide) (Nat.le_of_ble_eq_true rfl) ?_
  intro x hX hQ hT
  have loop : ∀ (g i : Nat), s - i < g → i ≤ s → (∀ z, z < i → (decide (z &&& s = z) && m.testBit z) = false) → EJ θ x 2 [(0, .int (nI s)), (1, .long (lN m)), (3, .int (nI i))] [] ph 0 0 := by
    intro g
    induction g with
    | zero => intro i hg; omega
    | succ g ih =>
      intro i hg hi hinv
      have next : i < s → (decide (i &&& s = i) && m.testBit i) = false → EJ θ x 24 [(0, .int (nI s)), (1, .long (lN m)), (3, .int (nI i))] [] ph 0 0 := by
        intro hin hf
        refine e_iinc hX iX11_holdsOther_24 rfl (by first | exact nI_inc _ | rfl) (by decide) ?_
        refine e_goto hX iX11_holdsOther_27 ?_
        refine e_loc [0, 1, 3] ?_
        refine ih (i + 1) (by omega) (by omega) (fun z hz => ?_)
        by_cases e : z = i
        · subst e; exact hf
        · exact hinv z (by omega)
      refine e_iload_n hX 3 iX11_holdsOther_2 rfl rfl ?_
      refine e_iload_n hX 0 iX11_holdsOther_3 rfl rfl ?_
      refine e_icmp_ge hX iX11_holdsOther_4 (fun c4 => ?_) (fun c4 => ?_)
      · have hin : i = s := by
          rcases Nat.lt_or_ge i s with h | h
          · exact absurd c4 (nI_ge h (by omega))
          · omega
        subst hin
        refine e_iconst (v := 0) hX iX11_holdsOther_30 (by decide) ?_
        exact e_zret hX hQ iX11_holdsOther_31 rfl nar_0 (by decide) (by decide) ⟨by rw [show holdB i m = false from anyB_f.mpr hinv]; rfl, rfl⟩
      · have hin : i < s := by
          rcases Nat.lt_or_ge i s with h | h
          · exact h
          · exact absurd (nI_le h (by omega)) c4
        refine e_iload_n hX 3 iX11_holdsOther_7 rfl rfl ?_
        refine e_iload_n hX 0 iX11_holdsOther_8 rfl rfl ?_
        refine e_iand hX iX11_holdsOther_9 ?_
        rw [nI_and]
        refine e_iload_n hX 3 iX11_holdsOther_10 rfl rfl ?_
        have hle : i &&& s ≤ i := Nat.and_le_left
        refine e_icmp_ne hX iX11_holdsOther_11 (fun c11 => ?_) (fun c11 => ?_)
        · exact next hin (and_f1 (decide_eq_false (fun e => c11 (by rw [e]))))
        · have e1 : i &&& s = i := (nI_eq (by omega) (by omega)).mp c11
          refine e_iload_n hX 3 iX11_holdsOther_14 rfl rfl ?_
          refine e_lload_n hX 1 iX11_holdsOther_15 rfl rfl ?_
          refine e_callS hX iX11_holdsOther_16 (c_isSetIn htr (show i < 32 by omega) m) rfl rfl ⟨by decide, by decide, by decide, by decide⟩ (Nat.le_of_ble_eq_true rfl) (fun _ _ h => h.elim) (fun v9 ph9 hv9 => ?_)
          obtain ⟨rfl, e9⟩ := hv9
          subst ph9
          refine e_if_eq hX iX11_holdsOther_19 (fun c19 => ?_) (fun c19 => ?_)
          · refine e_loc [0, 1, 3] ?_
            exact next hin (and_f2 (b2i_0.mp c19))
          · refine e_iconst (v := 1) hX iX11_holdsOther_22 (by decide) ?_
            exact e_zret hX hQ iX11_holdsOther_23 rfl nar_1 (by decide) (by decide) ⟨by rw [show holdB s m = true from anyB_t.mpr ⟨i, hin, and_tt (decide_eq_true e1) (b2i_n0.mp c19)⟩]; rfl, rfl⟩
  refine e_iconst (v := 0) hX iX11_holdsOther_0 (by decide) ?_
  refine e_istore_n hX 3 iX11_holdsOther_1 rfl (by decide) ?_
  refine e_loc [0, 1, 3] ?_
  exact loop (s + 1) 0 (by omega) (by omega) (fun z hz => absurd hz (Nat.not_lt_zero z))
/-- the steps of the search by size and number: k = 32 * size + set -/
def hitB (f : Nat → Bool) (k : Nat) : Bool := decide (popN (k % 32) = k / 32) && f (k % 32)
theorem c_setInOrder {l : Launch} (htr : l.stackTraces = false) {θ : e_T} {ph : e_PH} (m : Nat) (q : Nat) (hq : q < 2 ^ 31) : MC yX11_setInOrder cX11_setInOrder 6 (some .int) 1 0 0 l θ [.long (lN m), .int (nI q)] ph (fun z p => ((∃ k, k < 192 ∧ hitB (fun i => m.testBit i) k = true ∧ cntB k (hitB (fun i => m.testBit i)) = q ∧ z = some (.int (nI (k % 32)))) ∨ ((∀ k, k < 192 → ¬ (hitB (fun i => m.testBit i) k = true ∧ cntB k (hitB (fun i => m.testBit i)) = q)) ∧ z = some (.int (-1)))) ∧ p = ph) (fun _ _ => False) := by
  refine MC.of htr (by decide) (Nat.le_of_ble_eq_true rfl) ?_
  intro x hX hQ hT
  let H : Nat → Bool := hitB (fun i => m.testBit i)
  have outer : ∀ (g L : Nat), 6 - L < g → L ≤ 6 → (∀ k, k < 32 * L → ¬ (H k = true ∧ cntB k H = q)) → EJ θ x 5 [(0, .long (lN m)), (2, .int (nI q)), (3, .int (nI (cntB (32 * L) H))), (4, .int (nI L))] [] ph 0 0 := by
    intro g
    induction g with
    | zero => intro L hg; omega
    | succ g ih =>
      intro L hg hL hinv
      refine e_iload hX iX11_setInOrder_5 rfl ?_
      refine e_iconst (v := 5) hX iX11_setInOrder_7 (by decide) ?_
      refine e_icmp_gt hX iX11_setInOrder_8 (fun c8 => ?_) (fun c8 => ?_)
      · have hL6 : L = 6 := by
          rcases Nat.lt_or_ge L 6 with h | h
          · exact absurd (nI_le (show L ≤ 5 by omega) (by decide)) (Int32.not_le.mpr c8)
          · omega
        subst hL6
        refine e_iconst (v := (-1)) hX iX11_setInOrder_63 (by decide) ?_
        exact e_iret hX hQ iX11_setInOrder_64 rfl (by decide) (by decide) ⟨Or.inr ⟨fun k hk => hinv k (by omega), rfl⟩, rfl⟩
      · have hL6 : L < 6 := by
          rcases Nat.lt_or_ge L 6 with h | h
          · exact h
          · exact absurd (nI_lt (show 5 < L by omega) (by omega)) c8
        have inner : ∀ (g' s : Nat), 32 - s < g' → s ≤ 32 → (∀ k, k < 32 * L + s → ¬ (H k = true ∧ cntB k H = q)) → EJ θ x 14 [(0, .long (lN m)), (2, .int (nI q)), (3, .int (nI (cntB (32 * L + s) H))), (4, .int (nI L)), (5, .int (nI s))] [] ph 0 0 := by
          intro g'
          induction g' with
          | zero => intro s hg'; omega
          | succ g' ih' =>
            intro s hg' hs hk
            refine e_iload hX iX11_setInOrder_14 rfl ?_
            refine e_bipush (v := 32) hX iX11_setInOrder_16 (by decide) ?_
            refine e_icmp_ge hX iX11_setInOrder_18 (fun c18 => ?_) (fun c18 => ?_)
            · have hs2 : s = 32 := by
                rcases Nat.lt_or_ge s 32 with h | h
                · exact absurd c18 (nI_ge h (by decide))
                · omega
              subst hs2
              refine e_iinc hX iX11_setInOrder_57 rfl (by first | exact nI_inc _ | rfl) (by decide) ?_
              refine e_goto hX iX11_setInOrder_60 ?_
              refine e_loc [0, 2, 3, 4] ?_
              exact ih (L + 1) (by omega) (by omega) hk
            · have hs2 : s < 32 := by
                rcases Nat.lt_or_ge s 32 with h | h
                · exact h
                · exact absurd (nI_le h (by omega)) c18
              have m1 : (32 * L + s) % 32 = s := by omega
              have m2 : (32 * L + s) / 32 = L := by omega
              have eH : H (32 * L + s) = (decide (popN s = L) && m.testBit s) := by
                show (decide (popN ((32 * L + s) % 32) = (32 * L + s) / 32) && m.testBit ((32 * L + s) % 32)) = _
                rw [m1, m2]
              have hp : popN s ≤ 12 := cntB_le _ _
              have step : ∀ c, cntB (32 * L + (s + 1)) H = c → ¬ (H (32 * L + s) = true ∧ cntB (32 * L + s) H = q) → EJ θ x 51 [(0, .long (lN m)), (2, .int (nI q)), (3, .int (nI c)), (4, .int (nI L)), (5, .int (nI s))] [] ph 0 0 := by
                intro c hc hn
                refine e_iinc hX iX11_setInOrder_51 rfl (by first | exact nI_inc _ | rfl) (by decide) ?_
                refine e_goto hX iX11_setInOrder_54 ?_
                refine e_loc [0, 2, 3, 4, 5] ?_
                have := ih' (s + 1) (by omega) (by omega) (fun k hk2 => by
                  by_cases e : k = 32 * L + s
                  · subst e; exact hn
                  · exact hk k (by omega))
                rw [hc] at this
                exact this
              refine e_iload hX iX11_setInOrder_21 rfl ?_
              refine e_callS hX iX11_setInOrder_23 (c_bitCount htr (show s < 2 ^ 12 by omega)) rfl rfl ⟨by decide, by decide, by decide, by decide⟩ (Nat.le_of_ble_eq_true rfl) (fun _ _ h => h.elim) (fun v9 ph9 hv9 => ?_)
              obtain ⟨rfl, e9⟩ := hv9
              subst ph9
              refine e_iload hX iX11_setInOrder_26 rfl ?_
              refine e_icmp_ne hX iX11_setInOrder_28 (fun c28 => ?_) (fun c28 => ?_)
              · have e0 : H (32 * L + s) = false := by rw [eH]; exact and_f1 (decide_eq_false (fun e => c28 (by rw [e])))
                refine e_loc [0, 2, 3, 4, 5] ?_
                exact step _ (cntB_s0 e0) (fun h => by rw [e0] at h; cases h.1)
              · have e1 : popN s = L := (nI_eq (by omega) (by omega)).mp c28
                refine e_iload hX iX11_setInOrder_31 rfl ?_
                refine e_lload_n hX 0 iX11_setInOrder_33 rfl rfl ?_
                refine e_callS hX iX11_setInOrder_34 (c_isSetIn htr hs2 m) rfl rfl ⟨by decide, by decide, by decide, by decide⟩ (Nat.le_of_ble_eq_true rfl) (fun _ _ h => h.elim) (fun v9 ph9 hv9 => ?_)
                obtain ⟨rfl, e9⟩ := hv9
                subst ph9
                refine e_if_eq hX iX11_setInOrder_37 (fun c37 => ?_) (fun c37 => ?_)
                · have e0 : H (32 * L + s) = false := by rw [eH]; exact and_f2 (b2i_0.mp c37)
                  refine e_loc [0, 2, 3, 4, 5] ?_
                  exact step _ (cntB_s0 e0) (fun h => by rw [e0] at h; cases h.1)
                · have e0 : H (32 * L + s) = true := by rw [eH]; exact and_tt (decide_eq_true e1) (b2i_n0.mp c37)
                  have hcn := cntB_le H (32 * L + s)
                  refine e_iload_n hX 3 iX11_setInOrder_40 rfl rfl ?_
                  refine e_iload_n hX 2 iX11_setInOrder_41 rfl rfl ?_
                  refine e_icmp_ne hX iX11_setInOrder_42 (fun c42 => ?_) (fun c42 => ?_)
                  · have hc : ¬ cntB (32 * L + s) H = q := fun e => c42 (by rw [e])
                    refine e_iinc hX iX11_setInOrder_48 rfl (by first | exact nI_inc _ | rfl) (by decide) ?_
                    refine e_loc [0, 2, 3, 4, 5] ?_
                    exact step _ (cntB_s1 e0) (fun h => hc h.2)
                  · have hc : cntB (32 * L + s) H = q := (nI_eq (by omega) (by omega)).mp c42
                    refine e_iload hX iX11_setInOrder_45 rfl ?_
                    exact e_iret hX hQ iX11_setInOrder_47 rfl (by decide) (by decide) ⟨Or.inl ⟨32 * L + s, by omega, e0, hc, by rw [m1]⟩, rfl⟩
        refine e_iconst (v := 0) hX iX11_setInOrder_11 (by decide) ?_
        refine e_istore hX iX11_setInOrder_12 (by decide) ?_
        refine e_loc [0, 2, 3, 4, 5] ?_
        exact inner 33 0 (by omega) (by omega) hinv
  refine e_iconst (v := 0) hX iX11_setInOrder_0 (by decide) ?_
  refine e_istore_n hX 3 iX11_setInOrder_1 rfl (by decide) ?_
  refine e_iconst (v := 0) hX iX11_setInOrder_2 (by decide) ?_
  refine e_istore hX iX11_setInOrder_3 (by decide) ?_
  refine e_loc [0, 2, 3, 4] ?_
  exact outer 7 0 (by omega) (by omega) (fun k hk => absurd hk (Nat.not_lt_zero k))
