/-! the model: bit, bitsOf, isRepair -/
section MOT
variable {l : Launch} {θ : e_T} {ph : e_PH} {mo : Nat} {μ : Nat → Nat} {σ : SG} {t : Int32} {s : Nat → Int32} {F : Nat → Nat → Int32}
theorem n_bit (htr : l.stackTraces = false) (hm : MI θ ph mo μ s F) {n i : Nat} (h1 : s 1 = nI n) (hn : n ≤ 12) (hi : i < n) : MC yX12_bit cX12_bit 2 (some .int) 0 0 0 l θ [.ref mo, .int (nI i)] ph (fun z p => z = some (.int (nI (2 ^ (n - 1 - i)))) ∧ p = ph) (fun _ _ => False) := by
  refine MC.of htr (by decide) (Nat.le_of_ble_eq_true rfl) ?_
  intro x hX hQ hT
  refine e_iconst (v := 1) hX iX12_bit_0 (by decide) ?_
  refine e_aload_n hX 0 iX12_bit_1 rfl rfl ?_
  refine e_get hX iX12_bit_2 hm.1 rfl ?_
  rw [h1]
  refine e_iconst (v := 1) hX iX12_bit_5 (by decide) ?_
  refine e_isub hX iX12_bit_6 ?_
  rw [show nI n - 1 = nI (n - 1) by rw [show (1 : Int32) = nI 1 from rfl, pk_sub (by omega)]]
  refine e_iload_n hX 1 iX12_bit_7 rfl rfl ?_
  refine e_isub hX iX12_bit_8 ?_
  rw [pk_sub (show i ≤ n - 1 by omega)]
  refine e_ishl hX iX12_bit_9 ?_
  rw [sh1 _ (by omega)]
  exact e_iret hX hQ iX12_bit_10 rfl (by decide) (by decide) ⟨rfl, rfl⟩
theorem n_bitsOf (htr : l.stackTraces = false) (hm : MI θ ph mo μ s F) {n k : Nat} (h1 : s 1 = nI n) (hn : n ≤ 12) : MC yX12_bitsOf cX12_bitsOf 4 (some .int) 0 0 0 l θ [.ref mo, .int (nI k)] ph (fun z p => z = some (.int (nI (cntB n (fun i => k.testBit i)))) ∧ p = ph) (fun _ _ => False) := by
  refine MC.of htr (by decide) (Nat.le_of_ble_eq_true rfl) ?_
  intro x hX hQ hT
  let P : Nat → Bool := fun i => k.testBit i
  have loop : ∀ (z i : Nat), n - i < z → i ≤ n → EJ θ x 4 [(0, .ref mo), (1, .int (nI k)), (2, .int (nI (cntB i P))), (3, .int (nI i))] [] ph 0 0 := by
    intro z
    induction z with
    | zero => intro i hz; omega
    | succ z ih =>
      intro i hz hi
      refine e_iload_n hX 3 iX12_bitsOf_4 rfl rfl ?_
      refine e_aload_n hX 0 iX12_bitsOf_5 rfl rfl ?_
      refine e_get hX iX12_bitsOf_6 hm.1 rfl ?_
      rw [h1]
      refine e_icmp_ge hX iX12_bitsOf_9 (fun c9 => ?_) (fun c9 => ?_)
      · have hin := nI_same hi (by omega) c9
        subst hin
        refine e_iload_n hX 2 iX12_bitsOf_26 rfl rfl ?_
        exact e_iret hX hQ iX12_bitsOf_27 rfl (by decide) (by decide) ⟨rfl, rfl⟩
      · have hin := nI_less hi (by omega) c9
        refine e_iload_n hX 2 iX12_bitsOf_12 rfl rfl ?_
        refine e_iload_n hX 1 iX12_bitsOf_13 rfl rfl ?_
        refine e_iload_n hX 3 iX12_bitsOf_14 rfl rfl ?_
        refine e_ishr hX iX12_bitsOf_15 ?_
        refine e_iconst (v := 1) hX iX12_bitsOf_16 (by decide) ?_
        refine e_iand hX iX12_bitsOf_17 ?_
        rw [bit_i (show i < 32 by omega), b2i_n]
        refine e_iadd hX iX12_bitsOf_18 ?_
        rw [nI_add]
        refine e_istore_n hX 2 iX12_bitsOf_19 rfl (by decide) ?_
        refine e_iinc hX iX12_bitsOf_20 rfl (by first | exact nI_inc _ | rfl) (by decide) ?_
        refine e_goto hX iX12_bitsOf_23 ?_
        refine e_loc [0, 1, 2, 3] ?_
        exact ih (i + 1) (by omega) (by omega)
  refine e_iconst (v := 0) hX iX12_bitsOf_0 (by decide) ?_
  refine e_istore_n hX 2 iX12_bitsOf_1 rfl (by decide) ?_
  refine e_iconst (v := 0) hX iX12_bitsOf_2 (by decide) ?_
  refine e_istore_n hX 3 iX12_bitsOf_3 rfl (by decide) ?_
  refine e_loc [0, 1, 2, 3] ?_
  exact loop (n + 1) 0 (by omega) (by omega)
def repM (n B : Nat) (M : Nat → Nat) (k : Nat) : Bool := subN B k && allB n (fun i => k.testBit (n - 1 - i) || subN (M i) k)
theorem and_pow {k j : Nat} (hk : k < 2 ^ 12) (hj : j < 12) : nI k &&& nI (2 ^ j) = 0 ↔ k.testBit j = false := by
  have e : k &&& 2 ^ j = if k.testBit j = true then 2 ^ j else 0 := by
    apply Nat.eq_of_testBit_eq
    intro i
    rw [Nat.testBit_and, tb_pow]
    by_cases h : j = i
    · subst h
      rw [decide_eq_true rfl, Bool.and_true]
      cases h2 : k.testBit j
      · rw [if_neg (by decide), Nat.zero_testBit]
      · rw [if_pos rfl, tb_pow, decide_eq_true rfl]
    · rw [decide_eq_false h, Bool.and_false]
      cases h2 : k.testBit j
      · rw [if_neg (by decide), Nat.zero_testBit]
      · rw [if_pos rfl, tb_pow, decide_eq_false h]
  rw [nI_and, e]
  have hp : 2 ^ j < 2 ^ 12 := pow_lt12 hj
  have hp0 := Nat.two_pow_pos j
  cases h : k.testBit j
  · rw [if_neg (by decide)]; exact ⟨fun _ => rfl, fun _ => rfl⟩
  · rw [if_pos rfl]; exact ⟨fun e => absurd e (nI_ne0 hp0 (by omega)), fun e => by cases e⟩
theorem and_sub {k B : Nat} (hk : k < 2 ^ 12) (hB : B < 2 ^ 12) : nI k &&& nI B = nI B ↔ subN B k = true := by
  have h1 : k &&& B < 2 ^ 12 := Nat.lt_of_le_of_lt Nat.and_le_left hk
  rw [nI_and, nI_eq (by omega) (by omega), subN_t hB]
  constructor
  · intro h j hj
    have h2 : (k &&& B).testBit j = true := by rw [h]; exact hj
    rw [Nat.testBit_and, Bool.and_eq_true] at h2
    exact h2.1
  · intro h
    apply Nat.eq_of_testBit_eq
    intro j
    rw [Nat.testBit_and]
    cases h2 : B.testBit j
    · rw [Bool.and_false]
    · rw [h j h2]; rfl
end MOT
