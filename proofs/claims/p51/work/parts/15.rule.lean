def ix (x : Int32) : Nat := x.toNatClampNeg
theorem ix_n {n : Nat} (h : n < 2 ^ 31) : ix (nI n) = n := nI_clamp h
/-- which row rule is broken by values v: a kind, a column, two more numbers -/
def brk (kd c : Nat) (x y : Int32) (v : Nat → Int32) : Bool :=
  if kd = 0 then pres (v c) && (decide (v c < x) || decide (y < v c)) else if kd = 1 then !pres (v c) else if kd = 2 then pres (v c) && (pres (v (ix x)) && decide (v (ix x) < v c)) else false
def cls (kd c : Nat) (x : Int32) (v u : Nat → Int32) : Bool :=
  if kd = 3 then pres (v c) && decide (v c = u c) else if kd = 4 then !decide (v c = u c) && eqIn x v u else false
def ruleFs (kd c : Nat) (x y : Int32) (st dr : Bool) : List Value :=
  if kd = 0 then [.int (b2i st), .int (b2i dr), .int (nI c), .int x, .int y] else if kd = 1 then [.int (b2i st), .int (b2i dr), .int (nI c)] else if kd = 2 then [.int (b2i st), .int (b2i dr), .int (nI c), .int x] else if kd = 3 then [.int (b2i st), .int (b2i dr), .int (nI c)] else [.int (b2i st), .int (b2i dr), .int x, .int (nI c)]
def ruleOk (kd c : Nat) (x : Int32) : Prop := kd < 5 ∧ c < 5 ∧ (kd = 2 → ∃ c2, c2 < 5 ∧ x = nI c2)
def ruleAt (ph : e_PH) (q kd c : Nat) (x y : Int32) (st dr : Bool) : Prop := ruleOk kd c x ∧ ph q = some (e_O (7 + kd) (ruleFs kd c x y st dr))
theorem and_tt {a b : Bool} (h1 : a = true) (h2 : b = true) : (a && b) = true := by rw [h1, h2]; rfl
theorem and_f1 {a b : Bool} (h1 : a = false) : (a && b) = false := by rw [h1]; rfl
theorem and_f2 {a b : Bool} (h1 : b = false) : (a && b) = false := by rw [h1, Bool.and_false]
theorem or_t1 {a b : Bool} (h1 : a = true) : (a || b) = true := by rw [h1]; rfl
theorem or_t2 {a b : Bool} (h1 : b = true) : (a || b) = true := by rw [h1, Bool.or_true]
theorem or_ff {a b : Bool} (h1 : a = false) (h2 : b = false) : (a || b) = false := by rw [h1, h2]; rfl
theorem le_nlt {a b : Int32} (h : a ≤ b) : ¬ b < a := Int32.not_lt.mpr h
theorem nle_lt {a b : Int32} (h : ¬ a ≤ b) : b < a := Int32.not_le.mp h
theorem c_X8_isBrokenBy {l : Launch} (htr : l.stackTraces = false) {θ : e_T} {ph : e_PH} {r q : Nat} : MC yX8_isBrokenBy cX8_isBrokenBy 2 (some .boolean) 0 0 0 l θ [.ref r, .ref q] ph (fun v p => v = some (.int 0) ∧ p = ph) (fun _ _ => False) := by
  refine MC.of htr (by decide) (Nat.le_of_ble_eq_true rfl) ?_
  intro x hX hQ hT
  refine e_iconst (v := 0) hX iX8_isBrokenBy_0 (by decide) ?_
  exact e_zret hX hQ iX8_isBrokenBy_1 rfl nar_0 (by decide) (by decide) ⟨rfl, rfl⟩
theorem c_X8_isClash {l : Launch} (htr : l.stackTraces = false) {θ : e_T} {ph : e_PH} {r q q2 : Nat} : MC yX8_isClash cX8_isClash 3 (some .boolean) 0 0 0 l θ [.ref r, .ref q, .ref q2] ph (fun v p => v = some (.int 0) ∧ p = ph) (fun _ _ => False) := by
  refine MC.of htr (by decide) (Nat.le_of_ble_eq_true rfl) ?_
  intro x hX hQ hT
  refine e_iconst (v := 0) hX iX8_isClash_0 (by decide) ?_
  exact e_zret hX hQ iX8_isClash_1 rfl nar_0 (by decide) (by decide) ⟨rfl, rfl⟩
theorem c_brk0 {l : Launch} (htr : l.stackTraces = false) {θ : e_T} {ph : e_PH} {q w : Nat} {v : Nat → Int32} {id : Int32} (hr : rowAt θ ph q w v id) {r c : Nat} {lo hi : Int32} {a b : Int32} (hc : c < 5) (h : ph r = some (e_O 7 [.int a, .int b, .int (nI c), .int lo, .int hi])) : MC yX4_isBrokenBy cX4_isBrokenBy 2 (some .boolean) 1 0 0 l θ [.ref r, .ref q] ph (fun z p => z = some (.int (b2i (brk 0 c lo hi v))) ∧ p = ph) (fun _ _ => False) := by
  refine MC.of htr (by decide) (Nat.le_of_ble_eq_true rfl) ?_
  intro x hX hQ hT
  refine e_aload_n hX 1 iX4_isBrokenBy_0 rfl rfl ?_
  refine e_aload_n hX 0 iX4_isBrokenBy_1 rfl rfl ?_
  refine e_get hX iX4_isBrokenBy_2 (by assumption) rfl ?_
  refine e_callV hX iX4_isBrokenBy_5 hr.1 (c_isPresent htr hr c hc) rfl rfl ⟨by decide, by decide, by decide, by decide⟩ (Nat.le_of_ble_eq_true rfl) (fun _ _ h => h.elim) (fun v9 ph9 hv9 => ?_)
  obtain ⟨rfl, rfl⟩ := hv9
  refine e_if_eq hX iX4_isBrokenBy_8 (fun c8 => ?_) (fun c8 => ?_)
  · refine e_iconst (v := 0) hX iX4_isBrokenBy_45 (by decide) ?_
    exact e_zret hX hQ iX4_isBrokenBy_46 rfl nar_0 (by decide) (by decide) ⟨by rw [show brk 0 c lo hi v = false from and_f1 (b2i_0.mp c8)]; rfl, rfl⟩
  · refine e_aload_n hX 1 iX4_isBrokenBy_11 rfl rfl ?_
    refine e_aload_n hX 0 iX4_isBrokenBy_12 rfl rfl ?_
    refine e_get hX iX4_isBrokenBy_13 (by assumption) rfl ?_
    refine e_callV hX iX4_isBrokenBy_16 hr.1 (c_value htr hr c hc) rfl rfl ⟨by decide, by decide, by decide, by decide⟩ (Nat.le_of_ble_eq_true rfl) (fun _ _ h => h.elim) (fun v9 ph9 hv9 => ?_)
    obtain ⟨rfl, rfl⟩ := hv9
    refine e_aload_n hX 0 iX4_isBrokenBy_19 rfl rfl ?_
    refine e_get hX iX4_isBrokenBy_20 (by assumption) rfl ?_
    refine e_icmp_lt hX iX4_isBrokenBy_23 (fun c23 => ?_) (fun c23 => ?_)
    · refine e_iconst (v := 1) hX iX4_isBrokenBy_41 (by decide) ?_
      refine e_goto hX iX4_isBrokenBy_42 ?_
      exact e_zret hX hQ iX4_isBrokenBy_46 rfl nar_1 (by decide) (by decide) ⟨by rw [show brk 0 c lo hi v = true from and_tt (b2i_n0.mp c8) (or_t1 (decide_eq_true c23))]; rfl, rfl⟩
    · refine e_aload_n hX 1 iX4_isBrokenBy_26 rfl rfl ?_
      refine e_aload_n hX 0 iX4_isBrokenBy_27 rfl rfl ?_
      refine e_get hX iX4_isBrokenBy_28 (by assumption) rfl ?_
      refine e_callV hX iX4_isBrokenBy_31 hr.1 (c_value htr hr c hc) rfl rfl ⟨by decide, by decide, by decide, by decide⟩ (Nat.le_of_ble_eq_true rfl) (fun _ _ h => h.elim) (fun v9 ph9 hv9 => ?_)
      obtain ⟨rfl, rfl⟩ := hv9
      refine e_aload_n hX 0 iX4_isBrokenBy_34 rfl rfl ?_
      refine e_get hX iX4_isBrokenBy_35 (by assumption) rfl ?_
      refine e_icmp_le hX iX4_isBrokenBy_38 (fun c38 => ?_) (fun c38 => ?_)
      · refine e_iconst (v := 0) hX iX4_isBrokenBy_45 (by decide) ?_
        exact e_zret hX hQ iX4_isBrokenBy_46 rfl nar_0 (by decide) (by decide) ⟨by rw [show brk 0 c lo hi v = false from and_f2 (or_ff (decide_eq_false c23) (decide_eq_false (le_nlt c38)))]; rfl, rfl⟩
      · refine e_iconst (v := 1) hX iX4_isBrokenBy_41 (by decide) ?_
        refine e_goto hX iX4_isBrokenBy_42 ?_
        exact e_zret hX hQ iX4_isBrokenBy_46 rfl nar_1 (by decide) (by decide) ⟨by rw [show brk 0 c lo hi v = true from and_tt (b2i_n0.mp c8) (or_t2 (decide_eq_true (nle_lt c38)))]; rfl, rfl⟩
theorem c_brk1 {l : Launch} (htr : l.stackTraces = false) {θ : e_T} {ph : e_PH} {q w : Nat} {v : Nat → Int32} {id : Int32} (hr : rowAt θ ph q w v id) {r c : Nat} {lo hi : Int32} {a b : Int32} (hc : c < 5) (h : ph r = some (e_O 8 [.int a, .int b, .int (nI c)])) : MC yX6_isBrokenBy cX6_isBrokenBy 2 (some .boolean) 1 0 0 l θ [.ref r, .ref q] ph (fun z p => z = some (.int (b2i (brk 1 c lo hi v))) ∧ p = ph) (fun _ _ => False) := by
  refine MC.of htr (by decide) (Nat.le_of_ble_eq_true rfl) ?_
  intro x hX hQ hT
  refine e_aload_n hX 1 iX6_isBrokenBy_0 rfl rfl ?_
  refine e_aload_n hX 0 iX6_isBrokenBy_1 rfl rfl ?_
  refine e_get hX iX6_isBrokenBy_2 (by assumption) rfl ?_
  refine e_callV hX iX6_isBrokenBy_5 hr.1 (c_isPresent htr hr c hc) rfl rfl ⟨by decide, by decide, by decide, by decide⟩ (Nat.le_of_ble_eq_true rfl) (fun _ _ h => h.elim) (fun v9 ph9 hv9 => ?_)
  obtain ⟨rfl, rfl⟩ := hv9
  refine e_if_ne hX iX6_isBrokenBy_8 (fun c8 => ?_) (fun c8 => ?_)
  · refine e_iconst (v := 0) hX iX6_isBrokenBy_15 (by decide) ?_
    exact e_zret hX hQ iX6_isBrokenBy_16 rfl nar_0 (by decide) (by decide) ⟨by rw [show brk 1 c lo hi v = false by show (!pres (v c)) = false; rw [b2i_n0.mp c8]; rfl]; rfl, rfl⟩
  · refine e_iconst (v := 1) hX iX6_isBrokenBy_11 (by decide) ?_
    refine e_goto hX iX6_isBrokenBy_12 ?_
    exact e_zret hX hQ iX6_isBrokenBy_16 rfl nar_1 (by decide) (by decide) ⟨by rw [show brk 1 c lo hi v = true by show (!pres (v c)) = true; rw [b2i_0.mp c8]; rfl]; rfl, rfl⟩
theorem c_brk2 {l : Launch} (htr : l.stackTraces = false) {θ : e_T} {ph : e_PH} {q w : Nat} {v : Nat → Int32} {id : Int32} (hr : rowAt θ ph q w v id) {r c c2 : Nat} {hi : Int32} {a b : Int32} (hc : c < 5) (hc2 : c2 < 5) (h : ph r = some (e_O 9 [.int a, .int b, .int (nI c), .int (nI c2)])) : MC yX2_isBrokenBy cX2_isBrokenBy 2 (some .boolean) 1 0 0 l θ [.ref r, .ref q] ph (fun z p => z = some (.int (b2i (brk 2 c (nI c2) hi v))) ∧ p = ph) (fun _ _ => False) := by
  have e2 : brk 2 c (nI c2) hi v = (pres (v c) && (pres (v c2) && decide (v c2 < v c))) := by show (pres (v c) && (pres (v (ix (nI c2))) && decide (v (ix (nI c2)) < v c))) = _; rw [ix_n (by omega)]
  refine MC.of htr (by decide) (Nat.le_of_ble_eq_true rfl) ?_
  intro x hX hQ hT
  refine e_aload_n hX 1 iX2_isBrokenBy_0 rfl rfl ?_
  refine e_aload_n hX 0 iX2_isBrokenBy_1 rfl rfl ?_
  refine e_get hX iX2_isBrokenBy_2 (by assumption) rfl ?_
  refine e_callV hX iX2_isBrokenBy_5 hr.1 (c_isPresent htr hr c hc) rfl rfl ⟨by decide, by decide, by decide, by decide⟩ (Nat.le_of_ble_eq_true rfl) (fun _ _ h => h.elim) (fun v9 ph9 hv9 => ?_)
  obtain ⟨rfl, rfl⟩ := hv9
  refine e_if_eq hX iX2_isBrokenBy_8 (fun c8 => ?_) (fun c8 => ?_)
  · refine e_iconst (v := 0) hX iX2_isBrokenBy_45 (by decide) ?_
    exact e_zret hX hQ iX2_isBrokenBy_46 rfl nar_0 (by decide) (by decide) ⟨by rw [e2, and_f1 (b2i_0.mp c8)]; rfl, rfl⟩
  · refine e_aload_n hX 1 iX2_isBrokenBy_11 rfl rfl ?_
    refine e_aload_n hX 0 iX2_isBrokenBy_12 rfl rfl ?_
    refine e_get hX iX2_isBrokenBy_13 (by assumption) rfl ?_
    refine e_callV hX iX2_isBrokenBy_16 hr.1 (c_isPresent htr hr c2 hc2) rfl rfl ⟨by decide, by decide, by decide, by decide⟩ (Nat.le_of_ble_eq_true rfl) (fun _ _ h => h.elim) (fun v9 ph9 hv9 => ?_)
    obtain ⟨rfl, rfl⟩ := hv9
    refine e_if_eq hX iX2_isBrokenBy_19 (fun c19 => ?_) (fun c19 => ?_)
    · refine e_iconst (v := 0) hX iX2_isBrokenBy_45 (by decide) ?_
      exact e_zret hX hQ iX2_isBrokenBy_46 rfl nar_0 (by decide) (by decide) ⟨by rw [e2, and_f2 (and_f1 (b2i_0.mp c19))]; rfl, rfl⟩
    · refine e_aload_n hX 1 iX2_isBrokenBy_22 rfl rfl ?_
      refine e_aload_n hX 0 iX2_isBrokenBy_23 rfl rfl ?_
      refine e_get hX iX2_isBrokenBy_24 (by assumption) rfl ?_
      refine e_callV hX iX2_isBrokenBy_27 hr.1 (c_value htr hr c hc) rfl rfl ⟨by decide, by decide, by decide, by decide⟩ (Nat.le_of_ble_eq_true rfl) (fun _ _ h => h.elim) (fun v9 ph9 hv9 => ?_)
      obtain ⟨rfl, rfl⟩ := hv9
      refine e_aload_n hX 1 iX2_isBrokenBy_30 rfl rfl ?_
      refine e_aload_n hX 0 iX2_isBrokenBy_31 rfl rfl ?_
      refine e_get hX iX2_isBrokenBy_32 (by assumption) rfl ?_
      refine e_callV hX iX2_isBrokenBy_35 hr.1 (c_value htr hr c2 hc2) rfl rfl ⟨by decide, by decide, by decide, by decide⟩ (Nat.le_of_ble_eq_true rfl) (fun _ _ h => h.elim) (fun v9 ph9 hv9 => ?_)
      obtain ⟨rfl, rfl⟩ := hv9
      refine e_icmp_le hX iX2_isBrokenBy_38 (fun c38 => ?_) (fun c38 => ?_)
      · refine e_iconst (v := 0) hX iX2_isBrokenBy_45 (by decide) ?_
        exact e_zret hX hQ iX2_isBrokenBy_46 rfl nar_0 (by decide) (by decide) ⟨by rw [e2, and_f2 (and_f2 (decide_eq_false (le_nlt c38)))]; rfl, rfl⟩
      · refine e_iconst (v := 1) hX iX2_isBrokenBy_41 (by decide) ?_
        refine e_goto hX iX2_isBrokenBy_42 ?_
        exact e_zret hX hQ iX2_isBrokenBy_46 rfl nar_1 (by decide) (by decide) ⟨by rw [e2, and_tt (b2i_n0.mp c8) (and_tt (b2i_n0.mp c19) (decide_eq_true (nle_lt c38)))]; rfl, rfl⟩
theorem c_cls3 {l : Launch} (htr : l.stackTraces = false) {θ : e_T} {ph : e_PH} {q w : Nat} {v : Nat → Int32} {id : Int32} (hr : rowAt θ ph q w v id) {q2 w2 : Nat} {u : Nat → Int32} {id2 : Int32} (hr2 : rowAt θ ph q2 w2 u id2) {r c : Nat} {xx : Int32} {a b : Int32} (hc : c < 5) (h : ph r = some (e_O 10 [.int a, .int b, .int (nI c)])) : MC yX10_isClash cX10_isClash 3 (some .boolean) 1 0 0 l θ [.ref r, .ref q, .ref q2] ph (fun z p => z = some (.int (b2i (cls 3 c xx v u))) ∧ p = ph) (fun _ _ => False) := by
  refine MC.of htr (by decide) (Nat.le_of_ble_eq_true rfl) ?_
  intro x hX hQ hT
  refine e_aload_n hX 1 iX10_isClash_0 rfl rfl ?_
  refine e_aload_n hX 0 iX10_isClash_1 rfl rfl ?_
  refine e_get hX iX10_isClash_2 (by assumption) rfl ?_
  refine e_callV hX iX10_isClash_5 hr.1 (c_isPresent htr hr c hc) rfl rfl ⟨by decide, by decide, by decide, by decide⟩ (Nat.le_of_ble_eq_true rfl) (fun _ _ h => h.elim) (fun v9 ph9 hv9 => ?_)
  obtain ⟨rfl, rfl⟩ := hv9
  refine e_if_eq hX iX10_isClash_8 (fun c8 => ?_) (fun c8 => ?_)
  · refine e_iconst (v := 0) hX iX10_isClash_34 (by decide) ?_
    exact e_zret hX hQ iX10_isClash_35 rfl nar_0 (by decide) (by decide) ⟨by rw [show cls 3 c xx v u = false from and_f1 (b2i_0.mp c8)]; rfl, rfl⟩
  · refine e_aload_n hX 1 iX10_isClash_11 rfl rfl ?_
    refine e_aload_n hX 0 iX10_isClash_12 rfl rfl ?_
    refine e_get hX iX10_isClash_13 (by assumption) rfl ?_
    refine e_callV hX iX10_isClash_16 hr.1 (c_value htr hr c hc) rfl rfl ⟨by decide, by decide, by decide, by decide⟩ (Nat.le_of_ble_eq_true rfl) (fun _ _ h => h.elim) (fun v9 ph9 hv9 => ?_)
    obtain ⟨rfl, rfl⟩ := hv9
    refine e_aload_n hX 2 iX10_isClash_19 rfl rfl ?_
    refine e_aload_n hX 0 iX10_isClash_20 rfl rfl ?_
    refine e_get hX iX10_isClash_21 (by assumption) rfl ?_
    refine e_callV hX iX10_isClash_24 hr2.1 (c_value htr hr2 c hc) rfl rfl ⟨by decide, by decide, by decide, by decide⟩ (Nat.le_of_ble_eq_true rfl) (fun _ _ h => h.elim) (fun v9 ph9 hv9 => ?_)
    obtain ⟨rfl, rfl⟩ := hv9
    refine e_icmp_ne hX iX10_isClash_27 (fun c27 => ?_) (fun c27 => ?_)
    · refine e_iconst (v := 0) hX iX10_isClash_34 (by decide) ?_
      exact e_zret hX hQ iX10_isClash_35 rfl nar_0 (by decide) (by decide) ⟨by rw [show cls 3 c xx v u = false from and_f2 (decide_eq_false c27)]; rfl, rfl⟩
    · refine e_iconst (v := 1) hX iX10_isClash_30 (by decide) ?_
      refine e_goto hX iX10_isClash_31 ?_
      exact e_zret hX hQ iX10_isClash_35 rfl nar_1 (by decide) (by decide) ⟨by rw [show cls 3 c xx v u = true from and_tt (b2i_n0.mp c8) (decide_eq_true c27)]; rfl, rfl⟩
theorem c_cls4 {l : Launch} (htr : l.stackTraces = false) {θ : e_T} {ph : e_PH} {q w : Nat} {v : Nat → Int32} {id : Int32} (hr : rowAt θ ph q w v id) {q2 w2 : Nat} {u : Nat → Int32} {id2 : Int32} (hr2 : rowAt θ ph q2 w2 u id2) {r c : Nat} {xx : Int32} {a b : Int32} (hc : c < 5) (h : ph r = some (e_O 11 [.int a, .int b, .int xx, .int (nI c)])) : MC yX1_isClash cX1_isClash 3 (some .boolean) 1 0 0 l θ [.ref r, .ref q, .ref q2] ph (fun z p => z = some (.int (b2i (cls 4 c xx v u))) ∧ p = ph) (fun _ _ => False) := by
  refine MC.of htr (by decide) (Nat.le_of_ble_eq_true rfl) ?_
  intro x hX hQ hT
  refine e_aload_n hX 1 iX1_isClash_0 rfl rfl ?_
  refine e_aload_n hX 0 iX1_isClash_1 rfl rfl ?_
  refine e_get hX iX1_isClash_2 (by assumption) rfl ?_
  refine e_callV hX iX1_isClash_5 hr.1 (c_value htr hr c hc) rfl rfl ⟨by decide, by decide, by decide, by decide⟩ (Nat.le_of_ble_eq_true rfl) (fun _ _ h => h.elim) (fun v9 ph9 hv9 => ?_)
  obtain ⟨rfl, rfl⟩ := hv9
  refine e_aload_n hX 2 iX1_isClash_8 rfl rfl ?_
  refine e_aload_n hX 0 iX1_isClash_9 rfl rfl ?_
  refine e_get hX iX1_isClash_10 (by assumption) rfl ?_
  refine e_callV hX iX1_isClash_13 hr2.1 (c_value htr hr2 c hc) rfl rfl ⟨by decide, by decide, by decide, by decide⟩ (Nat.le_of_ble_eq_true rfl) (fun _ _ h => h.elim) (fun v9 ph9 hv9 => ?_)
  obtain ⟨rfl, rfl⟩ := hv9
  refine e_icmp_eq hX iX1_isClash_16 (fun c16 => ?_) (fun c16 => ?_)
  · refine e_iconst (v := 0) hX iX1_isClash_35 (by decide) ?_
    exact e_zret hX hQ iX1_isClash_36 rfl nar_0 (by decide) (by decide) ⟨by rw [show cls 4 c xx v u = false by show (!decide (v c = u c) && eqIn xx v u) = false; rw [decide_eq_true c16]; rfl]; rfl, rfl⟩
  · refine e_aload_n hX 1 iX1_isClash_19 rfl rfl ?_
    refine e_aload_n hX 0 iX1_isClash_20 rfl rfl ?_
    refine e_get hX iX1_isClash_21 (by assumption) rfl ?_
    refine e_aload_n hX 2 iX1_isClash_24 rfl rfl ?_
    refine e_callV hX iX1_isClash_25 hr.1 (c_isEqualIn htr hr hr2 xx) rfl rfl ⟨by decide, by decide, by decide, by decide⟩ (Nat.le_of_ble_eq_true rfl) (fun _ _ h => h.elim) (fun v9 ph9 hv9 => ?_)
    obtain ⟨rfl, rfl⟩ := hv9
    refine e_if_eq hX iX1_isClash_28 (fun c28 => ?_) (fun c28 => ?_)
    · refine e_iconst (v := 0) hX iX1_isClash_35 (by decide) ?_
      exact e_zret hX hQ iX1_isClash_36 rfl nar_0 (by decide) (by decide) ⟨by rw [show cls 4 c xx v u = false from and_f2 (b2i_0.mp c28)]; rfl, rfl⟩
    · refine e_iconst (v := 1) hX iX1_isClash_31 (by decide) ?_
      refine e_goto hX iX1_isClash_32 ?_
      exact e_zret hX hQ iX1_isClash_36 rfl nar_1 (by decide) (by decide) ⟨by rw [show cls 4 c xx v u = true by show (!decide (v c = u c) && eqIn xx v u) = true; rw [decide_eq_false c16, b2i_n0.mp c28]; rfl]; rfl, rfl⟩
theorem c_initRule {l : Launch} (htr : l.stackTraces = false) {θ : e_T} {ph : e_PH} {q kd : Nat} {vs : List Value} {v0 : Value} (st : Bool) (hk : kd < 5) (h : ph q = some (e_O (7 + kd) (v0 :: vs))) : MC yX8_init cX8_init 2 none 0 0 0 l θ [.ref q, .int (b2i st)] ph (fun z p => z = none ∧ p = e_up ph q (e_O (7 + kd) (.int (b2i st) :: vs))) (fun _ _ => False) := by
  refine MC.of htr (by decide) (Nat.le_of_ble_eq_true rfl) ?_
  intro x hX hQ hT
  refine e_aload_n hX 0 iX8_init_0 rfl rfl ?_
  refine e_obj hX iX8_init_1 mlRX8_1 w_objI w_objC ⟨by decide, Nat.le_of_ble_eq_true rfl⟩ ?_
  refine e_aload_n hX 0 iX8_init_4 rfl rfl ?_
  refine e_iload_n hX 1 iX8_init_5 rfl rfl ?_
  have hd : e_pff cX8_init RX8 6 9 (7 + kd) 0 (.boolean) := by
    match kd, hk with
    | 0, _ => exact iX8_init_6_c7
    | 1, _ => exact iX8_init_6_c8
    | 2, _ => exact iX8_init_6_c9
    | 3, _ => exact iX8_init_6_c10
    | 4, _ => exact iX8_init_6_c11
  refine e_putF hX rfl hd h rfl (Nat.zero_lt_succ _) (nar_b st) (fit_b st) ?_
  exact e_vret hX hQ iX8_init_9 rfl (by decide) (by decide) ⟨rfl, rfl⟩
theorem c_init0 {l : Launch} (htr : l.stackTraces = false) {θ : e_T} {ph : e_PH} {q : Nat} (a b c : Int32) (st : Bool) (h : ph q = some (e_O 7 [.int 0, .int 0, .int 0, .int 0, .int 0])) : MC yX4_init cX4_init 5 none 1 0 0 l θ [.ref q, .int a, .int b, .int c, .int (b2i st)] ph (fun z p => z = none ∧ p = e_up ph q (e_O 7 [.int (b2i st), .int 0, .int a, .int b, .int c])) (fun _ _ => False) := by
  refine MC.of htr (by decide) (Nat.le_of_ble_eq_true rfl) ?_
  intro x hX hQ hT
  refine e_aload_n hX 0 iX4_init_0 rfl rfl ?_
  refine e_iload hX iX4_init_1 rfl ?_
  refine e_callI hX iX4_init_3 (c_initRule (kd := 0) htr st (by decide) h) rfl rfl ⟨by decide, by decide, by decide, by decide⟩ (Nat.le_of_ble_eq_true rfl) (fun _ _ h => h.elim) (fun v9 ph9 hv9 => ?_)
  obtain ⟨rfl, rfl⟩ := hv9
  refine e_aload_n hX 0 iX4_init_6 rfl rfl ?_
  refine e_iload_n hX 1 iX4_init_7 rfl rfl ?_
  refine e_putF hX rfl iX4_init_8 e_up_s rfl (Nat.le_of_ble_eq_true rfl) rfl rfl ?_
  rw [e_up_up]
  refine e_aload_n hX 0 iX4_init_11 rfl rfl ?_
  refine e_iload_n hX 2 iX4_init_12 rfl rfl ?_
  refine e_putF hX rfl iX4_init_13 e_up_s rfl (Nat.le_of_ble_eq_true rfl) rfl rfl ?_
  rw [e_up_up]
  refine e_aload_n hX 0 iX4_init_16 rfl rfl ?_
  refine e_iload_n hX 3 iX4_init_17 rfl rfl ?_
  refine e_putF hX rfl iX4_init_18 e_up_s rfl (Nat.le_of_ble_eq_true rfl) rfl rfl ?_
  rw [e_up_up]
  exact e_vret hX hQ iX4_init_21 rfl (by decide) (by decide) ⟨rfl, rfl⟩
theorem c_init1 {l : Launch} (htr : l.stackTraces = false) {θ : e_T} {ph : e_PH} {q : Nat} (a : Int32) (st : Bool) (h : ph q = some (e_O 8 [.int 0, .int 0, .int 0])) : MC yX6_init cX6_init 3 none 1 0 0 l θ [.ref q, .int a, .int (b2i st)] ph (fun z p => z = none ∧ p = e_up ph q (e_O 8 [.int (b2i st), .int 0, .int a])) (fun _ _ => False) := by
  refine MC.of htr (by decide) (Nat.le_of_ble_eq_true rfl) ?_
  intro x hX hQ hT
  refine e_aload_n hX 0 iX6_init_0 rfl rfl ?_
  refine e_iload_n hX 2 iX6_init_1 rfl rfl ?_
  refine e_callI hX iX6_init_2 (c_initRule (kd := 1) htr st (by decide) h) rfl rfl ⟨by decide, by decide, by decide, by decide⟩ (Nat.le_of_ble_eq_true rfl) (fun _ _ h => h.elim) (fun v9 ph9 hv9 => ?_)
  obtain ⟨rfl, rfl⟩ := hv9
  refine e_aload_n hX 0 iX6_init_5 rfl rfl ?_
  refine e_iload_n hX 1 iX6_init_6 rfl rfl ?_
  refine e_putF hX rfl iX6_init_7 e_up_s rfl (Nat.le_of_ble_eq_true rfl) rfl rfl ?_
  rw [e_up_up]
  exact e_vret hX hQ iX6_init_10 rfl (by decide) (by decide) ⟨rfl, rfl⟩
theorem c_init3 {l : Launch} (htr : l.stackTraces = false) {θ : e_T} {ph : e_PH} {q : Nat} (a : Int32) (st : Bool) (h : ph q = some (e_O 10 [.int 0, .int 0, .int 0])) : MC yX10_init cX10_init 3 none 1 0 0 l θ [.ref q, .int a, .int (b2i st)] ph (fun z p => z = none ∧ p = e_up ph q (e_O 10 [.int (b2i st), .int 0, .int a])) (fun _ _ => False) := by
  refine MC.of htr (by decide) (Nat.le_of_ble_eq_true rfl) ?_
  intro x hX hQ hT
  refine e_aload_n hX 0 iX10_init_0 rfl rfl ?_
  refine e_iload_n hX 2 iX10_init_1 rfl rfl ?_
  refine e_callI hX iX10_init_2 (c_initRule (kd := 3) htr st (by decide) h) rfl rfl ⟨by decide, by decide, by decide, by decide⟩ (Nat.le_of_ble_eq_true rfl) (fun _ _ h => h.elim) (fun v9 ph9 hv9 => ?_)
  obtain ⟨rfl, rfl⟩ := hv9
  refine e_aload_n hX 0 iX10_init_5 rfl rfl ?_
  refine e_iload_n hX 1 iX10_init_6 rfl rfl ?_
  refine e_putF hX rfl iX10_init_7 e_up_s rfl (Nat.le_of_ble_eq_true rfl) rfl rfl ?_
  rw [e_up_up]
  exact e_vret hX hQ iX10_init_10 rfl (by decide) (by decide) ⟨rfl, rfl⟩
theorem c_init2 {l : Launch} (htr : l.stackTraces = false) {θ : e_T} {ph : e_PH} {q : Nat} (a b : Int32) (st : Bool) (h : ph q = some (e_O 9 [.int 0, .int 0, .int 0, .int 0])) : MC yX2_init cX2_init 4 none 1 0 0 l θ [.ref q, .int a, .int b, .int (b2i st)] ph (fun z p => z = none ∧ p = e_up ph q (e_O 9 [.int (b2i st), .int 0, .int a, .int b])) (fun _ _ => False) := by
  refine MC.of htr (by decide) (Nat.le_of_ble_eq_true rfl) ?_
  intro x hX hQ hT
  refine e_aload_n hX 0 iX2_init_0 rfl rfl ?_
  refine e_iload_n hX 3 iX2_init_1 rfl rfl ?_
  refine e_callI hX iX2_init_2 (c_initRule (kd := 2) htr st (by decide) h) rfl rfl ⟨by decide, by decide, by decide, by decide⟩ (Nat.le_of_ble_eq_true rfl) (fun _ _ h => h.elim) (fun v9 ph9 hv9 => ?_)
  obtain ⟨rfl, rfl⟩ := hv9
  refine e_aload_n hX 0 iX2_init_5 rfl rfl ?_
  refine e_iload_n hX 1 iX2_init_6 rfl rfl ?_
  refine e_putF hX rfl iX2_init_7 e_up_s rfl (Nat.le_of_ble_eq_true rfl) rfl rfl ?_
  rw [e_up_up]
  refine e_aload_n hX 0 iX2_init_10 rfl rfl ?_
  refine e_iload_n hX 2 iX2_init_11 rfl rfl ?_
  refine e_putF hX rfl iX2_init_12 e_up_s rfl (Nat.le_of_ble_eq_true rfl) rfl rfl ?_
  rw [e_up_up]
  exact e_vret hX hQ iX2_init_15 rfl (by decide) (by decide) ⟨rfl, rfl⟩
theorem c_init4 {l : Launch} (htr : l.stackTraces = false) {θ : e_T} {ph : e_PH} {q : Nat} (a b : Int32) (st : Bool) (h : ph q = some (e_O 11 [.int 0, .int 0, .int 0, .int 0])) : MC yX1_init cX1_init 4 none 1 0 0 l θ [.ref q, .int a, .int b, .int (b2i st)] ph (fun z p => z = none ∧ p = e_up ph q (e_O 11 [.int (b2i st), .int 0, .int a, .int b])) (fun _ _ => False) := by
  refine MC.of htr (by decide) (Nat.le_of_ble_eq_true rfl) ?_
  intro x hX hQ hT
  refine e_aload_n hX 0 iX1_init_0 rfl rfl ?_
  refine e_iload_n hX 3 iX1_init_1 rfl rfl ?_
  refine e_callI hX iX1_init_2 (c_initRule (kd := 4) htr st (by decide) h) rfl rfl ⟨by decide, by decide, by decide, by decide⟩ (Nat.le_of_ble_eq_true rfl) (fun _ _ h => h.elim) (fun v9 ph9 hv9 => ?_)
  obtain ⟨rfl, rfl⟩ := hv9
  refine e_aload_n hX 0 iX1_init_5 rfl rfl ?_
  refine e_iload_n hX 1 iX1_init_6 rfl rfl ?_
  refine e_putF hX rfl iX1_init_7 e_up_s rfl (Nat.le_of_ble_eq_true rfl) rfl rfl ?_
  rw [e_up_up]
  refine e_aload_n hX 0 iX1_init_10 rfl rfl ?_
  refine e_iload_n hX 2 iX1_init_11 rfl rfl ?_
  refine e_putF hX rfl iX1_init_12 e_up_s rfl (Nat.le_of_ble_eq_true rfl) rfl rfl ?_
  rw [e_up_up]
  exact e_vret hX hQ iX1_init_15 rfl (by decide) (by decide) ⟨rfl, rfl⟩
theorem c_initRej {l : Launch} (htr : l.stackTraces = false) {θ : e_T} {ph : e_PH} {q : Nat} (h : ph q = some (e_O 6 [.int 0, .int 0, .int 0, .int 0])) : MC yX5_init cX5_init 1 none 0 0 0 l θ [.ref q] ph (fun z p => z = none ∧ p = e_up ph q (e_O 6 [.int (-1), .int (-1), .int (-1), .int 0])) (fun _ _ => False) := by
  refine MC.of htr (by decide) (Nat.le_of_ble_eq_true rfl) ?_
  intro x hX hQ hT
  refine e_aload_n hX 0 iX5_init_0 rfl rfl ?_
  refine e_obj hX iX5_init_1 mlRX5_3 w_objI w_objC ⟨by decide, Nat.le_of_ble_eq_true rfl⟩ ?_
  refine e_aload_n hX 0 iX5_init_4 rfl rfl ?_
  refine e_iconst (v := (-1)) hX iX5_init_5 (by decide) ?_
  refine e_put hX iX5_init_6 h rfl (Nat.le_of_ble_eq_true rfl) rfl rfl ?_
  refine e_aload_n hX 0 iX5_init_9 rfl rfl ?_
  refine e_iconst (v := (-1)) hX iX5_init_10 (by decide) ?_
  refine e_put hX iX5_init_11 e_up_s rfl (Nat.le_of_ble_eq_true rfl) rfl rfl ?_
  rw [e_up_up]
  refine e_aload_n hX 0 iX5_init_14 rfl rfl ?_
  refine e_iconst (v := (-1)) hX iX5_init_15 (by decide) ?_
  refine e_put hX iX5_init_16 e_up_s rfl (Nat.le_of_ble_eq_true rfl) rfl rfl ?_
  rw [e_up_up]
  exact e_vret hX hQ iX5_init_19 rfl (by decide) (by decide) ⟨rfl, rfl⟩
theorem c_note {l : Launch} (htr : l.stackTraces = false) {θ : e_T} {ph : e_PH} {q : Nat} {a b c d : Value} (i r o : Int32) (bt : Bool) (h : ph q = some (e_O 6 [a, b, c, d])) : MC yX5_note cX5_note 5 none 0 0 0 l θ [.ref q, .int i, .int r, .int o, .int (b2i bt)] ph (fun z p => z = none ∧ p = e_up ph q (e_O 6 [.int i, .int r, .int o, .int (b2i bt)])) (fun _ _ => False) := by
  refine MC.of htr (by decide) (Nat.le_of_ble_eq_true rfl) ?_
  intro x hX hQ hT
  refine e_aload_n hX 0 iX5_note_0 rfl rfl ?_
  refine e_iload_n hX 1 iX5_note_1 rfl rfl ?_
  refine e_put hX iX5_note_2 h rfl (Nat.le_of_ble_eq_true rfl) rfl rfl ?_
  refine e_aload_n hX 0 iX5_note_5 rfl rfl ?_
  refine e_iload_n hX 2 iX5_note_6 rfl rfl ?_
  refine e_put hX iX5_note_7 e_up_s rfl (Nat.le_of_ble_eq_true rfl) rfl rfl ?_
  rw [e_up_up]
  refine e_aload_n hX 0 iX5_note_10 rfl rfl ?_
  refine e_iload_n hX 3 iX5_note_11 rfl rfl ?_
  refine e_put hX iX5_note_12 e_up_s rfl (Nat.le_of_ble_eq_true rfl) rfl rfl ?_
  rw [e_up_up]
  refine e_aload_n hX 0 iX5_note_15 rfl rfl ?_
  refine e_iload hX iX5_note_16 rfl ?_
  refine e_put hX iX5_note_18 e_up_s rfl (Nat.le_of_ble_eq_true rfl) (nar_b bt) (fit_b bt) ?_
  rw [e_up_up]
  exact e_vret hX hQ iX5_note_21 rfl (by decide) (by decide) ⟨rfl, rfl⟩
theorem c_initConf {l : Launch} (htr : l.stackTraces = false) {θ : e_T} {ph : e_PH} {q : Nat} (h : ph q = some (e_O 3 [.null, .int 0, .int 0])) : MC yX0_init cX0_init 1 none 0 1 12 l θ [.ref q] ph (fun z p => z = none ∧ ∃ a, ph a = none ∧ p = e_up (e_up ph a (e_I θ 12 (fun _ => 0))) q (e_O 3 [.ref a, .int 0, .int 0])) (fun _ _ => False) := by
  refine MC.of htr (by decide) (Nat.le_of_ble_eq_true rfl) ?_
  intro x hX hQ hT
  refine e_aload_n hX 0 iX0_init_0 rfl rfl ?_
  refine e_obj hX iX0_init_1 mlRX0_3 w_objI w_objC ⟨by decide, Nat.le_of_ble_eq_true rfl⟩ ?_
  refine e_aload_n hX 0 iX0_init_4 rfl rfl ?_
  refine e_bipush (v := 12) hX iX0_init_5 (by decide) ?_
  refine e_newI hX 12 iX0_init_7 ac_int rfl (by decide) (by decide) (by decide) (fun a ha => ?_)
  refine e_putF hX rfl iX0_init_9 (e_up_o h (e_ne h ha)) rfl (Nat.le_of_ble_eq_true rfl) rfl rfl ?_
  exact e_vret hX hQ iX0_init_12 rfl (by decide) (by decide) ⟨rfl, a, ha, rfl⟩
theorem c_initPart {l : Launch} (htr : l.stackTraces = false) {θ : e_T} {ph : e_PH} {q : Nat} (h : ph q = some (e_O 4 [.null, .int 0])) : MC yX3_init cX3_init 1 none 0 1 12 l θ [.ref q] ph (fun z p => z = none ∧ ∃ a, ph a = none ∧ p = e_up (e_up ph a (e_I θ 12 (fun _ => 0))) q (e_O 4 [.ref a, .int 0])) (fun _ _ => False) := by
  refine MC.of htr (by decide) (Nat.le_of_ble_eq_true rfl) ?_
  intro x hX hQ hT
  refine e_aload_n hX 0 iX3_init_0 rfl rfl ?_
  refine e_obj hX iX3_init_1 mlRX3_3 w_objI w_objC ⟨by decide, Nat.le_of_ble_eq_true rfl⟩ ?_
  refine e_aload_n hX 0 iX3_init_4 rfl rfl ?_
  refine e_bipush (v := 12) hX iX3_init_5 (by decide) ?_
  refine e_newI hX 12 iX3_init_7 ac_int rfl (by decide) (by decide) (by decide) (fun a ha => ?_)
  refine e_putF hX rfl iX3_init_9 (e_up_o h (e_ne h ha)) rfl (Nat.le_of_ble_eq_true rfl) rfl rfl ?_
  exact e_vret hX hQ iX3_init_12 rfl (by decide) (by decide) ⟨rfl, a, ha, rfl⟩
theorem c_initNums {l : Launch} (htr : l.stackTraces = false) {θ : e_T} {ph : e_PH} {q : Nat} (h : ph q = some (e_O 5 [.null, .int 0])) : MC yX9_init cX9_init 1 none 0 1 12 l θ [.ref q] ph (fun z p => z = none ∧ ∃ a, ph a = none ∧ p = e_up (e_up ph a (e_I θ 12 (fun _ => 0))) q (e_O 5 [.ref a, .int 0])) (fun _ _ => False) := by
  refine MC.of htr (by decide) (Nat.le_of_ble_eq_true rfl) ?_
  intro x hX hQ hT
  refine e_aload_n hX 0 iX9_init_0 rfl rfl ?_
  refine e_obj hX iX9_init_1 mlRX9_3 w_objI w_objC ⟨by decide, Nat.le_of_ble_eq_true rfl⟩ ?_
  refine e_aload_n hX 0 iX9_init_4 rfl rfl ?_
  refine e_bipush (v := 12) hX iX9_init_5 (by decide) ?_
  refine e_newI hX 12 iX9_init_7 ac_int rfl (by decide) (by decide) (by decide) (fun a ha => ?_)
  refine e_putF hX rfl iX9_init_9 (e_up_o h (e_ne h ha)) rfl (Nat.le_of_ble_eq_true rfl) rfl rfl ?_
  exact e_vret hX hQ iX9_init_12 rfl (by decide) (by decide) ⟨rfl, a, ha, rfl⟩
/-- five values, given one by one -/
def five (a b c d e : Int32) : Nat → Int32 := fun i => if i = 0 then a else if i = 1 then b else if i = 2 then c else if i = 3 then d else if i = 4 then e else 0
theorem c_initRow {l : Launch} (htr : l.stackTraces = false) {θ : e_T} {ph : e_PH} {q : Nat} (a b c d e : Int32) (h : ph q = some (e_O 2 [.null, .int 0])) : MC yX7_init cX7_init 6 none 0 1 5 l θ [.ref q, .int a, .int b, .int c, .int d, .int e] ph (fun z p => z = none ∧ ∃ w, ph w = none ∧ p = e_up (e_up ph w (e_I θ 5 (five a b c d e))) q (e_O 2 [.ref w, .int (-1)])) (fun _ _ => False) := by
  refine MC.of htr (by decide) (Nat.le_of_ble_eq_true rfl) ?_
  intro x hX hQ hT
  refine e_aload_n hX 0 iX7_init_0 rfl rfl ?_
  refine e_obj hX iX7_init_1 mlRX7_3 w_objI w_objC ⟨by decide, Nat.le_of_ble_eq_true rfl⟩ ?_
  refine e_aload_n hX 0 iX7_init_4 rfl rfl ?_
  refine e_iconst (v := 5) hX iX7_init_5 (by decide) ?_
  refine e_newI hX 5 iX7_init_6 ac_int rfl (by decide) (by decide) (by decide) (fun w hw => ?_)
  have hqw : q ≠ w := e_ne h hw
  refine e_dup hX iX7_init_8 rfl ?_
  refine e_iconst (v := 0) hX iX7_init_9 (by decide) ?_
  refine e_iload_n hX 1 iX7_init_10 rfl rfl ?_
  refine e_iast hX 0 iX7_init_11 e_up_s rfl (by decide) (by decide) ?_
  rw [e_up_up]
  refine e_dup hX iX7_init_12 rfl ?_
  refine e_iconst (v := 1) hX iX7_init_13 (by decide) ?_
  refine e_iload_n hX 2 iX7_init_14 rfl rfl ?_
  refine e_iast hX 1 iX7_init_15 e_up_s rfl (by decide) (by decide) ?_
  rw [e_up_up]
  refine e_dup hX iX7_init_16 rfl ?_
  refine e_iconst (v := 2) hX iX7_init_17 (by decide) ?_
  refine e_iload_n hX 3 iX7_init_18 rfl rfl ?_
  refine e_iast hX 2 iX7_init_19 e_up_s rfl (by decide) (by decide) ?_
  rw [e_up_up]
  refine e_dup hX iX7_init_20 rfl ?_
  refine e_iconst (v := 3) hX iX7_init_21 (by decide) ?_
  refine e_iload hX iX7_init_22 rfl ?_
  refine e_iast hX 3 iX7_init_24 e_up_s rfl (by decide) (by decide) ?_
  rw [e_up_up]
  refine e_dup hX iX7_init_25 rfl ?_
  refine e_iconst (v := 4) hX iX7_init_26 (by decide) ?_
  refine e_iload hX iX7_init_27 rfl ?_
  refine e_iast hX 4 iX7_init_29 e_up_s rfl (by decide) (by decide) ?_
  rw [e_up_up]
  refine e_putF hX rfl iX7_init_30 (e_up_o h hqw) rfl (Nat.le_of_ble_eq_true rfl) rfl rfl ?_
  refine e_aload_n hX 0 iX7_init_33 rfl rfl ?_
  refine e_iconst (v := (-1)) hX iX7_init_34 (by decide) ?_
  refine e_put hX iX7_init_35 e_up_s rfl (Nat.le_of_ble_eq_true rfl) rfl rfl ?_
  rw [e_up_up]
  rw [show upd (upd (upd (upd (upd (fun _ => 0) 0 a) 1 b) 2 c) 3 d) 4 e = five a b c d e from by
    funext i
    unfold five upd
    by_cases h0 : i = 0
    · subst h0; rfl
    · by_cases h1 : i = 1
      · subst h1; rfl
      · by_cases h2 : i = 2
        · subst h2; rfl
        · by_cases h3 : i = 3
          · subst h3; rfl
          · by_cases h4 : i = 4
            · subst h4; rfl
            · simp [h0, h1, h2, h3, h4]]
  exact e_vret hX hQ iX7_init_38 rfl (by decide) (by decide) ⟨rfl, w, hw, rfl⟩
