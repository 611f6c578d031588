/-! THE MODEL: its cells, and what they hold -/
/-- the size of its arrays; 7 and 8 are of booleans -/
def msz : Nat → Nat
  | 0 => 12
  | 1 => 90
  | 2 => 30
  | 3 => 10
  | 4 => 10
  | 5 => 10
  | 6 => 10
  | 7 => 10
  | 8 => 10
  | 9 => 12
  | 10 => 12
  | 11 => 12
  | _ => 55
def mcell (θ : e_T) (j : Nat) (f : Nat → Int32) : va_E := if j = 7 ∨ j = 8 then e_Z θ 10 f else e_I θ (msz j) f
def mobj (μ : Nat → Nat) (s : Nat → Int32) : va_E := e_O 12 [.int (s 0), .int (s 1), .int (s 2), .int (s 3), .ref (μ 0), .ref (μ 1), .ref (μ 2), .int (s 7), .ref (μ 3), .ref (μ 4), .ref (μ 5), .ref (μ 6), .ref (μ 7), .ref (μ 8), .int (s 14), .int (s 15), .int (s 16), .int (s 17), .ref (μ 9), .ref (μ 10), .int (s 20), .ref (μ 11), .int (s 22), .int (s 23), .ref (μ 12), .ref (μ 13)]
def MI (θ : e_T) (ph : e_PH) (mo : Nat) (μ : Nat → Nat) (s : Nat → Int32) (F : Nat → Nat → Int32) : Prop := ph mo = some (mobj μ s) ∧ (∀ j, j < 14 → ph (μ j) = some (mcell θ j (F j))) ∧ ∀ i, i < 14 → ∀ j, j < 14 → μ i = μ j → i = j
def mS (mo : Nat) (μ : Nat → Nat) : Nat → Prop := fun a => a = mo ∨ ∃ j, j < 14 ∧ a = μ j
def updF (F : Nat → Nat → Int32) (j : Nat) (f : Nat → Int32) : Nat → Nat → Int32 := fun i => if i = j then f else F i
theorem mcell_no {θ : e_T} {j : Nat} {f : Nat → Int32} {ci : Nat} {fs : List Value} : mcell θ j f ≠ e_O ci fs := by
  unfold mcell
  by_cases h : j = 7 ∨ j = 8
  · rw [if_pos h]; intro q; unfold e_Z e_O at q; cases q
  · rw [if_neg h]; exact e_IO
theorem MI.ne {θ : e_T} {ph : e_PH} {mo : Nat} {μ : Nat → Nat} {s : Nat → Int32} {F : Nat → Nat → Int32} (h : MI θ ph mo μ s F) {j : Nat} (hj : j < 14) : μ j ≠ mo := e_ne2 (h.2.1 j hj) h.1 mcell_no
/-- an array changes -/
theorem MI.arr {θ : e_T} {ph : e_PH} {mo : Nat} {μ : Nat → Nat} {s : Nat → Int32} {F : Nat → Nat → Int32} (h : MI θ ph mo μ s F) (j : Nat) (hj : j < 14) (f : Nat → Int32) : MI θ (e_up ph (μ j) (mcell θ j f)) mo μ s (updF F j f) := by
  refine ⟨e_up_o h.1 (fun e => h.ne hj e.symm), fun i hi => ?_, h.2.2⟩
  show e_up ph (μ j) (mcell θ j f) (μ i) = some (mcell θ i (if i = j then f else F i))
  by_cases e : i = j
  · subst e; rw [if_pos rfl]; exact e_up_s
  · rw [if_neg e]; exact e_up_o (h.2.1 i hi) (fun e2 => e (h.2.2 i hi j hj e2))
/-- a number changes -/
theorem MI.fld {θ : e_T} {ph : e_PH} {mo : Nat} {μ : Nat → Nat} {s : Nat → Int32} {F : Nat → Nat → Int32} (h : MI θ ph mo μ s F) (s' : Nat → Int32) : MI θ (e_up ph mo (mobj μ s')) mo μ s' F := ⟨e_up_s, fun i hi => e_up_o (h.2.1 i hi) (h.ne hi), h.2.2⟩
theorem mS.arr {ph p : e_PH} {mo j : Nat} {μ : Nat → Nat} (hk : kept ph p (mS mo μ)) (hj : j < 14) {c : va_E} : kept ph (e_up p (μ j) c) (mS mo μ) := hk.up2 (Or.inl (Or.inr ⟨j, hj, rfl⟩))
theorem mS.fld {ph p : e_PH} {mo : Nat} {μ : Nat → Nat} (hk : kept ph p (mS mo μ)) {c : va_E} : kept ph (e_up p mo c) (mS mo μ) := hk.up2 (Or.inl (Or.inl rfl))
/-- row i of the values -/
def vF (F : Nat → Nat → Int32) (i : Nat) : Nat → Int32 := fun c => F 1 (5 * i + c)
def mrule (F : Nat → Nat → Int32) (r : Nat) (ρ : RU) : Prop := F 3 r = nI ρ.1 ∧ F 4 r = nI ρ.2.1 ∧ F 5 r = ρ.2.2.1 ∧ F 6 r = ρ.2.2.2.1 ∧ ruleOk ρ.1 ρ.2.1 ρ.2.2.1
/-- the cells hold σ -/
def MR (σ : SG) (s : Nat → Int32) (F : Nat → Nat → Int32) : Prop :=
  (s 1 = nI (gN σ) ∧ s 2 = gD σ ∧ s 3 = nI (gM σ) ∧ s 7 = nI (gK σ) ∧ s 22 = gF σ ∧ s 23 = nI (gP σ) ∧ ∃ b, s 17 = b2i b) ∧
  (s 14 = (gJ σ).1 ∧ ((gJ σ).1 ≠ -1 → s 15 = (gJ σ).2.1 ∧ s 16 = (gJ σ).2.2.1 ∧ s 17 = b2i (gJ σ).2.2.2)) ∧
  (∀ i, i < gN σ → F 0 i = gI σ i ∧ ∀ c, c < 5 → vF F i c = gV σ i c) ∧ (∀ i, i < gM σ → ∀ c, c < 5 → F 2 (5 * i + c) = gW σ i c) ∧
  (∀ r, r < gK σ → mrule F r (gR σ r) ∧ F 7 r = b2i (stR (gR σ r)) ∧ F 8 r = b2i (drR (gR σ r))) ∧ (∀ r, gK σ ≤ r → F 8 r = 0) ∧
  (∀ j, j < 5 → ∀ b, b < 11 → F 12 (11 * j + b) = gQ σ j b) ∧ okS σ
def MP (θ : e_T) (ph : e_PH) (mo : Nat) (μ : Nat → Nat) (σ : SG) (t : Int32) : Prop := ∃ s F, MI θ ph mo μ s F ∧ MR σ s F ∧ s 0 = t
theorem MI.i {θ : e_T} {ph : e_PH} {mo : Nat} {μ : Nat → Nat} {s : Nat → Int32} {F : Nat → Nat → Int32} (h : MI θ ph mo μ s F) (j : Nat) (hj : j < 14) (h7 : ¬ (j = 7 ∨ j = 8)) : ph (μ j) = some (e_I θ (msz j) (F j)) := by
  have := h.2.1 j hj
  unfold mcell at this
  rw [if_neg h7] at this
  exact this
theorem MI.z {θ : e_T} {ph : e_PH} {mo : Nat} {μ : Nat → Nat} {s : Nat → Int32} {F : Nat → Nat → Int32} (h : MI θ ph mo μ s F) (j : Nat) (hj : j < 14) (h7 : j = 7 ∨ j = 8) : ph (μ j) = some (e_Z θ 10 (F j)) := by
  have := h.2.1 j hj
  unfold mcell at this
  rw [if_pos h7] at this
  exact this
theorem brk_c {kd c : Nat} {x y : Int32} {v v' : Nat → Int32} (ho : ruleOk kd c x) (h : ∀ c, c < 5 → v c = v' c) : brk kd c x y v = brk kd c x y v' := by
  obtain ⟨-, hc, h2⟩ := ho
  unfold brk
  rw [h c hc]
  by_cases e : kd = 2
  · obtain ⟨c2, hc2, rfl⟩ := h2 e
    rw [ix_n (by omega), h c2 hc2]
  · rw [if_neg e, if_neg e]
theorem eqIn_c {s : Int32} {v v' u u' : Nat → Int32} (h : ∀ c, c < 5 → v c = v' c) (h2 : ∀ c, c < 5 → u c = u' c) : eqIn s v u = eqIn s v' u' := by
  cases e : eqIn s v' u'
  · cases e2 : eqIn s v u
    · rfl
    · rw [eqIn_t.mpr (fun c hc hs => by rw [← h c hc, ← h2 c hc]; exact eqIn_t.mp e2 c hc hs)] at e; cases e
  · exact eqIn_t.mpr (fun c hc hs => by rw [h c hc, h2 c hc]; exact eqIn_t.mp e c hc hs)
theorem cls_c {kd c : Nat} {x : Int32} {v v' u u' : Nat → Int32} (hc : c < 5) (h : ∀ c, c < 5 → v c = v' c) (h2 : ∀ c, c < 5 → u c = u' c) : cls kd c x v u = cls kd c x v' u' := by
  unfold cls
  rw [h c hc, h2 c hc, eqIn_c h h2]
section MOD
variable {l : Launch} {θ : e_T} {ph : e_PH} {mo : Nat} {μ : Nat → Nat} {s : Nat → Int32} {F : Nat → Nat → Int32}
theorem n_in (htr : l.stackTraces = false) (v a b : Int32) : MC yX12_in cX12_in 3 (some .boolean) 0 0 0 l θ [.int v, .int a, .int b] ph (fun z p => z = some (.int (b2i (decide (a ≤ v) && decide (v ≤ b)))) ∧ p = ph) (fun _ _ => False) := by
  refine MC.of htr (by decide) (Nat.le_of_ble_eq_true rfl) ?_
  intro x hX hQ hT
  refine e_iload_n hX 0 iX12_in_0 rfl rfl ?_
  refine e_iload_n hX 1 iX12_in_1 rfl rfl ?_
  refine e_icmp_lt hX iX12_in_2 (fun c2 => ?_) (fun c2 => ?_)
  · refine e_iconst (v := 0) hX iX12_in_14 (by decide) ?_
    exact e_zret hX hQ iX12_in_15 rfl nar_0 (by decide) (by decide) ⟨by rw [and_f1 (decide_eq_false (Int32.not_le.mpr c2))]; rfl, rfl⟩
  · refine e_iload_n hX 0 iX12_in_5 rfl rfl ?_
    refine e_iload_n hX 2 iX12_in_6 rfl rfl ?_
    refine e_icmp_gt hX iX12_in_7 (fun c7 => ?_) (fun c7 => ?_)
    · refine e_iconst (v := 0) hX iX12_in_14 (by decide) ?_
      exact e_zret hX hQ iX12_in_15 rfl nar_0 (by decide) (by decide) ⟨by rw [and_f2 (decide_eq_false (Int32.not_le.mpr c7))]; rfl, rfl⟩
    · refine e_iconst (v := 1) hX iX12_in_10 (by decide) ?_
      refine e_goto hX iX12_in_11 ?_
      exact e_zret hX hQ iX12_in_15 rfl nar_1 (by decide) (by decide) ⟨by rw [and_tt (decide_eq_true (Int32.not_lt.mp c2)) (decide_eq_true (Int32.not_lt.mp c7))]; rfl, rfl⟩
theorem okVB_in (v : Int32) : okVB v = (decide (-99 ≤ v) && decide (v ≤ 100)) := by
  cases h : okVB v
  · cases h2 : (decide (-99 ≤ v) && decide (v ≤ 100))
    · rfl
    · exfalso
      rw [Bool.and_eq_true, decide_eq_true_eq, decide_eq_true_eq] at h2
      have h3 : ¬ okV v := fun q => by rw [okVB_t.mpr q] at h; cases h
      have h4 : ¬ v ≤ 99 := fun q => h3 (Or.inl ⟨h2.1, q⟩)
      have h5 : ¬ v = 100 := fun q => h3 (Or.inr q)
      have := h2.2
      rw [Int32.le_iff_toInt_le] at this h4
      have e1 : (99 : Int32).toInt = 99 := by decide
      have e2 : (100 : Int32).toInt = 100 := by decide
      rw [e1] at h4
      rw [e2] at this
      exact h5 (Int32.toInt_inj.mp (by rw [e2]; omega))
  · rcases okVB_t.mp h with ⟨h1, h2⟩ | h1
    · rw [decide_eq_true h1, decide_eq_true (Int32.le_trans h2 (by decide))]; rfl
    · rw [h1]; rfl
theorem n_isValue (htr : l.stackTraces = false) (v : Int32) : MC yX12_isValue cX12_isValue 1 (some .boolean) 1 0 0 l θ [.int v] ph (fun z p => z = some (.int (b2i (okVB v))) ∧ p = ph) (fun _ _ => False) := by
  refine MC.of htr (by decide) (Nat.le_of_ble_eq_true rfl) ?_
  intro x hX hQ hT
  refine e_iload_n hX 0 iX12_isValue_0 rfl rfl ?_
  refine e_bipush (v := (-99)) hX iX12_isValue_1 (by decide) ?_
  refine e_bipush (v := 100) hX iX12_isValue_3 (by decide) ?_
  refine e_callS hX iX12_isValue_5 (n_in htr v (-99) 100) rfl rfl ⟨by decide, by decide, by decide, by decide⟩ (Nat.le_of_ble_eq_true rfl) (fun _ _ h => h.elim) (fun v9 ph9 hv9 => ?_)
  obtain ⟨rfl, e9⟩ := hv9
  subst ph9
  exact e_zret hX hQ iX12_isValue_8 rfl (nar_b _) (by decide) (by decide) ⟨by rw [okVB_in], rfl⟩
theorem n_isColumn (htr : l.stackTraces = false) (v : Int32) : MC yX12_isColumn cX12_isColumn 1 (some .boolean) 1 0 0 l θ [.int v] ph (fun z p => z = some (.int (b2i (colB v))) ∧ p = ph) (fun _ _ => False) := by
  refine MC.of htr (by decide) (Nat.le_of_ble_eq_true rfl) ?_
  intro x hX hQ hT
  refine e_iload_n hX 0 iX12_isColumn_0 rfl rfl ?_
  refine e_iconst (v := 0) hX iX12_isColumn_1 (by decide) ?_
  refine e_iconst (v := 4) hX iX12_isColumn_2 (by decide) ?_
  refine e_callS hX iX12_isColumn_3 (n_in htr v 0 4) rfl rfl ⟨by decide, by decide, by decide, by decide⟩ (Nat.le_of_ble_eq_true rfl) (fun _ _ h => h.elim) (fun v9 ph9 hv9 => ?_)
  obtain ⟨rfl, e9⟩ := hv9
  subst ph9
  exact e_zret hX hQ iX12_isColumn_6 rfl (nar_b _) (by decide) (by decide) ⟨rfl, rfl⟩
theorem n_isSet (htr : l.stackTraces = false) (v : Int32) : MC yX12_isSet cX12_isSet 1 (some .boolean) 1 0 0 l θ [.int v] ph (fun z p => z = some (.int (b2i (setB v))) ∧ p = ph) (fun _ _ => False) := by
  refine MC.of htr (by decide) (Nat.le_of_ble_eq_true rfl) ?_
  intro x hX hQ hT
  refine e_iload_n hX 0 iX12_isSet_0 rfl rfl ?_
  refine e_iconst (v := 0) hX iX12_isSet_1 (by decide) ?_
  refine e_bipush (v := 31) hX iX12_isSet_2 (by decide) ?_
  refine e_callS hX iX12_isSet_4 (n_in htr v 0 31) rfl rfl ⟨by decide, by decide, by decide, by decide⟩ (Nat.le_of_ble_eq_true rfl) (fun _ _ h => h.elim) (fun v9 ph9 hv9 => ?_)
  obtain ⟨rfl, e9⟩ := hv9
  subst ph9
  exact e_zret hX hQ iX12_isSet_7 rfl (nar_b _) (by decide) (by decide) ⟨rfl, rfl⟩
theorem n_thrown (htr : l.stackTraces = false) (hm : MI θ ph mo μ s F) : MC yX12_thrown cX12_thrown 1 (some .int) 0 0 0 l θ [.ref mo] ph (fun z p => z = some (.int (s 0)) ∧ p = ph) (fun _ _ => False) := by
  refine MC.of htr (by decide) (Nat.le_of_ble_eq_true rfl) ?_
  intro x hX hQ hT
  refine e_aload_n hX 0 iX12_thrown_0 rfl rfl ?_
  refine e_get hX iX12_thrown_1 hm.1 rfl ?_
  exact e_iret hX hQ iX12_thrown_4 rfl (by decide) (by decide) ⟨rfl, rfl⟩
theorem n_fails (htr : l.stackTraces = false) (hm : MI θ ph mo μ s F) (t : Int32) : MC yX12_fails cX12_fails 2 (some .int) 0 0 0 l θ [.ref mo, .int t] ph (fun z p => z = some (.int 0) ∧ p = e_up ph mo (mobj μ (upd s 0 t))) (fun _ _ => False) := by
  refine MC.of htr (by decide) (Nat.le_of_ble_eq_true rfl) ?_
  intro x hX hQ hT
  refine e_aload_n hX 0 iX12_fails_0 rfl rfl ?_
  refine e_iload_n hX 1 iX12_fails_1 rfl rfl ?_
  refine e_put hX iX12_fails_2 hm.1 rfl (Nat.le_of_ble_eq_true rfl) rfl rfl ?_
  refine e_iconst (v := 0) hX iX12_fails_5 (by decide) ?_
  exact e_iret hX hQ iX12_fails_6 rfl (by decide) (by decide) ⟨rfl, rfl⟩
theorem n_tells (htr : l.stackTraces = false) (hm : MI θ ph mo μ s F) (v : Int32) : MC yX12_tells cX12_tells 2 (some .int) 0 0 0 l θ [.ref mo, .int v] ph (fun z p => z = some (.int v) ∧ p = e_up ph mo (mobj μ (upd s 0 0))) (fun _ _ => False) := by
  refine MC.of htr (by decide) (Nat.le_of_ble_eq_true rfl) ?_
  intro x hX hQ hT
  refine e_aload_n hX 0 iX12_tells_0 rfl rfl ?_
  refine e_iconst (v := 0) hX iX12_tells_1 (by decide) ?_
  refine e_put hX iX12_tells_2 hm.1 rfl (Nat.le_of_ble_eq_true rfl) rfl rfl ?_
  refine e_iload_n hX 1 iX12_tells_5 rfl rfl ?_
  exact e_iret hX hQ iX12_tells_6 rfl (by decide) (by decide) ⟨rfl, rfl⟩
theorem n_asks (htr : l.stackTraces = false) (hm : MI θ ph mo μ s F) (t : Int32) (b : Bool) : MC yX12_asks cX12_asks 3 (some .boolean) 0 0 0 l θ [.ref mo, .int t, .int (b2i b)] ph (fun z p => z = some (.int (b2i (decide (t = 0) && b))) ∧ p = e_up ph mo (mobj μ (upd s 0 t))) (fun _ _ => False) := by
  refine MC.of htr (by decide) (Nat.le_of_ble_eq_true rfl) ?_
  intro x hX hQ hT
  refine e_aload_n hX 0 iX12_asks_0 rfl rfl ?_
  refine e_iload_n hX 1 iX12_asks_1 rfl rfl ?_
  refine e_put hX iX12_asks_2 hm.1 rfl (Nat.le_of_ble_eq_true rfl) rfl rfl ?_
  refine e_iload_n hX 1 iX12_asks_5 rfl rfl ?_
  refine e_if_ne hX iX12_asks_6 (fun c6 => ?_) (fun c6 => ?_)
  · refine e_iconst (v := 0) hX iX12_asks_17 (by decide) ?_
    exact e_zret hX hQ iX12_asks_18 rfl nar_0 (by decide) (by decide) ⟨by rw [and_f1 (decide_eq_false c6)]; rfl, rfl⟩
  · refine e_iload_n hX 2 iX12_asks_9 rfl rfl ?_
    refine e_if_eq hX iX12_asks_10 (fun c10 => ?_) (fun c10 => ?_)
    · refine e_iconst (v := 0) hX iX12_asks_17 (by decide) ?_
      exact e_zret hX hQ iX12_asks_18 rfl nar_0 (by decide) (by decide) ⟨by rw [and_f2 (b2i_0.mp c10)]; rfl, rfl⟩
    · refine e_iconst (v := 1) hX iX12_asks_13 (by decide) ?_
      refine e_goto hX iX12_asks_14 ?_
      exact e_zret hX hQ iX12_asks_18 rfl nar_1 (by decide) (by decide) ⟨by rw [and_tt (decide_eq_true c6) (b2i_n0.mp c10)]; rfl, rfl⟩
theorem n_at (htr : l.stackTraces = false) (hm : MI θ ph mo μ s F) {i c : Nat} (hi : i < 18) (hc : c < 5) : MC yX12_at cX12_at 3 (some .int) 0 0 0 l θ [.ref mo, .int (nI i), .int (nI c)] ph (fun z p => z = some (.int (vF F i c)) ∧ p = ph) (fun _ _ => False) := by
  refine MC.of htr (by decide) (Nat.le_of_ble_eq_true rfl) ?_
  intro x hX hQ hT
  refine e_aload_n hX 0 iX12_at_0 rfl rfl ?_
  refine e_get hX iX12_at_1 hm.1 rfl ?_
  refine e_iconst (v := 5) hX iX12_at_4 (by decide) ?_
  refine e_iload_n hX 1 iX12_at_5 rfl rfl ?_
  refine e_imul hX iX12_at_6 ?_
  refine e_iload_n hX 2 iX12_at_7 rfl rfl ?_
  refine e_iadd hX iX12_at_8 ?_
  rw [show (5 : Int32) = nI 5 from rfl, pk_mul, nI_add]
  refine e_iald hX (5 * i + c) iX12_at_9 (hm.i 1 (by decide) (by decide)) rfl (by show _ < 90; omega) (by show 90 < _; decide) ?_
  exact e_iret hX hQ iX12_at_10 rfl (by decide) (by decide) ⟨rfl, rfl⟩
end MOD
