/-! p51: what holds of the state between the law's calls; the law's small patterns -/
def idS (D : Nat) (σ : SG) : Prop := gD σ = nI D ∧ ∃ f : Nat → Nat, (∀ i, i < gN σ → gI σ i = nI (f i) ∧ f i < D) ∧ ∀ i j, i < j → j < gN σ → f i < f j
def prfS (σ : SG) : Prop := ∀ j, j < 5 → ∃ t : Nat → Nat, (∀ b, b < 11 → gQ σ j b = nI (t b)) ∧ sumN 11 t = gP σ
def iv (D : Nat) (σ : SG) : Prop := idS D σ ∧ prfS σ ∧ gM σ = 0
theorem idS.lt {D : Nat} {σ : SG} (h : idS D σ) (hD : D < 2 ^ 30) {i j : Nat} (hij : i < j) (hj : j < gN σ) : gI σ i < gI σ j := by
  obtain ⟨-, f, h1, h2⟩ := h
  have h3 := h1 j hj
  rw [(h1 i (by omega)).1, h3.1]
  exact nI_lt (h2 i j hij hj) (by omega)
theorem idS.ne {D : Nat} {σ : SG} (h : idS D σ) (hD : D < 2 ^ 30) {i j : Nat} (hi : i < gN σ) (hj : j < gN σ) (hn : ¬ i = j) : ¬ gI σ i = gI σ j := fun e => by
  rcases Nat.lt_trichotomy i j with c | c | c
  · have := h.lt hD c hj; rw [e] at this; exact Int32.lt_irrefl this
  · exact hn c
  · have := h.lt hD c hi; rw [e] at this; exact Int32.lt_irrefl this
theorem idS.fnd {D : Nat} {σ : SG} (h : idS D σ) (hD : D < 2 ^ 30) {i : Nat} (hi : i < gN σ) : fnd σ (gI σ i) = i := fndN_u hi rfl (fun j hj => h.ne hD (by omega) hi (by omega))
theorem idS.kid {D : Nat} {σ : SG} (h : idS D σ) (hD : D < 2 ^ 30) {i : Nat} (hi : i < gN σ) : k_id σ (gI σ i) = 0 := if_pos (by rw [h.fnd hD hi]; exact hi)
theorem idS.kidc {D : Nat} {σ : SG} (h : idS D σ) (hD : D < 2 ^ 30) {i c : Nat} (hi : i < gN σ) (hc : c < 5) : k_idc σ (gI σ i) (nI c) = 0 := (if_pos (by rw [h.fnd hD hi]; exact hi)).trans (if_pos (colB_t.mpr ⟨c, hc, rfl⟩))
theorem idS.kconf {D : Nat} {σ : SG} (h : idS D σ) (hD : D < 2 ^ 30) {i j : Nat} (hi : i < gN σ) (hj : j < gN σ) (hn : ¬ i = j) : k_conf σ (gI σ i) (gI σ j) = 0 := (if_pos (by rw [h.fnd hD hi]; exact hi)).trans ((if_pos (by rw [h.fnd hD hj]; exact hj)).trans (if_neg (h.ne hD hi hj hn)))
theorem kat_n {σ : SG} (hn : gN σ ≤ 12) {i : Nat} (hi : i < gN σ) : k_at σ (nI i) = 0 := if_pos ((ltB_t (by omega)).mpr ⟨i, hi, rfl⟩)
/-- what a call leaves that changes nothing -/
def rP (θ : e_T) (ph : e_PH) (g : Nat) (X : Nat → Prop) (σ : SG) (a : Int32) : Option Value → e_PH → Prop := fun z p => z = some (.int a) ∧ GP θ p g X σ ∧ kx ph p X
theorem qP_r {θ : e_T} {ph : e_PH} {g : Nat} {X : Nat → Prop} {k : Nat} {a : Int32} {σ : SG} : qP θ ph g X k a σ σ = rP θ ph g X σ (qA k a) := by
  unfold qP rP
  rw [ite_self]
theorem qP_0 {θ : e_T} {ph : e_PH} {g : Nat} {X : Nat → Prop} {k : Nat} {a : Int32} {σ1 σ2 : SG} (h : k = 0) : qP θ ph g X k a σ1 σ2 = rP θ ph g X σ1 a := by
  subst h
  rfl
section RD
variable {l : Launch} {θ : e_T} {ph : e_PH} {g : Nat} {X : Nat → Prop} {σ : SG} {D : Nat}
theorem r_rowAt (htr : l.stackTraces = false) (hg : GP θ ph g X σ) {i : Nat} (hi : i < gN σ) : W_rowAt l θ [.ref g, .int (nI i)] ph (rP θ ph g X σ (gI σ i)) := by
  have hn := hg.ok.1
  have h := l_rowAt htr hg (nI i)
  rw [qP_0 (kat_n hn hi), show a_rowAt σ (nI i) = gI σ i by unfold a_rowAt; rw [ix_n (by omega)]] at h
  exact h
theorem r_inRep (htr : l.stackTraces = false) (hg : GP θ ph g X σ) (hv : idS D σ) (hD : D < 2 ^ 30) {i : Nat} (hi : i < gN σ) : W_isInRepair l θ [.ref g, .int (gI σ i)] ph (rP θ ph g X σ (b2i ((bstN σ).testBit i))) := by
  have h := l_isInRepair htr hg (gI σ i)
  rw [qP_0 (hv.kid hD hi), hv.fnd hD hi] at h
  exact h
theorem r_bad (htr : l.stackTraces = false) (hg : GP θ ph g X σ) (hv : idS D σ) (hD : D < 2 ^ 30) {i : Nat} (hi : i < gN σ) : W_isBad l θ [.ref g, .int (gI σ i)] ph (rP θ ph g X σ (b2i (bdS σ i))) := by
  have h := l_isBad htr hg (gI σ i)
  rw [qP_0 (hv.kid hD hi), show a_isBad σ (gI σ i) = bdS σ i by unfold a_isBad; rw [hv.fnd hD hi]] at h
  exact h
theorem r_conf (htr : l.stackTraces = false) (hg : GP θ ph g X σ) (hv : idS D σ) (hD : D < 2 ^ 30) {i j : Nat} (hi : i < gN σ) (hj : j < gN σ) (hne : ¬ i = j) : W_conflict l θ [.ref g, .int (gI σ i), .int (gI σ j)] ph (rP θ ph g X σ (b2i (adjS σ i j))) := by
  have h := l_conflict htr hg (gI σ i) (gI σ j)
  rw [qP_0 (hv.kconf hD hi hj hne), show a_conflict σ (gI σ i) (gI σ j) = adjS σ i j by
    unfold a_conflict
    rw [hv.fnd hD hi, hv.fnd hD hj]
    show _ = (decide (¬ j = i) && _)
    rw [decide_eq_true (show ¬ j = i from fun e => hne e.symm)]; rfl] at h
  exact h
theorem r_gsz (htr : l.stackTraces = false) (hg : GP θ ph g X σ) (hv : idS D σ) (hD : D < 2 ^ 30) {i : Nat} (hi : i < gN σ) : W_groupSize l θ [.ref g, .int (gI σ i)] ph (rP θ ph g X σ (nI (popN (rchN σ i)))) := by
  have h := l_groupSize htr hg (gI σ i)
  rw [qP_0 (hv.kid hD hi), hv.fnd hD hi] at h
  exact h
theorem r_valueAt (htr : l.stackTraces = false) (hg : GP θ ph g X σ) (hv : idS D σ) (hD : D < 2 ^ 30) {i c : Nat} (hi : i < gN σ) (hc : c < 5) : W_valueAt l θ [.ref g, .int (gI σ i), .int (nI c)] ph (rP θ ph g X σ (gV σ i c)) := by
  have h := l_valueAt htr hg (gI σ i) (nI c)
  rw [qP_0 (hv.kidc hD hi hc), show a_valueAt σ (gI σ i) (nI c) = gV σ i c by unfold a_valueAt; rw [hv.fnd hD hi, ix_n (by omega)]] at h
  exact h
theorem r_isOut (htr : l.stackTraces = false) (hg : GP θ ph g X σ) (hv : idS D σ) (hD : D < 2 ^ 30) {i c : Nat} (hi : i < gN σ) (hc : c < 5) : W_isOutlier l θ [.ref g, .int (gI σ i), .int (nI c)] ph (rP θ ph g X σ (b2i (a_out σ i c))) := by
  have h := l_isOutlier htr hg (gI σ i) (nI c)
  rw [qP_0 (hv.kidc hD hi hc), hv.fnd hD hi, ix_n (by omega)] at h
  exact h
end RD
section PT
variable {θ : e_T} {x : e_X} {pc nx tgt : Nat} {lv : List (Nat × Value)} {st : List Value} {ph : e_PH} {k n : Nat} {cc : ByteArray} {own nm : String} {nL : Nat} {ret : Option FieldType} {R : Room} {l : Launch} {off o2 : Int} {n1 n2 n3 t1 j : Nat}
/-- a == b -/
theorem e_eqB (hX : e_in cc own nm nL ret R l θ x) {a b : Int32} (h1 : e_br cc pc (.if_icmp .ne off) off n1 t1) (h2 : e_at cc n1 (.iconst 1) 1 n2) (h3 : e_br cc n2 (.goto o2) o2 n3 j) (h4 : e_at cc t1 (.iconst 0) 1 j) (kk : EJ θ x j lv (.int (b2i (decide (a = b))) :: st) ph k n) : EJ θ x pc lv (.int b :: .int a :: st) ph k n := by
  refine e_icmp_ne hX h1 (fun c => ?_) (fun c => ?_)
  · refine e_iconst (v := 0) hX h4 (by decide) ?_
    rw [decide_eq_false c] at kk
    exact kk
  · refine e_iconst (v := 1) hX h2 (by decide) ?_
    refine e_goto hX h3 ?_
    rw [decide_eq_true c] at kk
    exact kk
/-- a < b -/
theorem e_ltB (hX : e_in cc own nm nL ret R l θ x) {a b : Int32} (h1 : e_br cc pc (.if_icmp .ge off) off n1 t1) (h2 : e_at cc n1 (.iconst 1) 1 n2) (h3 : e_br cc n2 (.goto o2) o2 n3 j) (h4 : e_at cc t1 (.iconst 0) 1 j) (kk : EJ θ x j lv (.int (b2i (decide (a < b))) :: st) ph k n) : EJ θ x pc lv (.int b :: .int a :: st) ph k n := by
  refine e_icmp_ge hX h1 (fun c => ?_) (fun c => ?_)
  · refine e_iconst (v := 0) hX h4 (by decide) ?_
    rw [decide_eq_false (Int32.not_lt.mpr c)] at kk
    exact kk
  · refine e_iconst (v := 1) hX h2 (by decide) ?_
    refine e_goto hX h3 ?_
    rw [decide_eq_true (Int32.not_le.mp c)] at kk
    exact kk
/-- a > b -/
theorem e_gtB (hX : e_in cc own nm nL ret R l θ x) {a b : Int32} (h1 : e_br cc pc (.if_icmp .le off) off n1 t1) (h2 : e_at cc n1 (.iconst 1) 1 n2) (h3 : e_br cc n2 (.goto o2) o2 n3 j) (h4 : e_at cc t1 (.iconst 0) 1 j) (kk : EJ θ x j lv (.int (b2i (decide (b < a))) :: st) ph k n) : EJ θ x pc lv (.int b :: .int a :: st) ph k n := by
  refine e_icmp_le hX h1 (fun c => ?_) (fun c => ?_)
  · refine e_iconst (v := 0) hX h4 (by decide) ?_
    rw [decide_eq_false (Int32.not_lt.mpr c)] at kk
    exact kk
  · refine e_iconst (v := 1) hX h2 (by decide) ?_
    refine e_goto hX h3 ?_
    rw [decide_eq_true (Int32.not_le.mp c)] at kk
    exact kk
/-- v == 0 -/
theorem e_z0 (hX : e_in cc own nm nL ret R l θ x) {v : Int32} (h1 : e_br cc pc (.ifCond .ne off) off n1 t1) (h2 : e_at cc n1 (.iconst 1) 1 n2) (h3 : e_br cc n2 (.goto o2) o2 n3 j) (h4 : e_at cc t1 (.iconst 0) 1 j) (kk : EJ θ x j lv (.int (b2i (decide (v = 0))) :: st) ph k n) : EJ θ x pc lv (.int v :: st) ph k n := by
  refine e_if_ne hX h1 (fun c => ?_) (fun c => ?_)
  · refine e_iconst (v := 0) hX h4 (by decide) ?_
    rw [decide_eq_false c] at kk
    exact kk
  · refine e_iconst (v := 1) hX h2 (by decide) ?_
    refine e_goto hX h3 ?_
    have c2 : v = 0 := by simpa using c
    rw [decide_eq_true c2] at kk
    exact kk
/-- v != 0 -/
theorem e_nz (hX : e_in cc own nm nL ret R l θ x) {v : Int32} (h1 : e_br cc pc (.ifCond .eq off) off n1 t1) (h2 : e_at cc n1 (.iconst 1) 1 n2) (h3 : e_br cc n2 (.goto o2) o2 n3 j) (h4 : e_at cc t1 (.iconst 0) 1 j) (kk : EJ θ x j lv (.int (b2i (decide (¬ v = 0))) :: st) ph k n) : EJ θ x pc lv (.int v :: st) ph k n := by
  refine e_if_eq hX h1 (fun c => ?_) (fun c => ?_)
  · refine e_iconst (v := 0) hX h4 (by decide) ?_
    rw [decide_eq_false (fun q => q c)] at kk
    exact kk
  · refine e_iconst (v := 1) hX h2 (by decide) ?_
    refine e_goto hX h3 ?_
    rw [decide_eq_true c] at kk
    exact kk
end PT
theorem bz_b {b : Bool} : decide (b2i b = 0) = !b := by cases b <;> decide
theorem bnz_b {b : Bool} : decide (¬ b2i b = 0) = b := by cases b <;> decide
theorem b1_b {b : Bool} : decide (b2i b = 1) = b := by cases b <;> decide
theorem b2i_in {a b : Bool} : b2i a = b2i b ↔ a = b := by cases a <;> cases b <;> decide
theorem b2i_and {a b : Bool} : b2i a &&& b2i b = b2i (a && b) := by cases a <;> cases b <;> decide
theorem b2i_or {a b : Bool} : b2i a ||| b2i b = b2i (a || b) := by cases a <;> cases b <;> decide
theorem b2i_not {a b : Bool} (h : ¬ b2i a = b2i b) : ¬ a = b := fun e => h (by rw [e])
theorem nI_b2i {m : Nat} {b : Bool} : nI m + b2i b = nI (m + if b = true then 1 else 0) := by cases b <;> exact nI_add m _
theorem cntB_st {f : Nat → Bool} {n : Nat} : nI (cntB n f) + b2i (f n) = nI (cntB (n + 1) f) := nI_b2i
