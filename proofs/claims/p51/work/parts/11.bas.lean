/-! words and numbers that the contracts share -/
theorem nI_inc (i : Nat) : nI i + Int32.ofInt 1 = nI (i + 1) := nI_1 i
theorem nI_dec (i : Nat) : nI (i + 1) + Int32.ofInt (-1) = nI i := pk_m1 i
theorem nI_lit0 : (0 : Int32) = nI 0 := rfl
/-- a Java boolean -/
def b2i (b : Bool) : Int32 := if b then 1 else 0
theorem b2i_t : b2i true = 1 := rfl
theorem b2i_f : b2i false = 0 := rfl
theorem b2i_0 {b : Bool} : b2i b = 0 ↔ b = false := by cases b <;> decide
theorem b2i_n0 {b : Bool} : ¬ b2i b = 0 ↔ b = true := by cases b <;> decide
theorem b2i_1 {b : Bool} : b2i b = 1 ↔ b = true := by cases b <;> decide
theorem nar_b (b : Bool) : narrow .boolean (.int (b2i b)) = .int (b2i b) := by cases b <;> decide
theorem nar_1 : narrow .boolean (.int 1) = .int 1 := by decide
theorem nar_0 : narrow .boolean (.int 0) = .int 0 := by decide
theorem fit_b (b : Bool) : fits .boolean (.int (b2i b)) = true := by cases b <;> decide
theorem vpn_b (b : Bool) : vp_nar .boolean (b2i b) = b2i b := by cases b <;> decide
/-- whether column i belongs to the set s -/
def sb (s : Int32) (i : Nat) : Bool := decide ((s >>> (nI i &&& 31)) &&& 1 = 1)
theorem and1 (x : Int32) : x &&& 1 = 0 ∨ x &&& 1 = 1 := by
  obtain ⟨j, hj, e⟩ := pk_andE x (m := 1) 1 (by decide)
  rw [e]
  match j, hj with
  | 0, _ => exact Or.inl rfl
  | 1, _ => exact Or.inr rfl
theorem sb_1 {s : Int32} {i : Nat} : (s >>> (nI i &&& 31)) &&& 1 = 1 ↔ sb s i = true := by unfold sb; rw [decide_eq_true_eq]
theorem sb_0 {s : Int32} {i : Nat} : (s >>> (nI i &&& 31)) &&& 1 = 0 ↔ sb s i = false := by
  unfold sb
  rw [decide_eq_false_iff_not]
  constructor
  · intro h h1; rw [h] at h1; exact absurd h1 (by decide)
  · intro h; exact (and1 _).resolve_right h
/-- two rows are equal in the set s -/
def eqIn (s : Int32) (v u : Nat → Int32) : Bool := (List.range 5).all (fun c => !sb s c || decide (v c = u c))
theorem eqIn_t {s : Int32} {v u : Nat → Int32} : eqIn s v u = true ↔ ∀ c, c < 5 → sb s c = true → v c = u c := by
  unfold eqIn
  rw [List.all_eq_true]
  constructor
  · intro h c hc hs
    have h1 := h c (List.mem_range.mpr hc)
    rw [hs] at h1
    simpa using h1
  · intro h c hc
    have h1 := h c (List.mem_range.mp hc)
    cases hs : sb s c
    · rfl
    · simpa using h1 hs
theorem eqIn_f {s : Int32} {v u : Nat → Int32} {c : Nat} (hc : c < 5) (h : sb s c = true) (hn : ¬ v c = u c) : eqIn s v u = false := by
  cases e : eqIn s v u
  · rfl
  · exact absurd (eqIn_t.mp e c hc h) hn
/-- a row of the table: its cell and its values' -/
def rowAt (θ : e_T) (ph : e_PH) (q w : Nat) (v : Nat → Int32) (id : Int32) : Prop := ph q = some (e_O 2 [.ref w, .int id]) ∧ ph w = some (e_I θ 5 v)
def pres (x : Int32) : Bool := decide (¬ x = 100)
def dist (x m : Int32) : Int32 := if 0 ≤ x - m then x - m else 0 - (x - m)
section EM
variable {θ : e_T} {x : e_X} {pc nx tgt : Nat} {lv : List (Nat × Value)} {st : List Value} {ph : e_PH} {k n : Nat} {cc : ByteArray} {own nm : String} {nL : Nat} {ret : Option FieldType} {R : Room} {l : Launch} {off : Int}
/-- Math.abs, max, min -/
theorem e_abs (hX : e_in cc own nm nL ret R l θ x) {a : Int32} {idx : Nat} (hd : e_at cc pc (.invokestatic idx) 3 nx) (hw : e_w (.methodLink own idx Lib.Math.abs.name)) (hf : 1 ≤ R.frames ∧ (st.map fun v => v.category).sum + 13 ≤ R.locals ∧ k ≤ R.cells ∧ n ≤ R.slots) (kk : EJ θ x nx lv (.int (if 0 ≤ a then a else 0 - a) :: st) ph k n) : EJ θ x pc lv (.int a :: st) ph k n := by
  obtain ⟨p, l', e, R', s, m, args, below, meth, c, Q, nL'⟩ := x
  obtain ⟨rfl, rfl, rfl, hx, hb, hml, hown, hts, hG, hb0, hlk, htr, hr, hnm⟩ := hX
  obtain ⟨hd, rfl⟩ := hd
  intro H ls locs L f hP hD hk hS hl
  exact va_mabs hx hb (hml.trans hl.1.symm) hown (hts _ hw) (hts _ w_abs_s) (hts _ w_math_i) (hts _ w_abs_c) hf.1 hf.2.1 hf.2.2.1 hf.2.2.2 hd (kk H ls locs L f hP hD hk hS hl)
theorem e_max (hX : e_in cc own nm nL ret R l θ x) {a b : Int32} {idx : Nat} (hd : e_at cc pc (.invokestatic idx) 3 nx) (hw : e_w (.methodLink own idx Lib.Math.max.name)) (hf : 1 ≤ R.frames ∧ (st.map fun v => v.category).sum + 13 ≤ R.locals ∧ k ≤ R.cells ∧ n ≤ R.slots) (kk : EJ θ x nx lv (.int (if a < b then b else a) :: st) ph k n) : EJ θ x pc lv (.int b :: .int a :: st) ph k n := by
  obtain ⟨p, l', e, R', s, m, args, below, meth, c, Q, nL'⟩ := x
  obtain ⟨rfl, rfl, rfl, hx, hb, hml, hown, hts, hG, hb0, hlk, htr, hr, hnm⟩ := hX
  obtain ⟨hd, rfl⟩ := hd
  intro H ls locs L f hP hD hk hS hl
  exact va_mmax hx hb (hml.trans hl.1.symm) hown (hts _ hw) (hts _ w_max_s) (hts _ w_math_i) (hts _ w_max_c) hf.1 hf.2.1 hf.2.2.1 hf.2.2.2 hd (kk H ls locs L f hP hD hk hS hl)
theorem e_min (hX : e_in cc own nm nL ret R l θ x) {a b : Int32} {idx : Nat} (hd : e_at cc pc (.invokestatic idx) 3 nx) (hw : e_w (.methodLink own idx Lib.Math.min.name)) (hf : 1 ≤ R.frames ∧ (st.map fun v => v.category).sum + 13 ≤ R.locals ∧ k ≤ R.cells ∧ n ≤ R.slots) (kk : EJ θ x nx lv (.int (if b < a then b else a) :: st) ph k n) : EJ θ x pc lv (.int b :: .int a :: st) ph k n := by
  obtain ⟨p, l', e, R', s, m, args, below, meth, c, Q, nL'⟩ := x
  obtain ⟨rfl, rfl, rfl, hx, hb, hml, hown, hts, hG, hb0, hlk, htr, hr, hnm⟩ := hX
  obtain ⟨hd, rfl⟩ := hd
  intro H ls locs L f hP hD hk hS hl
  exact va_mmin hx hb (hml.trans hl.1.symm) hown (hts _ hw) (hts _ w_min_s) (hts _ w_math_i) (hts _ w_min_c) hf.1 hf.2.1 hf.2.2.1 hf.2.2.2 hd (kk H ls locs L f hP hD hk hS hl)
end EM
