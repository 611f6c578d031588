/-- insertion from place p down -/
def insG : Nat → (Nat → Int32) → Int32 → Nat → Int32
  | 0, f, y => upd f 0 y
  | p + 1, f, y => if y < f p then insG p (upd f (p + 1) (f p)) y else upd f (p + 1) y
theorem c_nclear {l : Launch} (htr : l.stackTraces = false) {θ : e_T} {ph : e_PH} {b a : Nat} {s : Int32} (h : ph b = some (e_O 5 [.ref a, .int s])) : MC yX9_clear cX9_clear 1 none 0 0 0 l θ [.ref b] ph (fun r p => r = none ∧ p = e_up ph b (e_O 5 [.ref a, .int 0])) (fun _ _ => False) := by
  refine MC.of htr (by decide) (Nat.le_of_ble_eq_true rfl) ?_
  intro x hX hQ hT
  refine e_aload_n hX 0 iX9_clear_0 rfl rfl ?_
  refine e_iconst (v := 0) hX iX9_clear_1 (by decide) ?_
  refine e_put hX iX9_clear_2 h rfl (Nat.le_of_ble_eq_true rfl) rfl rfl ?_
  exact e_vret hX hQ iX9_clear_5 rfl (by decide) (by decide) ⟨rfl, rfl⟩
theorem e_upI {ph : e_PH} {θ : e_T} {a N M : Nat} {f g : Nat → Int32} : e_up (e_up ph a (e_I θ N f)) a (e_I θ M g) = e_up ph a (e_I θ M g) := e_up_up
theorem e_IO {θ : e_T} {N ci : Nat} {f : Nat → Int32} {fs : List Value} : e_I θ N f ≠ e_O ci fs := fun h => by unfold e_O e_I at h; cases h
theorem c_ninsert {l : Launch} (htr : l.stackTraces = false) {θ : e_T} {ph : e_PH} {b a n : Nat} {f : Nat → Int32} (h : ph b = some (e_O 5 [.ref a, .int (nI n)])) (h2 : ph a = some (e_I θ 12 f)) (hn : n < 12) (y : Int32) : MC yX9_insert cX9_insert 3 none 0 0 0 l θ [.ref b, .int y] ph (fun r p => r = none ∧ p = e_up (e_up ph a (e_I θ 12 (insG n f y))) b (e_O 5 [.ref a, .int (nI (n + 1))])) (fun _ _ => False) := by
  refine MC.of htr (by decide) (Nat.le_of_ble_eq_true rfl) ?_
  intro x hX hQ hT
  have hba : b ≠ a := e_ne2 h h2 (fun e => e_IO e.symm)
  have fin : ∀ (p : Nat) (g : Nat → Int32) (ph2 : e_PH), p < 12 → upd g p y = insG n f y → ph2 = e_up ph a (e_I θ 12 g) → EJ θ x 54 [(0, .ref b), (1, .int y), (2, .int (nI p))] [] ph2 0 0 := by
    intro p g ph2 hp hg e2
    subst e2
    have hb2 : e_up ph a (e_I θ 12 g) b = some (e_O 5 [.ref a, .int (nI n)]) := e_up_o h hba
    refine e_aload_n hX 0 iX9_insert_54 rfl rfl ?_
    refine e_get hX iX9_insert_55 hb2 rfl ?_
    refine e_iload_n hX 2 iX9_insert_58 rfl rfl ?_
    refine e_iload_n hX 1 iX9_insert_59 rfl rfl ?_
    refine e_iast hX p iX9_insert_60 e_up_s rfl hp (by decide) ?_
    rw [e_upI, hg]
    refine e_aload_n hX 0 iX9_insert_61 rfl rfl ?_
    refine e_dup hX iX9_insert_62 rfl ?_
    refine e_get hX iX9_insert_63 (e_up_o h hba) rfl ?_
    refine e_iconst (v := 1) hX iX9_insert_66 (by decide) ?_
    refine e_iadd hX iX9_insert_67 ?_
    refine e_put hX iX9_insert_68 (e_up_o h hba) rfl (Nat.le_of_ble_eq_true rfl) rfl rfl ?_
    exact e_vret hX hQ iX9_insert_71 rfl (by decide) (by decide) ⟨rfl, by rw [nI_1]; rfl⟩
  have loop : ∀ (p : Nat) (g : Nat → Int32) (ph2 : e_PH), p ≤ n → insG p g y = insG n f y → ph2 = e_up ph a (e_I θ 12 g) → EJ θ x 18 [(0, .ref b), (1, .int y), (2, .int (nI p))] [] ph2 0 0 := by
    intro p
    induction p with
    | zero =>
      intro g ph2 hp hg e2
      refine e_iload_n hX 2 iX9_insert_18 rfl rfl ?_
      refine e_if_le hX iX9_insert_19 (fun c19 => ?_) (fun c19 => ?_)
      · exact fin 0 g ph2 (by omega) hg e2
      · exact absurd (by decide) c19
    | succ p ih =>
      intro g ph2 hp hg e2
      have hb2 : ph2 b = some (e_O 5 [.ref a, .int (nI n)]) := by rw [e2]; exact e_up_o h hba
      have ha2 : ph2 a = some (e_I θ 12 g) := by rw [e2]; exact e_up_s
      refine e_iload_n hX 2 iX9_insert_18 rfl rfl ?_
      refine e_if_le hX iX9_insert_19 (fun c19 => ?_) (fun c19 => ?_)
      · exact absurd c19 (nI_nle (by omega) (by omega))
      · refine e_aload_n hX 0 iX9_insert_22 rfl rfl ?_
        refine e_get hX iX9_insert_23 hb2 rfl ?_
        refine e_iload_n hX 2 iX9_insert_26 rfl rfl ?_
        refine e_iconst (v := 1) hX iX9_insert_27 (by decide) ?_
        refine e_isub hX iX9_insert_28 ?_
        refine e_iald hX p iX9_insert_29 ha2 (nI_pred p) (by omega) (by decide) ?_
        refine e_iload_n hX 1 iX9_insert_30 rfl rfl ?_
        refine e_icmp_le hX iX9_insert_31 (fun c31 => ?_) (fun c31 => ?_)
        · exact fin (p + 1) g ph2 (by omega) (by rw [← hg]; unfold insG; rw [if_neg (Int32.not_lt.mpr c31)]) e2
        · refine e_aload_n hX 0 iX9_insert_34 rfl rfl ?_
          refine e_get hX iX9_insert_35 hb2 rfl ?_
          refine e_iload_n hX 2 iX9_insert_38 rfl rfl ?_
          refine e_aload_n hX 0 iX9_insert_39 rfl rfl ?_
          refine e_get hX iX9_insert_40 hb2 rfl ?_
          refine e_iload_n hX 2 iX9_insert_43 rfl rfl ?_
          refine e_iconst (v := 1) hX iX9_insert_44 (by decide) ?_
          refine e_isub hX iX9_insert_45 ?_
          refine e_iald hX p iX9_insert_46 ha2 (nI_pred p) (by omega) (by decide) ?_
          refine e_iast hX (p + 1) iX9_insert_47 ha2 rfl (by omega) (by decide) ?_
          refine e_iinc hX iX9_insert_48 rfl (nI_dec p) (by decide) ?_
          refine e_goto hX iX9_insert_51 ?_
          refine e_loc [0, 1, 2] ?_
          refine ih (upd g (p + 1) (g p)) _ (by omega) ?_ ?_
          · rw [← hg]
            conv => rhs; unfold insG
            rw [if_pos (Int32.not_le.mp c31)]
          · rw [e2, e_upI]
  refine e_aload_n hX 0 iX9_insert_0 rfl rfl ?_
  refine e_get hX iX9_insert_1 h rfl ?_
  refine e_aload_n hX 0 iX9_insert_4 rfl rfl ?_
  refine e_get hX iX9_insert_5 h rfl ?_
  refine e_lenI hX iX9_insert_8 h2 ?_
  refine e_icmp_lt hX iX9_insert_9 (fun c9 => ?_) (fun c9 => ?_)
  · refine e_aload_n hX 0 iX9_insert_13 rfl rfl ?_
    refine e_get hX iX9_insert_14 h rfl ?_
    refine e_istore_n hX 2 iX9_insert_17 rfl (by decide) ?_
    refine e_loc [0, 1, 2] ?_
    refine loop n f ph (Nat.le_refl _) rfl ?_
    funext z
    by_cases hz : z = a
    · subst hz; rw [h2]; exact e_up_s.symm
    · exact (e_up_n hz).symm
  · exact absurd (nI_lt hn (by decide)) c9
def midG (n : Nat) (f : Nat → Int32) : Int32 := if n = 0 then 0 else f ((n - 1) / 2)
theorem mid_ix : ∀ n, n < 13 → ¬ n = 0 → (nI n - 1) / 2 = nI ((n - 1) / 2) := by decide +kernel
theorem c_nmiddle {l : Launch} (htr : l.stackTraces = false) {θ : e_T} {ph : e_PH} {b a n : Nat} {f : Nat → Int32} (h : ph b = some (e_O 5 [.ref a, .int (nI n)])) (h2 : ph a = some (e_I θ 12 f)) (hn : n ≤ 12) : MC yX9_middle cX9_middle 1 (some .int) 0 0 0 l θ [.ref b] ph (fun r p => r = some (.int (midG n f)) ∧ p = ph) (fun _ _ => False) := by
  refine MC.of htr (by decide) (Nat.le_of_ble_eq_true rfl) ?_
  intro x hX hQ hT
  refine e_aload_n hX 0 iX9_middle_0 rfl rfl ?_
  refine e_get hX iX9_middle_1 h rfl ?_
  refine e_if_ne hX iX9_middle_4 (fun c4 => ?_) (fun c4 => ?_)
  · have hn0 : ¬ n = 0 := fun e => c4 (by rw [e]; rfl)
    refine e_aload_n hX 0 iX9_middle_11 rfl rfl ?_
    refine e_get hX iX9_middle_12 h rfl ?_
    refine e_aload_n hX 0 iX9_middle_15 rfl rfl ?_
    refine e_get hX iX9_middle_16 h rfl ?_
    refine e_iconst (v := 1) hX iX9_middle_19 (by decide) ?_
    refine e_isub hX iX9_middle_20 ?_
    refine e_iconst (v := 2) hX iX9_middle_21 (by decide) ?_
    refine e_idiv hX iX9_middle_22 (by decide) ?_
    refine e_iald hX ((n - 1) / 2) iX9_middle_23 h2 (mid_ix n (by omega) hn0) (by omega) (by decide) ?_
    exact e_iret hX hQ iX9_middle_24 rfl (by decide) (by decide) ⟨by unfold midG; rw [if_neg hn0], rfl⟩
  · have hn0 : n = 0 := by
      rcases Nat.eq_zero_or_pos n with e | e
      · exact e
      · exact absurd c4 (nI_ne0 e (by omega))
    refine e_iconst (v := 0) hX iX9_middle_7 (by decide) ?_
    refine e_goto hX iX9_middle_8 ?_
    exact e_iret hX hQ iX9_middle_24 rfl (by decide) (by decide) ⟨by unfold midG; rw [if_pos hn0], rfl⟩
def bktG (x : Int32) : Int32 := if pres x = true then (x + 100) / 20 else 10
theorem c_bucket {l : Launch} (htr : l.stackTraces = false) {θ : e_T} {ph : e_PH} {q w : Nat} {v : Nat → Int32} {id : Int32} (hr : rowAt θ ph q w v id) (c : Nat) (hc : c < 5) : MC yX7_bucket cX7_bucket 2 (some .int) 1 0 0 l θ [.ref q, .int (nI c)] ph (fun r p => r = some (.int (bktG (v c))) ∧ p = ph) (fun _ _ => False) := by
  refine MC.of htr (by decide) (Nat.le_of_ble_eq_true rfl) ?_
  intro x hX hQ hT
  refine e_aload_n hX 0 iX7_bucket_0 rfl rfl ?_
  refine e_iload_n hX 1 iX7_bucket_1 rfl rfl ?_
  refine e_callV hX iX7_bucket_2 hr.1 (c_isPresent htr hr c hc) rfl rfl ⟨by decide, by decide, by decide, by decide⟩ (Nat.le_of_ble_eq_true rfl) (fun _ _ h => h.elim) (fun v9 ph9 hv9 => ?_)
  obtain ⟨rfl, e9⟩ := hv9
  subst ph9
  refine e_if_eq hX iX7_bucket_5 (fun c5 => ?_) (fun c5 => ?_)
  · refine e_bipush (v := 10) hX iX7_bucket_22 (by decide) ?_
    exact e_iret hX hQ iX7_bucket_24 rfl (by decide) (by decide) ⟨by unfold bktG; rw [if_neg (by rw [b2i_0.mp c5]; decide)], rfl⟩
  · refine e_aload_n hX 0 iX7_bucket_8 rfl rfl ?_
    refine e_iload_n hX 1 iX7_bucket_9 rfl rfl ?_
    refine e_callV hX iX7_bucket_10 hr.1 (c_value htr hr c hc) rfl rfl ⟨by decide, by decide, by decide, by decide⟩ (Nat.le_of_ble_eq_true rfl) (fun _ _ h => h.elim) (fun v9 ph9 hv9 => ?_)
    obtain ⟨rfl, e9⟩ := hv9
    subst ph9
    refine e_bipush (v := 100) hX iX7_bucket_13 (by decide) ?_
    refine e_iadd hX iX7_bucket_15 ?_
    refine e_bipush (v := 20) hX iX7_bucket_16 (by decide) ?_
    refine e_idiv hX iX7_bucket_18 (by decide) ?_
    refine e_goto hX iX7_bucket_19 ?_
    exact e_iret hX hQ iX7_bucket_24 rfl (by decide) (by decide) ⟨by unfold bktG; rw [if_pos (b2i_n0.mp c5)], rfl⟩
theorem lst.hp {θ : e_T} {ph : e_PH} {a ed n : Nat} {r : Nat → Nat} (h : lst θ ph a ed n r) : ph a = some (e_O 1 [.int h.choose, .ref ed, .int (nI n)]) := h.choose_spec.1
theorem rowAt.hp {θ : e_T} {ph : e_PH} {q w : Nat} {v : Nat → Int32} {id : Int32} (h : rowAt θ ph q w v id) : ph q = some (e_O 2 [.ref w, .int id]) := h.1
section EG
variable {θ : e_T} {x : e_X} {pc nx tgt : Nat} {lv : List (Nat × Value)} {st : List Value} {ph : e_PH} {k n : Nat} {cc : ByteArray} {own nm : String} {nL : Nat} {ret : Option FieldType} {R : Room} {l : Launch} {off : Int}
theorem e_castS (hX : e_in cc own nm nL ret R l θ x) {a idx ci : Nat} {fs : List Value} {nm2 : String} {T : u_T} {N : Nat} (hd : e_at cc pc (.checkcast idx) 3 nx) (hw : e_w (.classLink own idx nm2)) (hp : ph a = some (e_O ci fs)) (hc : e_cl[ci]? = some (nm2, T, N)) (kk : EJ θ x nx lv (.ref a :: st) ph k n) : EJ θ x pc lv (.ref a :: st) ph k n := by
  obtain ⟨p, l', e, R', s, m, args, below, meth, c, Q, nL'⟩ := x
  obtain ⟨rfl, rfl, rfl, hx, hb, hml, hown, hts, hG, hb0, hlk, htr, hr, hnm⟩ := hX
  obtain ⟨hd, rfl⟩ := hd
  intro H ls locs L f hP hD hk hS hl
  obtain ⟨q0, hq⟩ := hk.get hp
  exact va_castE hx hb hown (hts _ hw) (va_recv hG.1 hP hc hq) hd (kk H ls locs L f hP hD hk hS hl)
end EG
theorem eqIn_rfl {s : Int32} {v : Nat → Int32} : eqIn s v v = true := eqIn_t.mpr (fun _ _ _ => rfl)
theorem eqIn_trans {s : Int32} {u v w : Nat → Int32} (h : eqIn s u v = true) (h2 : eqIn s v w = true) : eqIn s u w = true := eqIn_t.mpr (fun c hc hs => (eqIn_t.mp h c hc hs).trans (eqIn_t.mp h2 c hc hs))
theorem eqIn_sym {s : Int32} {u v : Nat → Int32} (h : eqIn s u v = true) : eqIn s v u = true := by rw [eqIn_symm]; exact h
/-- the lowest number from j on, at most j + g, that has it -/
def lowG (P : Nat → Bool) : Nat → Nat → Nat
  | 0, j => j
  | g + 1, j => if P j then j else lowG P g (j + 1)
theorem lowG_s {P : Nat → Bool} : ∀ (g j : Nat), P (j + g) = true → j ≤ lowG P g j ∧ lowG P g j ≤ j + g ∧ P (lowG P g j) = true ∧ ∀ i, j ≤ i → i < lowG P g j → P i = false
  | 0, j, h => ⟨Nat.le_refl _, Nat.le_refl _, h, fun i h1 h2 => absurd h2 (Nat.not_lt.mpr h1)⟩
  | g + 1, j, h => by
    unfold lowG
    by_cases c : P j = true
    · rw [if_pos c]
      exact ⟨Nat.le_refl _, by omega, c, fun i h1 h2 => absurd h2 (Nat.not_lt.mpr h1)⟩
    · rw [if_neg c]
      have h1 := lowG_s g (j + 1) (by rw [show j + 1 + g = j + (g + 1) by omega]; exact h)
      refine ⟨by omega, by omega, h1.2.2.1, fun i h2 h3 => ?_⟩
      by_cases e : i = j
      · rw [e]; simpa using c
      · exact h1.2.2.2 i (by omega) h3
/-- the first row of row i's class -/
def fst (s : Int32) (v : Nat → Nat → Int32) (i : Nat) : Nat := lowG (fun j => eqIn s (v i) (v j)) i 0
theorem fst_s (s : Int32) (v : Nat → Nat → Int32) (i : Nat) : fst s v i ≤ i ∧ eqIn s (v i) (v (fst s v i)) = true ∧ ∀ j, j < fst s v i → eqIn s (v i) (v j) = false := by
  have h := lowG_s (P := fun j => eqIn s (v i) (v j)) i 0 (by rw [Nat.zero_add]; exact eqIn_rfl)
  exact ⟨by have := h.2.1; unfold fst; omega, h.2.2.1, fun j hj => h.2.2.2 j (Nat.zero_le j) hj⟩
theorem fst_u {s : Int32} {v : Nat → Nat → Int32} {i m : Nat} (h1 : eqIn s (v i) (v m) = true) (h2 : ∀ j, j < m → eqIn s (v i) (v j) = false) : fst s v i = m := by
  have h := fst_s s v i
  rcases Nat.lt_trichotomy (fst s v i) m with c | c | c
  · rw [h2 _ c] at h; cases h.2.1
  · exact c
  · rw [h.2.2 _ c] at h1; cases h1
theorem fst_eq {s : Int32} {v : Nat → Nat → Int32} {i j : Nat} : fst s v i = fst s v j ↔ eqIn s (v i) (v j) = true := by
  constructor
  · intro h
    have h1 := (fst_s s v i).2.1
    rw [h] at h1
    exact eqIn_trans h1 (eqIn_sym (fst_s s v j).2.1)
  · intro h
    have h1 := fst_s s v j
    exact fst_u (eqIn_trans h h1.2.1) (fun z hz => by
      cases c : eqIn s (v i) (v z)
      · rfl
      · have := h1.2.2 z hz
        rw [eqIn_trans (eqIn_sym h) c] at this; cases this)
theorem fst_fst {s : Int32} {v : Nat → Nat → Int32} {i : Nat} : fst s v (fst s v i) = fst s v i := fst_eq.mpr (eqIn_sym (fst_s s v i).2.1)
theorem fst_first {s : Int32} {v : Nat → Nat → Int32} {i : Nat} : fst s v i = i ↔ ∀ j, j < i → eqIn s (v i) (v j) = false := by
  constructor
  · intro h j hj; exact (fst_s s v i).2.2 j (by rw [h]; exact hj)
  · intro h; exact fst_u eqIn_rfl h
theorem upd_s {f : Nat → Int32} {k : Nat} {x : Int32} : upd f k x k = x := pk_us
theorem upd_n {f : Nat → Int32} {k j : Nat} {x : Int32} (h : j ≠ k) : upd f k x j = f j := pk_un h
theorem e_II12 {θ : e_T} {N M : Nat} {f g : Nat → Int32} (h : N ≠ M) : e_I θ N f ≠ e_I θ M g := fun e => by unfold e_I at e; injection e with e; injection e with _ e; injection e with e _; exact h e
theorem e_IR {θ : e_T} {N M : Nat} {f : Nat → Option Nat} {g : Nat → Int32} : e_I θ M g ≠ e_R θ N f := fun h => e_RI h.symm
theorem rws.keep {θ : e_T} {ph p : e_PH} {n : Nat} {r : Nat → Nat} {v : Nat → Nat → Int32} {S : Nat → Prop} (h : rws θ ph n r v) (hk : kept ph p S) (h1 : ∀ b fs, ph b = some (e_O 2 fs) → ¬ S b) (h2 : ∀ b f, ph b = some (e_I θ 5 f) → ¬ S b) : rws θ p n r v := fun i hi => by
  obtain ⟨w, id, a, b⟩ := h i hi
  exact ⟨w, id, hk _ _ a (h1 _ _ a), hk _ _ b (h2 _ _ b)⟩
theorem lst.hed {θ : e_T} {ph : e_PH} {a ed n : Nat} {r : Nat → Nat} (h : lst θ ph a ed n r) : ed = θ.2.2.2.2 ∨ ∃ N f, ph ed = some (e_R θ N f) := by
  obtain ⟨m, -, -, h | ⟨N, f, h, -⟩⟩ := h
  · exact Or.inl h.2
  · exact Or.inr ⟨N, f, h⟩
theorem lst.keep2 {θ : e_T} {ph p : e_PH} {a ed n : Nat} {r : Nat → Nat} {S : Nat → Prop} (h : lst θ ph a ed n r) (hk : kept ph p S) (h1 : ∀ b fs, ph b = some (e_O 1 fs) → ¬ S b) (h2 : ∀ b N f, ph b = some (e_R θ N f) → ¬ S b) : lst θ p a ed n r := by
  obtain ⟨m, e1, e2, e3⟩ := h
  refine ⟨m, hk _ _ e1 (h1 _ _ e1), e2, ?_⟩
  rcases e3 with e3 | ⟨N, f, e3, e4⟩
  · exact Or.inl e3
  · exact Or.inr ⟨N, f, hk _ _ e3 (h2 _ _ _ e3), e4⟩
/-- the two cells of a partition -/
def prS (pt fa : Nat) : Nat → Prop := fun b => b = pt ∨ b = fa
theorem prS.no {θ : e_T} {ph : e_PH} {pt fa : Nat} {f : Nat → Int32} {fs : List Value} {ci : Nat} (h1 : ph pt = some (e_O ci fs)) (h2 : ph fa = some (e_I θ 12 f)) {b : Nat} {c : va_E} (hb : ph b = some c) (n1 : ∀ gs, c ≠ e_O ci gs) (n2 : ∀ g, c ≠ e_I θ 12 g) : ¬ prS pt fa b := fun q => by
  rcases q with q | q
  · subst q; rw [h1] at hb; exact n1 _ (Option.some.inj hb).symm
  · subst q; rw [h2] at hb; exact n2 _ (Option.some.inj hb).symm
theorem c_divide {l : Launch} (htr : l.stackTraces = false) {θ : e_T} {ph : e_PH} {pt fa tb ed n : Nat} {r : Nat → Nat} {v : Nat → Nat → Int32} {f0 : Nat → Int32} {s0 : Int32} (h1 : ph pt = some (e_O 4 [.ref fa, .int s0])) (h2 : ph fa = some (e_I θ 12 f0)) (hl : lst θ ph tb ed n r) (hr : rws θ ph n r v) (hn : n ≤ 12) (s : Int32) : MC yX3_divide cX3_divide 5 none 3 0 0 l θ [.ref pt, .ref tb, .int s] ph (fun z p => z = none ∧ ∃ f, p pt = some (e_O 4 [.ref fa, .int (nI n)]) ∧ p fa = some (e_I θ 12 f) ∧ (∀ i, i < n → f i = nI (fst s v i)) ∧ kept ph p (prS pt fa)) (fun _ _ => False) := by
  refine MC.of htr (by decide) (Nat.le_of_ble_eq_true rfl) ?_
  intro x hX hQ hT
  have hpf : pt ≠ fa := e_ne2 h1 h2 (fun e => e_IO e.symm)
  -- what holds at the head of the loop over the rows
  let Inv : Nat → e_PH → Prop := fun i p => p pt = some (e_O 4 [.ref fa, .int (nI n)]) ∧ (∃ f, p fa = some (e_I θ 12 f) ∧ ∀ z, z < i → f z = nI (fst s v z)) ∧ kept ph p (prS pt fa)
  have hL : ∀ p, kept ph p (prS pt fa) → lst θ p tb ed n r := fun p hk => hl.keep2 hk (fun b fs hb => prS.no h1 h2 hb (fun gs => e_OO (by decide)) (fun g e => e_IO e.symm)) (fun b N f hb => prS.no h1 h2 hb (fun gs e => e_OR e.symm) (fun g => e_RI))
  have hR : ∀ p, kept ph p (prS pt fa) → rws θ p n r v := fun p hk => hr.keep hk (fun b fs hb => prS.no h1 h2 hb (fun gs => e_OO (by decide)) (fun g e => e_IO e.symm)) (fun b f hb => prS.no h1 h2 hb (fun gs => e_IO) (fun g => e_II12 (by decide)))
  have outer : ∀ (g i : Nat) (p : e_PH), n - i < g → i ≤ n → Inv i p → EJ θ x 18 [(0, .ref pt), (1, .ref tb), (2, .int s), (3, .int (nI i))] [] p 0 0 := by
    intro g
    induction g with
    | zero => intro i p hg; omega
    | succ g ih =>
      intro i p hg hi hinv
      obtain ⟨g1, ⟨f, g2, g3⟩, g4⟩ := hinv
      refine e_iload_n hX 3 iX3_divide_18 rfl rfl ?_
      refine e_aload_n hX 0 iX3_divide_19 rfl rfl ?_
      refine e_get hX iX3_divide_20 g1 rfl ?_
      refine e_icmp_ge hX iX3_divide_23 (fun c23 => ?_) (fun c23 => ?_)
      · have hin : i = n := by
          rcases Nat.lt_or_ge i n with h | h
          · exact absurd c23 (nI_ge h (by omega))
          · omega
        subst hin
        exact e_vret hX hQ iX3_divide_101 rfl (by decide) (by decide) ⟨rfl, f, g1, g2, g3, g4⟩
      · have hin : i < n := by
          rcases Nat.lt_or_ge i n with h | h
          · exact h
          · exact absurd (nI_le h (by omega)) c23
        refine e_aload_n hX 0 iX3_divide_26 rfl rfl ?_
        refine e_get hX iX3_divide_27 g1 rfl ?_
        refine e_iload_n hX 3 iX3_divide_30 rfl rfl ?_
        refine e_iload_n hX 3 iX3_divide_31 rfl rfl ?_
        refine e_iast hX i iX3_divide_32 g2 rfl (by omega) (by decide) ?_
        refine e_iconst (v := 0) hX iX3_divide_33 (by decide) ?_
        refine e_istore hX iX3_divide_34 (by decide) ?_
        have inner : ∀ (g' j : Nat) (lvj : List (Nat × Value)) (p' : e_PH) (f' : Nat → Int32), i - j < g' → j ≤ i → p' pt = some (e_O 4 [.ref fa, .int (nI n)]) → p' fa = some (e_I θ 12 f') → (∀ z, z < i → f' z = nI (fst s v z)) → f' i = nI i → kept ph p' (prS pt fa) → (∀ z, z < j → eqIn s (v i) (v z) = false) → EJ θ x 36 [(0, .ref pt), (1, .ref tb), (2, .int s), (3, .int (nI i)), (4, .int (nI j))] [] p' 0 0 := by
          intro g'
          induction g' with
          | zero => intro j lvj p' f' hg'; omega
          | succ g' ih' =>
            intro j lvj p' f' hg' hj k1 k2 k3 k4 k5 k6
            have hl' := hL p' k5
            have hr' := hR p' k5
            refine e_iload hX iX3_divide_36 rfl ?_
            refine e_iload_n hX 3 iX3_divide_38 rfl rfl ?_
            refine e_icmp_ge hX iX3_divide_39 (fun c39 => ?_) (fun c39 => ?_)
            · have hji : j = i := by
                rcases Nat.lt_or_ge j i with h | h
                · exact absurd c39 (nI_ge h (by omega))
                · omega
              subst hji
              refine e_iinc hX iX3_divide_95 rfl (by first | exact nI_inc _ | rfl) (by decide) ?_
              refine e_goto hX iX3_divide_98 ?_
              refine e_loc [0, 1, 2, 3] ?_
              refine ih (j + 1) p' (by omega) (by omega) ⟨k1, ⟨f', k2, fun z hz => ?_⟩, k5⟩
              by_cases e : z = j
              · subst e; rw [k4, fst_first.mpr k6]
              · exact k3 z (by omega)
            · have hji : j < i := by
                rcases Nat.lt_or_ge j i with h | h
                · exact h
                · exact absurd (nI_le h (by omega)) c39
              have fj := fst_s s v j
              refine e_aload_n hX 0 iX3_divide_42 rfl rfl ?_
              refine e_get hX iX3_divide_43 k1 rfl ?_
              refine e_iload hX iX3_divide_46 rfl ?_
              refine e_iald hX j iX3_divide_48 k2 rfl (by omega) (by decide) ?_
              rw [k3 j hji]
              refine e_iload hX iX3_divide_49 rfl ?_
              refine e_icmp_ne hX iX3_divide_51 (fun c51 => ?_) (fun c51 => ?_)
              · have hne : fst s v j < j := by
                  rcases Nat.lt_or_ge (fst s v j) j with h | h
                  · exact h
                  · exact absurd (by rw [show fst s v j = j by omega]) c51
                refine e_iinc hX iX3_divide_89 rfl (by first | exact nI_inc _ | rfl) (by decide) ?_
                refine e_goto hX iX3_divide_92 ?_
                refine e_loc [0, 1, 2, 3, 4] ?_
                refine ih' (j + 1) lvj p' f' (by omega) (by omega) k1 k2 k3 k4 k5 (fun z hz => ?_)
                by_cases e : z = j
                · subst e
                  cases c : eqIn s (v i) (v z)
                  · rfl
                  · have := k6 _ hne
                    rw [eqIn_trans c fj.2.1] at this; cases this
                · exact k6 z (by omega)
              · obtain ⟨wi, idi, hri⟩ := hr' i hin
                obtain ⟨wj, idj, hrj⟩ := hr' j (by omega)
                refine e_aload_n hX 1 iX3_divide_54 rfl rfl ?_
                refine e_iload_n hX 3 iX3_divide_55 rfl rfl ?_
                refine e_callV hX iX3_divide_56 (lst.hp hl') (c_lget (i := i) htr hl' hin) rfl rfl ⟨by decide, by decide, by decide, by decide⟩ (Nat.le_of_ble_eq_true rfl) (fun _ _ h => h.elim) (fun v9 ph9 hv9 => ?_)
                obtain ⟨rfl, e9⟩ := hv9
                subst ph9
                refine e_castS hX iX3_divide_59 klRX3_34 (rowAt.hp hri) rfl ?_
                refine e_iload_n hX 2 iX3_divide_62 rfl rfl ?_
                refine e_aload_n hX 1 iX3_divide_63 rfl rfl ?_
                refine e_iload hX iX3_divide_64 rfl ?_
                refine e_callV hX iX3_divide_66 (lst.hp hl') (c_lget (i := j) htr hl' (by omega)) rfl rfl ⟨by decide, by decide, by decide, by decide⟩ (Nat.le_of_ble_eq_true rfl) (fun _ _ h => h.elim) (fun v9 ph9 hv9 => ?_)
                obtain ⟨rfl, e9⟩ := hv9
                subst ph9
                refine e_castS hX iX3_divide_69 klRX3_34 (rowAt.hp hrj) rfl ?_
                refine e_callV hX iX3_divide_72 hri.1 (c_isEqualIn htr hri hrj s) rfl rfl ⟨by decide, by decide, by decide, by decide⟩ (Nat.le_of_ble_eq_true rfl) (fun _ _ h => h.elim) (fun v9 ph9 hv9 => ?_)
                obtain ⟨rfl, e9⟩ := hv9
                subst ph9
                refine e_if_eq hX iX3_divide_75 (fun c75 => ?_) (fun c75 => ?_)
                · refine e_iinc hX iX3_divide_89 rfl (by first | exact nI_inc _ | rfl) (by decide) ?_
                  refine e_goto hX iX3_divide_92 ?_
                  refine e_loc [0, 1, 2, 3, 4] ?_
                  refine ih' (j + 1) lvj p' f' (by omega) (by omega) k1 k2 k3 k4 k5 (fun z hz => ?_)
                  by_cases e : z = j
                  · subst e; exact b2i_0.mp c75
                  · exact k6 z (by omega)
                · refine e_aload_n hX 0 iX3_divide_78 rfl rfl ?_
                  refine e_get hX iX3_divide_79 k1 rfl ?_
                  refine e_iload_n hX 3 iX3_divide_82 rfl rfl ?_
                  refine e_iload hX iX3_divide_83 rfl ?_
                  refine e_iast hX i iX3_divide_85 k2 rfl (by omega) (by decide) ?_
                  refine e_goto hX iX3_divide_86 ?_
                  refine e_iinc hX iX3_divide_95 rfl (by first | exact nI_inc _ | rfl) (by decide) ?_
                  refine e_goto hX iX3_divide_98 ?_
                  refine e_loc [0, 1, 2, 3] ?_
                  refine ih (i + 1) _ (by omega) (by omega) ⟨e_up_o k1 hpf, ⟨upd f' i (nI j), e_up_s, fun z hz => ?_⟩, k5.up2 (Or.inl (Or.inr rfl))⟩
                  by_cases e : z = i
                  · subst e; rw [upd_s, fst_u (b2i_n0.mp c75) k6]
                  · rw [upd_n e]; exact k3 z (by omega)
        refine e_loc [0, 1, 2, 3, 4] ?_
        exact inner (i + 1) 0 [] _ (upd f i (nI i)) (by omega) (by omega) (e_up_o g1 hpf) e_up_s (fun z hz => by rw [upd_n (by omega)]; exact g3 z hz) upd_s (g4.up2 (Or.inl (Or.inr rfl))) (fun z hz => absurd hz (Nat.not_lt_zero z))
  refine e_aload_n hX 0 iX3_divide_0 rfl rfl ?_
  refine e_aload_n hX 1 iX3_divide_1 rfl rfl ?_
  refine e_callV hX iX3_divide_2 (lst.hp hl) (c_size htr hl) rfl rfl ⟨by decide, by decide, by decide, by decide⟩ (Nat.le_of_ble_eq_true rfl) (fun _ _ h => h.elim) (fun v9 ph9 hv9 => ?_)
  obtain ⟨rfl, e9⟩ := hv9
  subst ph9
  refine e_aload_n hX 0 iX3_divide_5 rfl rfl ?_
  refine e_get hX iX3_divide_6 h1 rfl ?_
  refine e_lenI hX iX3_divide_9 h2 ?_
  refine e_min hX iX3_divide_10 mlRX3_21 ⟨by decide, Nat.le_of_ble_eq_true rfl, by decide, by decide⟩ ?_
  rw [show (if nI 12 < nI n then nI 12 else nI n) = nI n from if_neg (nI_nlt hn (by decide))]
  refine e_put hX iX3_divide_13 h1 rfl (Nat.le_of_ble_eq_true rfl) rfl rfl ?_
  refine e_iconst (v := 0) hX iX3_divide_16 (by decide) ?_
  refine e_istore_n hX 3 iX3_divide_17 rfl (by decide) ?_
  refine e_loc [0, 1, 2, 3] ?_
  refine outer (n + 1) 0 _ (by omega) (by omega) ⟨e_up_s, ⟨f0, e_up_o h2 (fun e => hpf e.symm), fun z hz => absurd hz (Nat.not_lt_zero z)⟩, kept.refl.up2 (Or.inl (Or.inl rfl))⟩
