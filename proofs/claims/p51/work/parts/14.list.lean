theorem e_up_up {ph : e_PH} {q : Nat} {a b : va_E} : e_up (e_up ph q a) q b = e_up ph q b := by
  funext z
  unfold e_up
  by_cases h : z = q
  · rw [if_pos h, if_pos h]
  · rw [if_neg h, if_neg h, if_neg h]
theorem e_ne {ph : e_PH} {a q : Nat} {c : va_E} (h : ph a = some c) (hq : ph q = none) : a ≠ q := fun e => by rw [e, hq] at h; cases h
theorem e_ne2 {ph : e_PH} {a b : Nat} {c d : va_E} (h : ph a = some c) (h2 : ph b = some d) (hn : c ≠ d) : a ≠ b := fun e => hn (Option.some.inj (h.symm.trans ((congrArg ph e).trans h2)))
theorem e_OR {θ : e_T} {ci N : Nat} {fs : List Value} {f : Nat → Option Nat} : e_O ci fs ≠ e_R θ N f := fun h => by unfold e_O e_R at h; cases h
theorem e_OO {ci cj : Nat} {fs gs : List Value} (h : ci ≠ cj) : e_O ci fs ≠ e_O cj gs := fun e => by unfold e_O at e; cases e; exact h rfl
theorem e_RI {θ : e_T} {N M : Nat} {f : Nat → Option Nat} {g : Nat → Int32} : e_R θ N f ≠ e_I θ M g := fun h => by unfold e_R e_I at h; injection h with h; injection h with _ h; injection h with _ h; cases h
theorem e_up_o {ph : e_PH} {a b : Nat} {e c : va_E} (h : ph b = some c) (hn : b ≠ a) : e_up ph a e b = some c := (e_up_n hn).trans h
/-- what two heaps have in common: all but S -/
def kept (ph p : e_PH) (S : Nat → Prop) : Prop := ∀ b c, ph b = some c → ¬ S b → p b = some c
theorem kept.refl {ph : e_PH} {S : Nat → Prop} : kept ph ph S := fun _ _ h _ => h
theorem kept.trans {ph p p2 : e_PH} {S : Nat → Prop} (h1 : kept ph p S) (h2 : kept p p2 S) : kept ph p2 S := fun b c h hn => h2 b c (h1 b c h hn) hn
theorem kept.mono {ph p : e_PH} {S S2 : Nat → Prop} (h : kept ph p S) (hs : ∀ b, S b → S2 b) : kept ph p S2 := fun b c h1 hn => h b c h1 (fun q => hn (hs b q))
theorem kept.up {ph : e_PH} {a : Nat} {e : va_E} {S : Nat → Prop} (h : S a ∨ ph a = none) : kept ph (e_up ph a e) S := fun b c h1 hn => by
  rw [e_up_n (fun e1 => by subst e1; rcases h with h | h; exact hn h; rw [h] at h1; cases h1)]; exact h1
theorem kept.up2 {ph p : e_PH} {a : Nat} {e : va_E} {S : Nat → Prop} (h0 : kept ph p S) (h : S a ∨ ph a = none) : kept ph (e_up p a e) S := fun b c h1 hn => by
  rw [e_up_n (fun e1 => by subst e1; rcases h with h | h; exact hn h; rw [h] at h1; cases h1)]; exact h0 b c h1 hn
/-- what a list's own cells are -/
def lS (θ : e_T) (ph : e_PH) (a ed : Nat) : Nat → Prop := fun b => b = a ∨ (b = ed ∧ ∃ N f, ph b = some (e_R θ N f))
theorem lS.no {θ : e_T} {ph : e_PH} {a ed b : Nat} {c : va_E} (h : ph b = some c) (h1 : b ≠ a) (h2 : ∀ N f, c ≠ e_R θ N f) : ¬ lS θ ph a ed b := fun q => by
  rcases q with q | ⟨-, N, f, q⟩
  · exact h1 q
  · exact h2 N f (Option.some.inj (h.symm.trans q))
/-- a list at a, its row at ed, n elements r -/
def lst (θ : e_T) (ph : e_PH) (a ed n : Nat) (r : Nat → Nat) : Prop := ∃ m : Int32, ph a = some (e_O 1 [.int m, .ref ed, .int (nI n)]) ∧ n ≤ 15 ∧ ((n = 0 ∧ ed = θ.2.2.2.2) ∨ ∃ N f, ph ed = some (e_R θ N f) ∧ n ≤ N ∧ (N = 10 ∨ N = 15) ∧ ∀ i, i < n → f i = some (r i))
theorem lst.keep {θ : e_T} {ph p : e_PH} {a ed n : Nat} {r : Nat → Nat} {S : Nat → Prop} (h : lst θ ph a ed n r) (hk : kept ph p S) (h1 : ¬ S a) (h2 : ph ed ≠ none → ¬ S ed) : lst θ p a ed n r := by
  obtain ⟨m, e1, e2, e3⟩ := h
  refine ⟨m, hk _ _ e1 h1, e2, ?_⟩
  rcases e3 with e3 | ⟨N, f, e3, e4⟩
  · exact Or.inl e3
  · exact Or.inr ⟨N, f, hk _ _ e3 (h2 (by rw [e3]; exact fun q => by cases q)), e4⟩
theorem lst.congr {θ : e_T} {ph : e_PH} {a ed n : Nat} {r r' : Nat → Nat} (h : lst θ ph a ed n r) (he : ∀ i, i < n → r' i = r i) : lst θ ph a ed n r' := by
  obtain ⟨m, e1, e2, e3⟩ := h
  refine ⟨m, e1, e2, ?_⟩
  rcases e3 with e3 | ⟨N, f, e3, e4, e5, e6⟩
  · exact Or.inl e3
  · exact Or.inr ⟨N, f, e3, e4, e5, fun i hi => by rw [e6 i hi, he i hi]⟩
theorem lst.le {θ : e_T} {ph : e_PH} {a ed n : Nat} {r : Nat → Nat} (h : lst θ ph a ed n r) : n ≤ 15 := h.choose_spec.2.1
theorem c_size {l : Launch} (htr : l.stackTraces = false) {θ : e_T} {ph : e_PH} {a ed n : Nat} {r : Nat → Nat} (hl : lst θ ph a ed n r) : MC yJx4a65c_size_8abf5 cJx4a65c_size_8abf5 1 (some .int) 0 0 0 l θ [.ref a] ph (fun v p => v = some (.int (nI n)) ∧ p = ph) (fun _ _ => False) := by
  obtain ⟨m, h1, -⟩ := hl
  refine MC.of htr (by decide) (Nat.le_of_ble_eq_true rfl) ?_
  intro x hX hQ hT
  refine e_aload_n hX 0 iJx4a65c_size_8abf5_0 rfl rfl ?_
  refine e_get hX iJx4a65c_size_8abf5_1 (by assumption) rfl ?_
  exact e_iret hX hQ iJx4a65c_size_8abf5_4 rfl (by decide) (by decide) ⟨rfl, rfl⟩
theorem c_isEmpty {l : Launch} (htr : l.stackTraces = false) {θ : e_T} {ph : e_PH} {a ed n : Nat} {r : Nat → Nat} (hl : lst θ ph a ed n r) : MC yJx4a65c_isEmpty_aae02 cJx4a65c_isEmpty_aae02 1 (some .boolean) 0 0 0 l θ [.ref a] ph (fun v p => v = some (.int (b2i (decide (n = 0)))) ∧ p = ph) (fun _ _ => False) := by
  obtain ⟨m, h1, h2, -⟩ := hl
  refine MC.of htr (by decide) (Nat.le_of_ble_eq_true rfl) ?_
  intro x hX hQ hT
  refine e_aload_n hX 0 iJx4a65c_isEmpty_aae02_0 rfl rfl ?_
  refine e_get hX iJx4a65c_isEmpty_aae02_1 (by assumption) rfl ?_
  refine e_if_ne hX iJx4a65c_isEmpty_aae02_4 (fun c4 => ?_) (fun c4 => ?_)
  · refine e_iconst (v := 0) hX iJx4a65c_isEmpty_aae02_11 (by decide) ?_
    have hn : ¬ n = 0 := fun e => c4 (by rw [e]; rfl)
    exact e_zret hX hQ iJx4a65c_isEmpty_aae02_12 rfl nar_0 (by decide) (by decide) ⟨by rw [decide_eq_false hn]; rfl, rfl⟩
  · refine e_iconst (v := 1) hX iJx4a65c_isEmpty_aae02_7 (by decide) ?_
    refine e_goto hX iJx4a65c_isEmpty_aae02_8 ?_
    have hn : n = 0 := by
      rcases Nat.eq_zero_or_pos n with h | h
      · exact h
      · exact absurd c4 (nI_ne0 h (by omega))
    exact e_zret hX hQ iJx4a65c_isEmpty_aae02_12 rfl nar_1 (by decide) (by decide) ⟨by rw [decide_eq_true hn]; rfl, rfl⟩
theorem c_chk3 {l : Launch} (htr : l.stackTraces = false) {θ : e_T} {ph : e_PH} {i n : Nat} (hi : i < n) (hn : n < 2 ^ 31) : MC yJ3_checkIndex_8e157 cJ3_checkIndex_8e157 3 (some .int) 0 0 0 l θ [.int (nI i), .int (nI n), .null] ph (fun v p => v = some (.int (nI i)) ∧ p = ph) (fun _ _ => False) := by
  refine MC.of htr (by decide) (Nat.le_of_ble_eq_true rfl) ?_
  intro x hX hQ hT
  refine e_iload_n hX 0 iJ3_checkIndex_8e157_0 rfl rfl ?_
  refine e_if_lt hX iJ3_checkIndex_8e157_1 (fun c1 => ?_) (fun c1 => ?_)
  · exact absurd c1 (nI_pos (by omega))
  · refine e_iload_n hX 0 iJ3_checkIndex_8e157_4 rfl rfl ?_
    refine e_iload_n hX 1 iJ3_checkIndex_8e157_5 rfl rfl ?_
    refine e_icmp_lt hX iJ3_checkIndex_8e157_6 (fun c6 => ?_) (fun c6 => ?_)
    · refine e_iload_n hX 0 iJ3_checkIndex_8e157_16 rfl rfl ?_
      exact e_iret hX hQ iJ3_checkIndex_8e157_17 rfl (by decide) (by decide) ⟨rfl, rfl⟩
    · exact absurd (nI_lt hi hn) c6
theorem c_chk {l : Launch} (htr : l.stackTraces = false) {θ : e_T} {ph : e_PH} {i n : Nat} (hi : i < n) (hn : n < 2 ^ 31) : MC yJ15_checkIndex_7cf53 cJ15_checkIndex_7cf53 2 (some .int) 1 0 0 l θ [.int (nI i), .int (nI n)] ph (fun v p => v = some (.int (nI i)) ∧ p = ph) (fun _ _ => False) := by
  refine MC.of htr (by decide) (Nat.le_of_ble_eq_true rfl) ?_
  intro x hX hQ hT
  refine e_iload_n hX 0 iJ15_checkIndex_7cf53_0 rfl rfl ?_
  refine e_iload_n hX 1 iJ15_checkIndex_7cf53_1 rfl rfl ?_
  refine e_null hX iJ15_checkIndex_7cf53_2 ?_
  refine e_callS hX iJ15_checkIndex_7cf53_3 (c_chk3 htr hi hn) rfl rfl ⟨by decide, by decide, by decide, by decide⟩ (Nat.le_of_ble_eq_true rfl) (fun _ _ h => h.elim) (fun v9 ph9 hv9 => ?_)
  obtain ⟨rfl, rfl⟩ := hv9
  exact e_iret hX hQ iJ15_checkIndex_7cf53_6 rfl (by decide) (by decide) ⟨rfl, rfl⟩
theorem c_eld {l : Launch} (htr : l.stackTraces = false) {θ : e_T} {ph : e_PH} {a ed n : Nat} {r : Nat → Nat} (hl : lst θ ph a ed n r) {i : Nat} (hi : i < n) : MC yJx4a65c_elementData_915e3 cJx4a65c_elementData_915e3 2 (some (.object "java/lang/Object")) 0 0 0 l θ [.ref a, .int (nI i)] ph (fun v p => v = some (.ref (r i)) ∧ p = ph) (fun _ _ => False) := by
  obtain ⟨m, h1, h2, h3⟩ := hl
  rcases h3 with ⟨h3, -⟩ | ⟨N, f, h3, h4, h5, h6⟩
  · omega
  · refine MC.of htr (by decide) (Nat.le_of_ble_eq_true rfl) ?_
    intro x hX hQ hT
    refine e_aload_n hX 0 iJx4a65c_elementData_915e3_0 rfl rfl ?_
    refine e_get hX iJx4a65c_elementData_915e3_1 (by assumption) rfl ?_
    refine e_iload_n hX 1 iJx4a65c_elementData_915e3_4 rfl rfl ?_
    refine e_aald hX i iJx4a65c_elementData_915e3_5 h3 rfl (by omega) (by rcases h5 with h | h <;> rw [h] <;> decide) (h6 i hi) ?_
    exact e_aret hX hQ iJx4a65c_elementData_915e3_6 rfl (Or.inl ⟨_, rfl⟩) (by decide) (by decide) ⟨rfl, rfl⟩
theorem c_lget {l : Launch} (htr : l.stackTraces = false) {θ : e_T} {ph : e_PH} {a ed n : Nat} {r : Nat → Nat} (hl : lst θ ph a ed n r) {i : Nat} (hi : i < n) : MC yJx4a65c_get_915e3 cJx4a65c_get_915e3 2 (some (.object "java/lang/Object")) 2 0 0 l θ [.ref a, .int (nI i)] ph (fun v p => v = some (.ref (r i)) ∧ p = ph) (fun _ _ => False) := by
  have hl0 := hl
  obtain ⟨m, h1, h2, h3⟩ := hl
  refine MC.of htr (by decide) (Nat.le_of_ble_eq_true rfl) ?_
  intro x hX hQ hT
  refine e_iload_n hX 1 iJx4a65c_get_915e3_0 rfl rfl ?_
  refine e_aload_n hX 0 iJx4a65c_get_915e3_1 rfl rfl ?_
  refine e_get hX iJx4a65c_get_915e3_2 (by assumption) rfl ?_
  refine e_callS hX iJx4a65c_get_915e3_5 (c_chk htr hi (by omega)) rfl rfl ⟨by decide, by decide, by decide, by decide⟩ (Nat.le_of_ble_eq_true rfl) (fun _ _ h => h.elim) (fun v9 ph9 hv9 => ?_)
  obtain ⟨rfl, rfl⟩ := hv9
  refine e_pop hX iJx4a65c_get_915e3_8 rfl ?_
  refine e_aload_n hX 0 iJx4a65c_get_915e3_9 rfl rfl ?_
  refine e_iload_n hX 1 iJx4a65c_get_915e3_10 rfl rfl ?_
  refine e_callV hX iJx4a65c_get_915e3_11 h1 (c_eld htr hl0 hi) rfl rfl ⟨by decide, by decide, by decide, by decide⟩ (Nat.le_of_ble_eq_true rfl) (fun _ _ h => h.elim) (fun v9 ph9 hv9 => ?_)
  obtain ⟨rfl, rfl⟩ := hv9
  exact e_aret hX hQ iJx4a65c_get_915e3_14 rfl (Or.inl ⟨_, rfl⟩) (by decide) (by decide) ⟨rfl, rfl⟩
theorem c_newLen {l : Launch} (htr : l.stackTraces = false) {θ : e_T} {ph : e_PH} : MC yJ8_newLength_cabcc cJ8_newLength_cabcc 4 (some .int) 0 0 0 l θ [.int 10, .int 1, .int 5] ph (fun v p => v = some (.int 15) ∧ p = ph) (fun _ _ => False) := by
  refine MC.of htr (by decide) (Nat.le_of_ble_eq_true rfl) ?_
  intro x hX hQ hT
  refine e_iload_n hX 0 iJ8_newLength_cabcc_0 rfl rfl ?_
  refine e_iload_n hX 1 iJ8_newLength_cabcc_1 rfl rfl ?_
  refine e_iload_n hX 2 iJ8_newLength_cabcc_2 rfl rfl ?_
  refine e_max hX iJ8_newLength_cabcc_3 mlRJ8_194 ⟨by decide, Nat.le_of_ble_eq_true rfl, by decide, by decide⟩ ?_
  rw [show (if (1 : Int32) < 5 then (5 : Int32) else 1) = 5 from by decide]
  refine e_iadd hX iJ8_newLength_cabcc_6 ?_
  rw [show (10 : Int32) + 5 = 15 from by decide]
  refine e_istore_n hX 3 iJ8_newLength_cabcc_7 rfl (by decide) ?_
  refine e_iconst (v := 0) hX iJ8_newLength_cabcc_8 (by decide) ?_
  refine e_iload_n hX 3 iJ8_newLength_cabcc_9 rfl rfl ?_
  refine e_icmp_ge hX iJ8_newLength_cabcc_10 (fun c10 => ?_) (fun c10 => ?_)
  · exact absurd c10 (by decide)
  · refine e_iload_n hX 3 iJ8_newLength_cabcc_13 rfl rfl ?_
    refine e_ldc hX iJ8_newLength_cabcc_14 kcRJ8_200 ?_
    refine e_icmp_gt hX iJ8_newLength_cabcc_16 (fun c16 => ?_) (fun c16 => ?_)
    · exact absurd c16 (by decide)
    · refine e_iload_n hX 3 iJ8_newLength_cabcc_19 rfl rfl ?_
      exact e_iret hX hQ iJ8_newLength_cabcc_20 rfl (by decide) (by decide) ⟨rfl, rfl⟩
theorem c_copyOf3 {l : Launch} (htr : l.stackTraces = false) {θ : e_T} {ph : e_PH} {a : Nat} {f : Nat → Option Nat} (h1 : ph a = some (e_R θ 10 f)) (hob : ∀ i, i < 10 → ∀ y, f i = some y → e_obs ph y) : MC yJ7_copyOf_6403c cJ7_copyOf_6403c 4 (some (.array (.object "java/lang/Object"))) 0 1 15 l θ [.ref a, .int 15, .ref (θ.2.2.2.1 1)] ph (fun v p => ∃ q, v = some (.ref q) ∧ ph q = none ∧ p = e_up ph q (e_R θ 15 (va_cpy f (fun _ => none) 0 0 10))) (fun _ _ => False) := by
  refine MC.of htr (by decide) (Nat.le_of_ble_eq_true rfl) ?_
  intro x hX hQ hT
  refine e_aload_n hX 2 iJ7_copyOf_6403c_0 rfl rfl ?_
  refine e_ldcM hX iJ7_copyOf_6403c_1 klRJ7_110 ?_
  refine e_acmp_ne hX iJ7_copyOf_6403c_3 (fun c3 => absurd rfl c3) (fun c3 => ?_)
  refine e_iload_n hX 1 iJ7_copyOf_6403c_6 rfl rfl ?_
  refine e_newR hX 15 iJ7_copyOf_6403c_7 klRJ7_2 (by decide) (by decide) (by decide) (by decide) (fun q hq => ?_)
  have ha : a ≠ q := e_ne h1 hq
  have h1' : e_up ph q (e_R θ 15 (fun _ => none)) a = some (e_R θ 10 f) := e_up_o h1 ha
  refine e_goto hX iJ7_copyOf_6403c_10 ?_
  refine e_astore_n hX 3 iJ7_copyOf_6403c_24 rfl (by decide) ?_
  refine e_aload_n hX 0 iJ7_copyOf_6403c_25 rfl rfl ?_
  refine e_iconst (v := 0) hX iJ7_copyOf_6403c_26 (by decide) ?_
  refine e_aload_n hX 3 iJ7_copyOf_6403c_27 rfl rfl ?_
  refine e_iconst (v := 0) hX iJ7_copyOf_6403c_28 (by decide) ?_
  refine e_aload_n hX 0 iJ7_copyOf_6403c_29 rfl rfl ?_
  refine e_lenR hX iJ7_copyOf_6403c_30 h1' ?_
  refine e_iload_n hX 1 iJ7_copyOf_6403c_31 rfl rfl ?_
  refine e_min hX iJ7_copyOf_6403c_32 mlRJ7_304 ⟨by decide, Nat.le_of_ble_eq_true rfl, by decide, by decide⟩ ?_
  rw [show (if (15 : Int32) < nI 10 then (15 : Int32) else nI 10) = nI 10 from by decide]
  refine e_copy hX 0 0 10 iJ7_copyOf_6403c_35 mlRJ7_150 h1' e_up_s rfl rfl rfl (by decide) (by decide) (by decide) (fun i hi y hy => ?_) ⟨by decide, Nat.le_of_ble_eq_true rfl⟩ ?_
  · rw [Nat.zero_add] at hy
    obtain ⟨ci, fs, r, g1, g2⟩ := hob i hi y hy
    exact ⟨ci, fs, r, e_up_o g1 (e_ne g1 hq), g2⟩
  · rw [e_up_up]
    refine e_aload_n hX 3 iJ7_copyOf_6403c_38 rfl rfl ?_
    exact e_aret hX hQ iJ7_copyOf_6403c_39 rfl (Or.inr ⟨_, rfl⟩) (by decide) (by decide) ⟨q, rfl, hq, rfl⟩
theorem c_copyOf {l : Launch} (htr : l.stackTraces = false) {θ : e_T} {ph : e_PH} {a : Nat} {f : Nat → Option Nat} (h1 : ph a = some (e_R θ 10 f)) (hob : ∀ i, i < 10 → ∀ y, f i = some y → e_obs ph y) : MC yJ7_copyOf_1904c cJ7_copyOf_1904c 2 (some (.array (.object "java/lang/Object"))) 1 1 15 l θ [.ref a, .int 15] ph (fun v p => ∃ q, v = some (.ref q) ∧ ph q = none ∧ p = e_up ph q (e_R θ 15 (va_cpy f (fun _ => none) 0 0 10))) (fun _ _ => False) := by
  refine MC.of htr (by decide) (Nat.le_of_ble_eq_true rfl) ?_
  intro x hX hQ hT
  refine e_aload_n hX 0 iJ7_copyOf_1904c_0 rfl rfl ?_
  refine e_iload_n hX 1 iJ7_copyOf_1904c_1 rfl rfl ?_
  refine e_aload_n hX 0 iJ7_copyOf_1904c_2 rfl rfl ?_
  refine e_getC hX iJ7_copyOf_1904c_3 mlRJ7_86 w_gc_d w_gc_s w_gc_i w_gc_n h1 ⟨by decide, Nat.le_of_ble_eq_true rfl⟩ ?_
  refine e_callS hX iJ7_copyOf_1904c_6 (c_copyOf3 htr h1 hob) rfl rfl ⟨by decide, by decide, by decide, by decide⟩ (Nat.le_of_ble_eq_true rfl) (fun _ _ h => h.elim) (fun v9 ph9 hv9 => ?_)
  obtain ⟨q9,rfl,hq9,rfl⟩ := hv9
  exact e_aret hX hQ iJ7_copyOf_1904c_9 rfl (Or.inr ⟨_, rfl⟩) (by decide) (by decide) ⟨q9, rfl, hq9, rfl⟩
/-- a full row of ten, or none yet: a new one -/
theorem c_growI {l : Launch} (htr : l.stackTraces = false) {θ : e_T} {ph : e_PH} {a ed n : Nat} {r : Nat → Nat} {m : Int32} (h1 : ph a = some (e_O 1 [.int m, .ref ed, .int (nI n)])) (h : (n = 0 ∧ ed = θ.2.2.2.2) ∨ (n = 10 ∧ ∃ f, ph ed = some (e_R θ 10 f) ∧ ∀ i, i < 10 → f i = some (r i))) (hob : ∀ i, i < n → e_obs ph (r i)) : MC yJx4a65c_grow_92f84 cJx4a65c_grow_92f84 4 (some (.array (.object "java/lang/Object"))) 2 1 15 l θ [.ref a, .int (nI (n + 1))] ph (fun v p => ∃ q N f, v = some (.ref q) ∧ ph q = none ∧ p = e_up (e_up ph q (e_R θ N f)) a (e_O 1 [.int m, .ref q, .int (nI n)]) ∧ n < N ∧ (N = 10 ∨ N = 15) ∧ ∀ i, i < n → f i = some (r i)) (fun _ _ => False) := by
  refine MC.of htr (by decide) (Nat.le_of_ble_eq_true rfl) ?_
  intro x hX hQ hT
  rcases h with ⟨rfl, rfl⟩ | ⟨rfl, f, h2, h3⟩
  · refine e_aload_n hX 0 iJx4a65c_grow_92f84_0 rfl rfl ?_
    refine e_get hX iJx4a65c_grow_92f84_1 (by assumption) rfl ?_
    refine e_len0 hX iJx4a65c_grow_92f84_4 ?_
    refine e_istore_n hX 2 iJx4a65c_grow_92f84_5 rfl (by decide) ?_
    refine e_iload_n hX 2 iJx4a65c_grow_92f84_6 rfl rfl ?_
    refine e_if_gt hX iJx4a65c_grow_92f84_7 (fun c7 => ?_) (fun c7 => ?_)
    · exact absurd c7 (by decide)
    · refine e_aload_n hX 0 iJx4a65c_grow_92f84_10 rfl rfl ?_
      refine e_get hX iJx4a65c_grow_92f84_11 (by assumption) rfl ?_
      refine e_gets hX iJx4a65c_grow_92f84_14 fsRJx4a65c_39 ?_
      refine e_acmp_eq hX iJx4a65c_grow_92f84_17 (fun c17 => ?_) (fun c17 => absurd rfl c17)
      refine e_aload_n hX 0 iJx4a65c_grow_92f84_45 rfl rfl ?_
      refine e_bipush (v := 10) hX iJx4a65c_grow_92f84_46 (by decide) ?_
      refine e_iload_n hX 1 iJx4a65c_grow_92f84_48 rfl rfl ?_
      refine e_max hX iJx4a65c_grow_92f84_49 mlRJx4a65c_79 ⟨by decide, Nat.le_of_ble_eq_true rfl, by decide, by decide⟩ ?_
      rw [show (if (10 : Int32) < nI (0 + 1) then nI (0 + 1) else (10 : Int32)) = nI 10 from by decide]
      refine e_newR hX 10 iJx4a65c_grow_92f84_52 klRJx4a65c_7 rfl (by decide) (by decide) (by decide) (fun q hq => ?_)
      have ha : a ≠ q := e_ne h1 hq
      refine e_dup_x1 hX iJx4a65c_grow_92f84_55 rfl rfl ?_
      refine e_put hX iJx4a65c_grow_92f84_56 (e_up_o h1 ha) rfl (Nat.le_of_ble_eq_true rfl) rfl rfl ?_
      exact e_aret hX hQ iJx4a65c_grow_92f84_59 rfl (Or.inr ⟨_, rfl⟩) (by decide) (by decide) ⟨q, 10, _, rfl, hq, rfl, by decide, Or.inl rfl, fun i hi => absurd hi (Nat.not_lt_zero i)⟩
  · refine e_aload_n hX 0 iJx4a65c_grow_92f84_0 rfl rfl ?_
    refine e_get hX iJx4a65c_grow_92f84_1 (by assumption) rfl ?_
    refine e_lenR hX iJx4a65c_grow_92f84_4 h2 ?_
    refine e_istore_n hX 2 iJx4a65c_grow_92f84_5 rfl (by decide) ?_
    refine e_iload_n hX 2 iJx4a65c_grow_92f84_6 rfl rfl ?_
    refine e_if_gt hX iJx4a65c_grow_92f84_7 (fun c7 => ?_) (fun c7 => ?_)
    · refine e_iload_n hX 2 iJx4a65c_grow_92f84_20 rfl rfl ?_
      refine e_iload_n hX 1 iJx4a65c_grow_92f84_21 rfl rfl ?_
      refine e_iload_n hX 2 iJx4a65c_grow_92f84_22 rfl rfl ?_
      refine e_isub hX iJx4a65c_grow_92f84_23 ?_
      refine e_iload_n hX 2 iJx4a65c_grow_92f84_24 rfl rfl ?_
      refine e_iconst (v := 1) hX iJx4a65c_grow_92f84_25 (by decide) ?_
      refine e_ishr hX iJx4a65c_grow_92f84_26 ?_
      rw [show (nI (10 + 1) - nI 10 : Int32) = 1 from by decide, show (nI 10 >>> ((1 : Int32) &&& 31)) = 5 from by decide, show nI 10 = (10 : Int32) from by decide]
      refine e_callS hX iJx4a65c_grow_92f84_27 (c_newLen htr) rfl rfl ⟨by decide, by decide, by decide, by decide⟩ (Nat.le_of_ble_eq_true rfl) (fun _ _ h => h.elim) (fun v9 ph9 hv9 => ?_)
      obtain ⟨rfl, rfl⟩ := hv9
      refine e_istore_n hX 3 iJx4a65c_grow_92f84_30 rfl (by decide) ?_
      refine e_aload_n hX 0 iJx4a65c_grow_92f84_31 rfl rfl ?_
      refine e_aload_n hX 0 iJx4a65c_grow_92f84_32 rfl rfl ?_
      refine e_get hX iJx4a65c_grow_92f84_33 (by assumption) rfl ?_
      refine e_iload_n hX 3 iJx4a65c_grow_92f84_36 rfl rfl ?_
      refine e_callS hX iJx4a65c_grow_92f84_37 (c_copyOf htr h2 (fun i hi y hy => by rw [h3 i hi] at hy; cases hy; exact hob i hi)) rfl rfl ⟨by decide, by decide, by decide, by decide⟩ (Nat.le_of_ble_eq_true rfl) (fun _ _ h => h.elim) (fun v9 ph9 hv9 => ?_)
      obtain ⟨q9,rfl,hq9,rfl⟩ := hv9
      have ha : a ≠ q9 := e_ne h1 hq9
      refine e_dup_x1 hX iJx4a65c_grow_92f84_40 rfl rfl ?_
      refine e_put hX iJx4a65c_grow_92f84_41 (e_up_o h1 ha) rfl (Nat.le_of_ble_eq_true rfl) rfl rfl ?_
      exact e_aret hX hQ iJx4a65c_grow_92f84_44 rfl (Or.inr ⟨_, rfl⟩) (by decide) (by decide) ⟨q9, 15, _, rfl, hq9, rfl, by decide, Or.inr rfl, fun i hi => by rw [show va_cpy f (fun _ => none) 0 0 10 i = f (0 + (i - 0)) from pk_cpy_in (Nat.zero_le i) (by omega), Nat.zero_add, Nat.sub_zero]; exact h3 i hi⟩
    · exact absurd (show (0 : Int32) < nI 10 by decide) c7
theorem c_grow {l : Launch} (htr : l.stackTraces = false) {θ : e_T} {ph : e_PH} {a ed n : Nat} {r : Nat → Nat} {m : Int32} (h1 : ph a = some (e_O 1 [.int m, .ref ed, .int (nI n)])) (h : (n = 0 ∧ ed = θ.2.2.2.2) ∨ (n = 10 ∧ ∃ f, ph ed = some (e_R θ 10 f) ∧ ∀ i, i < 10 → f i = some (r i))) (hob : ∀ i, i < n → e_obs ph (r i)) : MC yJx4a65c_grow_d5877 cJx4a65c_grow_d5877 1 (some (.array (.object "java/lang/Object"))) 3 1 15 l θ [.ref a] ph (fun v p => ∃ q N f, v = some (.ref q) ∧ ph q = none ∧ p = e_up (e_up ph q (e_R θ N f)) a (e_O 1 [.int m, .ref q, .int (nI n)]) ∧ n < N ∧ (N = 10 ∨ N = 15) ∧ ∀ i, i < n → f i = some (r i)) (fun _ _ => False) := by
  refine MC.of htr (by decide) (Nat.le_of_ble_eq_true rfl) ?_
  intro x hX hQ hT
  refine e_aload_n hX 0 iJx4a65c_grow_d5877_0 rfl rfl ?_
  refine e_aload_n hX 0 iJx4a65c_grow_d5877_1 rfl rfl ?_
  refine e_get hX iJx4a65c_grow_d5877_2 (by assumption) rfl ?_
  refine e_iconst (v := 1) hX iJx4a65c_grow_d5877_5 (by decide) ?_
  refine e_iadd hX iJx4a65c_grow_d5877_6 ?_
  rw [nI_1]
  refine e_callV hX iJx4a65c_grow_d5877_7 h1 (c_growI htr h1 h hob) rfl rfl ⟨by decide, by decide, by decide, by decide⟩ (Nat.le_of_ble_eq_true rfl) (fun _ _ h => h.elim) (fun v9 ph9 hv9 => ?_)
  obtain ⟨q9,N9,f9,rfl,hq9,rfl,hN9,hN9',hf9⟩ := hv9
  exact e_aret hX hQ iJx4a65c_grow_d5877_10 rfl (Or.inr ⟨_, rfl⟩) (by decide) (by decide) ⟨q9, N9, f9, rfl, hq9, rfl, hN9, hN9', hf9⟩
theorem c_addP {l : Launch} (htr : l.stackTraces = false) {θ : e_T} {ph : e_PH} {a ed n e0 : Nat} {r : Nat → Nat} (hl : lst θ ph a ed n r) (hn : n < 15) (hob : ∀ i, i < n → e_obs ph (r i)) (he : e_obs ph e0) : MC yJx4a65c_add_72be8 cJx4a65c_add_72be8 4 none 4 1 15 l θ [.ref a, .ref e0, .ref ed, .int (nI n)] ph (fun v p => v = none ∧ ∃ ed', lst θ p a ed' (n + 1) (va_up r n e0) ∧ (ed' = ed ∨ ph ed' = none) ∧ kept ph p (lS θ ph a ed)) (fun _ _ => False) := by
  obtain ⟨m, h1, h2, h3⟩ := hl
  refine MC.of htr (by decide) (Nat.le_of_ble_eq_true rfl) ?_
  intro x hX hQ hT
  have tail : ∀ (p : e_PH) (q N : Nat) (f : Nat → Option Nat), p a = some (e_O 1 [.int m, .ref q, .int (nI n)]) → p q = some (e_R θ N f) → n < N → (N = 10 ∨ N = 15) → (∀ i, i < n → f i = some (r i)) → ((q = ed ∧ ∃ N f, ph q = some (e_R θ N f)) ∨ ph q = none) → kept ph p (lS θ ph a ed) → EJ θ x 11 [(0, .ref a), (1, .ref e0), (2, .ref q), (3, .int (nI n))] [] p 1 15 := by
    intro p q N f g1 g2 g3 g4 g5 g6 g7
    obtain ⟨ci, fs, rc, y1, y2, y3⟩ := he
    have hea : e0 = a ∨ p e0 = some (e_O ci fs) := by
      by_cases q1 : e0 = a
      · exact Or.inl q1
      · exact Or.inr (g7 _ _ y1 (lS.no y1 q1 (fun N f => e_OR)))
    have hep : ∃ ci fs rc, p e0 = some (e_O ci fs) ∧ e_cl[ci]? = some rc ∧ e_n (.castable rc.1 "java/lang/Object") := by
      rcases hea with q1 | q1
      · subst q1
        have : ci = 1 := by have := h1.symm.trans y1; unfold e_O at this; cases this; rfl
        subst this
        exact ⟨1, _, rc, g1, y2, y3⟩
      · exact ⟨ci, fs, rc, q1, y2, y3⟩
    obtain ⟨ci', fs', rc', z1, z2, z3⟩ := hep
    have hqa : a ≠ q := e_ne2 g1 g2 e_OR
    refine e_aload_n hX 2 iJx4a65c_add_72be8_11 rfl rfl ?_
    refine e_iload_n hX 3 iJx4a65c_add_72be8_12 rfl rfl ?_
    refine e_aload_n hX 1 iJx4a65c_add_72be8_13 rfl rfl ?_
    refine e_aast hX n iJx4a65c_add_72be8_14 g2 rfl g3 (by rcases g4 with h | h <;> rw [h] <;> decide) z1 z2 z3 ?_
    refine e_aload_n hX 0 iJx4a65c_add_72be8_15 rfl rfl ?_
    refine e_iload_n hX 3 iJx4a65c_add_72be8_16 rfl rfl ?_
    refine e_iconst (v := 1) hX iJx4a65c_add_72be8_17 (by decide) ?_
    refine e_iadd hX iJx4a65c_add_72be8_18 ?_
    rw [nI_1]
    refine e_put hX iJx4a65c_add_72be8_19 (e_up_o g1 hqa) rfl (Nat.le_of_ble_eq_true rfl) rfl rfl ?_
    refine e_vret hX hQ iJx4a65c_add_72be8_22 rfl (by decide) (by decide) ⟨rfl, q, ⟨m, e_up_s, by omega, Or.inr ⟨N, _, e_up_o e_up_s (Ne.symm hqa), g3, g4, fun i hi => ?_⟩⟩, g6.imp (fun z => z.1) id, ?_⟩
    · unfold va_up
      by_cases e : i = n
      · rw [if_pos e, if_pos e]
      · rw [if_neg e, if_neg e]; exact g5 i (by omega)
    · refine (g7.up2 ?_).up2 (Or.inl (Or.inl rfl))
      rcases g6 with g | g
      · exact Or.inl (Or.inr g)
      · exact Or.inr g
  rcases h3 with ⟨rfl, rfl⟩ | ⟨N, f, h3, h4, h5, h6⟩
  · refine e_iload_n hX 3 iJx4a65c_add_72be8_0 rfl rfl ?_
    refine e_aload_n hX 2 iJx4a65c_add_72be8_1 rfl rfl ?_
    refine e_len0 hX iJx4a65c_add_72be8_2 ?_
    refine e_icmp_ne hX iJx4a65c_add_72be8_3 (fun c3 => ?_) (fun c3 => ?_)
    · exact absurd rfl c3
    · refine e_aload_n hX 0 iJx4a65c_add_72be8_6 rfl rfl ?_
      refine e_callV hX iJx4a65c_add_72be8_7 h1 (c_grow htr h1 (Or.inl ⟨rfl, rfl⟩) hob) rfl rfl ⟨by decide, by decide, by decide, by decide⟩ (Nat.le_of_ble_eq_true rfl) (fun _ _ h => h.elim) (fun v9 ph9 hv9 => ?_)
      obtain ⟨q9,N9,f9,rfl,hq9,rfl,hN9,hN9',hf9⟩ := hv9
      have ha : a ≠ q9 := e_ne h1 hq9
      refine e_astore_n hX 2 iJx4a65c_add_72be8_10 rfl (by decide) ?_
      refine e_loc [0, 1, 2, 3] ?_
      exact tail _ q9 N9 f9 e_up_s (e_up_o e_up_s (Ne.symm ha)) hN9 hN9' hf9 (Or.inr hq9) ((kept.up (Or.inr hq9)).up2 (Or.inl (Or.inl rfl)))
  · refine e_iload_n hX 3 iJx4a65c_add_72be8_0 rfl rfl ?_
    refine e_aload_n hX 2 iJx4a65c_add_72be8_1 rfl rfl ?_
    refine e_lenR hX iJx4a65c_add_72be8_2 h3 ?_
    refine e_icmp_ne hX iJx4a65c_add_72be8_3 (fun c3 => ?_) (fun c3 => ?_)
    · have hlt : n < N := by
        rcases Nat.lt_or_ge n N with h | h
        · exact h
        · exact absurd (by rw [show n = N by omega]) c3
      refine e_wid (k' := 1) (n' := 15) (by decide) (by decide) ?_
      exact tail ph ed N f h1 h3 hlt h5 h6 (Or.inl ⟨rfl, N, f, h3⟩) kept.refl
    · have hnN : n = N := (nI_eq (by omega) (by rcases h5 with h | h <;> rw [h] <;> decide)).mp c3
      have hn10 : n = 10 := by rcases h5 with h | h <;> omega
      subst hn10
      subst hnN
      refine e_aload_n hX 0 iJx4a65c_add_72be8_6 rfl rfl ?_
      refine e_callV hX iJx4a65c_add_72be8_7 h1 (c_grow htr h1 (Or.inr ⟨rfl, f, h3, h6⟩) hob) rfl rfl ⟨by decide, by decide, by decide, by decide⟩ (Nat.le_of_ble_eq_true rfl) (fun _ _ h => h.elim) (fun v9 ph9 hv9 => ?_)
      obtain ⟨q9,N9,f9,rfl,hq9,rfl,hN9,hN9',hf9⟩ := hv9
      have ha : a ≠ q9 := e_ne h1 hq9
      refine e_astore_n hX 2 iJx4a65c_add_72be8_10 rfl (by decide) ?_
      refine e_loc [0, 1, 2, 3] ?_
      exact tail _ q9 N9 f9 e_up_s (e_up_o e_up_s (Ne.symm ha)) hN9 hN9' hf9 (Or.inr hq9) ((kept.up (Or.inr hq9)).up2 (Or.inl (Or.inl rfl)))
theorem c_add {l : Launch} (htr : l.stackTraces = false) {θ : e_T} {ph : e_PH} {a ed n e0 : Nat} {r : Nat → Nat} (hl : lst θ ph a ed n r) (hn : n < 15) (hob : ∀ i, i < n → e_obs ph (r i)) (he : e_obs ph e0) : MC yJx4a65c_add_9ea2d cJx4a65c_add_9ea2d 2 (some .boolean) 5 1 15 l θ [.ref a, .ref e0] ph (fun v p => v = some (.int 1) ∧ ∃ ed', lst θ p a ed' (n + 1) (va_up r n e0) ∧ (ed' = ed ∨ ph ed' = none) ∧ kept ph p (lS θ ph a ed)) (fun _ _ => False) := by
  obtain ⟨m, h1, h2, h3⟩ := hl
  refine MC.of htr (by decide) (Nat.le_of_ble_eq_true rfl) ?_
  intro x hX hQ hT
  refine e_aload_n hX 0 iJx4a65c_add_9ea2d_0 rfl rfl ?_
  refine e_dup hX iJx4a65c_add_9ea2d_1 rfl ?_
  refine e_get hX iJx4a65c_add_9ea2d_2 (by assumption) rfl ?_
  refine e_iconst (v := 1) hX iJx4a65c_add_9ea2d_5 (by decide) ?_
  refine e_iadd hX iJx4a65c_add_9ea2d_6 ?_
  refine e_put hX iJx4a65c_add_9ea2d_7 h1 rfl (Nat.le_of_ble_eq_true rfl) rfl rfl ?_
  have hob' : ∀ y, e_obs ph y → e_obs (e_up ph a (e_O 1 [.int (m + 1), .ref ed, .int (nI n)])) y := fun y hy => by
    obtain ⟨ci, fs, rc, g1, g2, g3⟩ := hy
    by_cases e : y = a
    · subst e
      have : ci = 1 := by have := h1.symm.trans g1; unfold e_O at this; cases this; rfl
      subst this
      exact ⟨1, _, rc, e_up_s, g2, g3⟩
    · exact ⟨ci, fs, rc, e_up_o g1 e, g2, g3⟩
  have hed : ∀ N f, ph ed = some (e_R θ N f) → ed ≠ a := fun N f h => Ne.symm (e_ne2 h1 h e_OR)
  have hl' : lst θ (e_up ph a (e_O 1 [.int (m + 1), .ref ed, .int (nI n)])) a ed n r := by
    refine ⟨m + 1, e_up_s, h2, ?_⟩
    rcases h3 with h3 | ⟨N, f, h3, h4⟩
    · exact Or.inl h3
    · exact Or.inr ⟨N, f, e_up_o h3 (hed N f h3), h4⟩
  refine e_aload_n hX 0 iJx4a65c_add_9ea2d_10 rfl rfl ?_
  refine e_aload_n hX 1 iJx4a65c_add_9ea2d_11 rfl rfl ?_
  refine e_aload_n hX 0 iJx4a65c_add_9ea2d_12 rfl rfl ?_
  refine e_get hX iJx4a65c_add_9ea2d_13 e_up_s rfl ?_
  refine e_aload_n hX 0 iJx4a65c_add_9ea2d_16 rfl rfl ?_
  refine e_get hX iJx4a65c_add_9ea2d_17 e_up_s rfl ?_
  refine e_callV hX iJx4a65c_add_9ea2d_20 e_up_s (c_addP htr hl' hn (fun i hi => hob' _ (hob i hi)) (hob' _ he)) rfl rfl ⟨by decide, by decide, by decide, by decide⟩ (Nat.le_of_ble_eq_true rfl) (fun _ _ h => h.elim) (fun v9 ph9 hv9 => ?_)
  obtain ⟨rfl,ed9,hl9,he9,hk9⟩ := hv9
  refine e_iconst (v := 1) hX iJx4a65c_add_9ea2d_23 (by decide) ?_
  refine e_zret hX hQ iJx4a65c_add_9ea2d_24 rfl nar_1 (by decide) (by decide) ⟨rfl, ed9, hl9, ?_, ?_⟩
  · rcases he9 with h | h
    · exact Or.inl h
    · by_cases e : ed9 = a
      · subst e; rw [e_up_s] at h; cases h
      · rw [e_up_n e] at h; exact Or.inr h
  · intro b c hb hn9
    have hba : b ≠ a := fun e => hn9 (Or.inl e)
    refine hk9 b c (e_up_o hb hba) (fun q => hn9 ?_)
    rcases q with q | ⟨q, N, f, g⟩
    · exact Or.inl q
    · rw [e_up_n hba] at g; exact Or.inr ⟨q, N, f, g⟩
theorem c_clear {l : Launch} (htr : l.stackTraces = false) {θ : e_T} {ph : e_PH} {a ed n : Nat} {r : Nat → Nat} (hl : lst θ ph a ed n r) : MC yJx4a65c_clear_da8c8 cJx4a65c_clear_da8c8 4 none 0 0 0 l θ [.ref a] ph (fun v p => v = none ∧ lst θ p a ed 0 r ∧ kept ph p (lS θ ph a ed)) (fun _ _ => False) := by
  obtain ⟨m, h1, h2, h3⟩ := hl
  refine MC.of htr (by decide) (Nat.le_of_ble_eq_true rfl) ?_
  intro x hX hQ hT
  have loop : ∀ (g i : Nat) (p : e_PH), n + 1 - i < g → i ≤ n → p a = some (e_O 1 [.int (m + 1), .ref ed, .int 0]) → (n = 0 ∧ ed = θ.2.2.2.2 ∨ ∃ N f, p ed = some (e_R θ N f) ∧ n ≤ N ∧ (N = 10 ∨ N = 15)) → kept ph p (lS θ ph a ed) → EJ θ x 27 [(0, .ref a), (1, .ref ed), (2, .int (nI n)), (3, .int (nI i))] [] p 0 0 := by
    intro g
    induction g with
    | zero => intro i p hg; omega
    | succ g ih =>
      intro i p hg hi g1 g2 g3
      refine e_iload_n hX 3 iJx4a65c_clear_da8c8_27 rfl rfl ?_
      refine e_iload_n hX 2 iJx4a65c_clear_da8c8_28 rfl rfl ?_
      refine e_icmp_ge hX iJx4a65c_clear_da8c8_29 (fun c29 => ?_) (fun c29 => ?_)
      · refine e_vret hX hQ iJx4a65c_clear_da8c8_42 rfl (by decide) (by decide) ⟨rfl, ⟨m + 1, g1, by omega, ?_⟩, g3⟩
        rcases g2 with ⟨g2, g4⟩ | ⟨N, f, g2, g4, g5⟩
        · exact Or.inl ⟨rfl, g4⟩
        · exact Or.inr ⟨N, f, g2, Nat.zero_le _, g5, fun i hi => absurd hi (Nat.not_lt_zero i)⟩
      · have hlt : i < n := by
          rcases Nat.lt_or_ge i n with h | h
          · exact h
          · exact absurd (nI_le h (by omega)) c29
        rcases g2 with ⟨g2, -⟩ | ⟨N, f, g2, g4, g5⟩
        · omega
        · refine e_aload_n hX 1 iJx4a65c_clear_da8c8_32 rfl rfl ?_
          refine e_iload_n hX 3 iJx4a65c_clear_da8c8_33 rfl rfl ?_
          refine e_null hX iJx4a65c_clear_da8c8_34 ?_
          refine e_aastN hX i iJx4a65c_clear_da8c8_35 g2 rfl (by omega) (by rcases g5 with h | h <;> rw [h] <;> decide) ?_
          refine e_iinc hX iJx4a65c_clear_da8c8_36 rfl (by first | exact nI_inc _ | rfl) (by decide) ?_
          refine e_goto hX iJx4a65c_clear_da8c8_39 ?_
          refine e_loc [0, 1, 2, 3] ?_
          refine ih (i + 1) _ (by omega) (by omega) (e_up_o g1 (e_ne2 g1 g2 e_OR)) (Or.inr ⟨N, _, e_up_s, g4, g5⟩) ?_
          refine g3.up2 ?_
          rcases h3 with ⟨h3, -⟩ | ⟨N0, f0, h3, -⟩
          · omega
          · exact Or.inl (Or.inr ⟨rfl, N0, f0, h3⟩)
  refine e_aload_n hX 0 iJx4a65c_clear_da8c8_0 rfl rfl ?_
  refine e_dup hX iJx4a65c_clear_da8c8_1 rfl ?_
  refine e_get hX iJx4a65c_clear_da8c8_2 (by assumption) rfl ?_
  refine e_iconst (v := 1) hX iJx4a65c_clear_da8c8_5 (by decide) ?_
  refine e_iadd hX iJx4a65c_clear_da8c8_6 ?_
  refine e_put hX iJx4a65c_clear_da8c8_7 h1 rfl (Nat.le_of_ble_eq_true rfl) rfl rfl ?_
  refine e_aload_n hX 0 iJx4a65c_clear_da8c8_10 rfl rfl ?_
  refine e_get hX iJx4a65c_clear_da8c8_11 e_up_s rfl ?_
  refine e_astore_n hX 1 iJx4a65c_clear_da8c8_14 rfl (by decide) ?_
  refine e_aload_n hX 0 iJx4a65c_clear_da8c8_15 rfl rfl ?_
  refine e_get hX iJx4a65c_clear_da8c8_16 e_up_s rfl ?_
  refine e_istore_n hX 2 iJx4a65c_clear_da8c8_19 rfl (by decide) ?_
  refine e_aload_n hX 0 iJx4a65c_clear_da8c8_20 rfl rfl ?_
  refine e_iconst (v := 0) hX iJx4a65c_clear_da8c8_21 (by decide) ?_
  refine e_dup_x1 hX iJx4a65c_clear_da8c8_22 rfl rfl ?_
  refine e_put hX iJx4a65c_clear_da8c8_23 e_up_s rfl (Nat.le_of_ble_eq_true rfl) rfl rfl ?_
  refine e_istore_n hX 3 iJx4a65c_clear_da8c8_26 rfl (by decide) ?_
  refine e_loc [0, 1, 2, 3] ?_
  rw [e_up_up]
  refine loop (n + 2) 0 _ (by omega) (Nat.zero_le _) e_up_s ?_ (kept.up (Or.inl (Or.inl rfl)))
  rcases h3 with h3 | ⟨N, f, h3, h4, h5, h6⟩
  · exact Or.inl h3
  · exact Or.inr ⟨N, f, e_up_o h3 (Ne.symm (e_ne2 h1 h3 e_OR)), h4, h5⟩
theorem c_fastRemove {l : Launch} (htr : l.stackTraces = false) {θ : e_T} {ph : e_PH} {a ed n : Nat} {r : Nat → Nat} (hl : lst θ ph a ed n r) {i : Nat} (hi : i < n) (hob : ∀ i, i < n → e_obs ph (r i)) : MC yJx4a65c_fastRemove_b59b0 cJx4a65c_fastRemove_b59b0 4 none 0 0 0 l θ [.ref a, .ref ed, .int (nI i)] ph (fun v p => v = none ∧ lst θ p a ed (n - 1) (fun j => if j < i then r j else r (j + 1)) ∧ kept ph p (lS θ ph a ed)) (fun _ _ => False) := by
  obtain ⟨m, h1, h2, h3⟩ := hl
  rcases h3 with ⟨h3, -⟩ | ⟨N, f, h3, h4, h5, h6⟩
  · omega
  refine MC.of htr (by decide) (Nat.le_of_ble_eq_true rfl) ?_
  intro x hX hQ hT
  have hae : ed ≠ a := Ne.symm (e_ne2 h1 h3 e_OR)
  have hN : N < 2 ^ 30 := by rcases h5 with h | h <;> rw [h] <;> decide
  obtain ⟨n0, rfl⟩ : ∃ n0, n = n0 + 1 := ⟨n - 1, by omega⟩
  have tail : ∀ (p : e_PH) (f' : Nat → Option Nat), p a = some (e_O 1 [.int (m + 1), .ref ed, .int (nI (n0 + 1))]) → p ed = some (e_R θ N f') → (∀ j, j < n0 → f' j = some (if j < i then r j else r (j + 1))) → kept ph p (lS θ ph a ed) → EJ θ x 34 [(0, .ref a), (1, .ref ed), (3, .int (nI n0))] [] p 0 0 := by
    intro p f' g1 g2 g3 g4
    refine e_aload_n hX 1 iJx4a65c_fastRemove_b59b0_34 rfl rfl ?_
    refine e_aload_n hX 0 iJx4a65c_fastRemove_b59b0_35 rfl rfl ?_
    refine e_iload_n hX 3 iJx4a65c_fastRemove_b59b0_36 rfl rfl ?_
    refine e_dup_x1 hX iJx4a65c_fastRemove_b59b0_37 rfl rfl ?_
    refine e_put hX iJx4a65c_fastRemove_b59b0_38 g1 rfl (Nat.le_of_ble_eq_true rfl) rfl rfl ?_
    refine e_null hX iJx4a65c_fastRemove_b59b0_41 ?_
    refine e_aastN hX n0 iJx4a65c_fastRemove_b59b0_42 (e_up_o g2 hae) rfl (by omega) (by omega) ?_
    exact e_vret hX hQ iJx4a65c_fastRemove_b59b0_43 rfl (by decide) (by decide) ⟨rfl, ⟨m + 1, e_up_o e_up_s (Ne.symm hae), by omega, Or.inr ⟨N, _, e_up_s, by omega, h5, fun j hj => by rw [show va_up f' n0 none j = f' j from if_neg (by omega)]; exact g3 j hj⟩⟩, (g4.up2 (Or.inl (Or.inl rfl))).up2 (Or.inl (Or.inr ⟨rfl, N, f, h3⟩))⟩
  refine e_aload_n hX 0 iJx4a65c_fastRemove_b59b0_0 rfl rfl ?_
  refine e_dup hX iJx4a65c_fastRemove_b59b0_1 rfl ?_
  refine e_get hX iJx4a65c_fastRemove_b59b0_2 (by assumption) rfl ?_
  refine e_iconst (v := 1) hX iJx4a65c_fastRemove_b59b0_5 (by decide) ?_
  refine e_iadd hX iJx4a65c_fastRemove_b59b0_6 ?_
  refine e_put hX iJx4a65c_fastRemove_b59b0_7 h1 rfl (Nat.le_of_ble_eq_true rfl) rfl rfl ?_
  refine e_aload_n hX 0 iJx4a65c_fastRemove_b59b0_10 rfl rfl ?_
  refine e_get hX iJx4a65c_fastRemove_b59b0_11 e_up_s rfl ?_
  refine e_iconst (v := 1) hX iJx4a65c_fastRemove_b59b0_14 (by decide) ?_
  refine e_isub hX iJx4a65c_fastRemove_b59b0_15 ?_
  rw [show nI (n0 + 1) - 1 = nI n0 from nI_pred n0]
  refine e_dup hX iJx4a65c_fastRemove_b59b0_16 rfl ?_
  refine e_istore_n hX 3 iJx4a65c_fastRemove_b59b0_17 rfl (by decide) ?_
  refine e_iload_n hX 2 iJx4a65c_fastRemove_b59b0_18 rfl rfl ?_
  refine e_icmp_le hX iJx4a65c_fastRemove_b59b0_19 (fun c19 => ?_) (fun c19 => ?_)
  · have hin : n0 = i := by
      rcases Nat.lt_or_ge i n0 with h | h
      · exact absurd c19 (nI_ge h (by omega))
      · omega
    subst hin
    refine e_loc [0, 1, 3] ?_
    exact tail _ f e_up_s (e_up_o h3 hae) (fun j hj => by rw [if_pos hj]; exact h6 j (by omega)) (kept.up (Or.inl (Or.inl rfl)))
  · have hin : i < n0 := by
      rcases Nat.lt_or_ge i n0 with h | h
      · exact h
      · exact absurd (nI_le h (by omega)) c19
    refine e_aload_n hX 1 iJx4a65c_fastRemove_b59b0_22 rfl rfl ?_
    refine e_iload_n hX 2 iJx4a65c_fastRemove_b59b0_23 rfl rfl ?_
    refine e_iconst (v := 1) hX iJx4a65c_fastRemove_b59b0_24 (by decide) ?_
    refine e_iadd hX iJx4a65c_fastRemove_b59b0_25 ?_
    refine e_aload_n hX 1 iJx4a65c_fastRemove_b59b0_26 rfl rfl ?_
    refine e_iload_n hX 2 iJx4a65c_fastRemove_b59b0_27 rfl rfl ?_
    refine e_iload_n hX 3 iJx4a65c_fastRemove_b59b0_28 rfl rfl ?_
    refine e_iload_n hX 2 iJx4a65c_fastRemove_b59b0_29 rfl rfl ?_
    refine e_isub hX iJx4a65c_fastRemove_b59b0_30 ?_
    refine e_copy hX (i + 1) i (n0 - i) iJx4a65c_fastRemove_b59b0_31 mlRJx4a65c_112 (e_up_o h3 hae) (e_up_o h3 hae) (nI_1 i) rfl (pk_sub (by omega)) (by omega) (by omega) ⟨hN, hN⟩ (fun j hj y hy => ?_) ⟨by decide, Nat.le_of_ble_eq_true rfl⟩ ?_
    · rw [h6 _ (by omega)] at hy
      cases hy
      obtain ⟨ci, fs, rc, g1, g2, g3⟩ := hob (i + 1 + j) (by omega)
      by_cases e : r (i + 1 + j) = a
      · rw [e] at g1 ⊢
        have : ci = 1 := by have := h1.symm.trans g1; unfold e_O at this; cases this; rfl
        subst this
        exact ⟨1, _, rc, e_up_s, g2, g3⟩
      · exact ⟨ci, fs, rc, e_up_o g1 e, g2, g3⟩
    · refine e_loc [0, 1, 3] ?_
      refine tail _ _ (e_up_o e_up_s (Ne.symm hae)) e_up_s (fun j hj => ?_) ((kept.up (Or.inl (Or.inl rfl))).up2 (Or.inl (Or.inr ⟨rfl, N, f, h3⟩)))
      by_cases hji : j < i
      · rw [pk_cpy_out (Or.inl hji), if_pos hji]; exact h6 j (by omega)
      · rw [pk_cpy_in (by omega) (by omega), if_neg hji, show i + 1 + (j - i) = j + 1 by omega]; exact h6 (j + 1) (by omega)
theorem c_remove {l : Launch} (htr : l.stackTraces = false) {θ : e_T} {ph : e_PH} {a ed n : Nat} {r : Nat → Nat} (hl : lst θ ph a ed n r) {i : Nat} (hi : i < n) (hob : ∀ i, i < n → e_obs ph (r i)) : MC yJx4a65c_remove_915e3 cJx4a65c_remove_915e3 4 (some (.object "java/lang/Object")) 2 0 0 l θ [.ref a, .int (nI i)] ph (fun v p => v = some (.ref (r i)) ∧ lst θ p a ed (n - 1) (fun j => if j < i then r j else r (j + 1)) ∧ kept ph p (lS θ ph a ed)) (fun _ _ => False) := by
  have hl0 := hl
  obtain ⟨m, h1, h2, h3⟩ := hl
  rcases h3 with ⟨h3, -⟩ | ⟨N, f, h3, h4, h5, h6⟩
  · omega
  refine MC.of htr (by decide) (Nat.le_of_ble_eq_true rfl) ?_
  intro x hX hQ hT
  refine e_iload_n hX 1 iJx4a65c_remove_915e3_0 rfl rfl ?_
  refine e_aload_n hX 0 iJx4a65c_remove_915e3_1 rfl rfl ?_
  refine e_get hX iJx4a65c_remove_915e3_2 (by assumption) rfl ?_
  refine e_callS hX iJx4a65c_remove_915e3_5 (c_chk htr hi (by omega)) rfl rfl ⟨by decide, by decide, by decide, by decide⟩ (Nat.le_of_ble_eq_true rfl) (fun _ _ h => h.elim) (fun v9 ph9 hv9 => ?_)
  obtain ⟨rfl, rfl⟩ := hv9
  refine e_pop hX iJx4a65c_remove_915e3_8 rfl ?_
  refine e_aload_n hX 0 iJx4a65c_remove_915e3_9 rfl rfl ?_
  refine e_get hX iJx4a65c_remove_915e3_10 (by assumption) rfl ?_
  refine e_astore_n hX 2 iJx4a65c_remove_915e3_13 rfl (by decide) ?_
  refine e_aload_n hX 2 iJx4a65c_remove_915e3_14 rfl rfl ?_
  refine e_iload_n hX 1 iJx4a65c_remove_915e3_15 rfl rfl ?_
  refine e_aald hX i iJx4a65c_remove_915e3_16 h3 rfl (by omega) (by rcases h5 with h | h <;> rw [h] <;> decide) (h6 i hi) ?_
  refine e_astore_n hX 3 iJx4a65c_remove_915e3_17 rfl (by decide) ?_
  refine e_aload_n hX 0 iJx4a65c_remove_915e3_18 rfl rfl ?_
  refine e_aload_n hX 2 iJx4a65c_remove_915e3_19 rfl rfl ?_
  refine e_iload_n hX 1 iJx4a65c_remove_915e3_20 rfl rfl ?_
  refine e_callV hX iJx4a65c_remove_915e3_21 h1 (c_fastRemove htr hl0 hi hob) rfl rfl ⟨by decide, by decide, by decide, by decide⟩ (Nat.le_of_ble_eq_true rfl) (fun _ _ h => h.elim) (fun v9 ph9 hv9 => ?_)
  obtain ⟨rfl,hl9,hk9⟩ := hv9
  refine e_aload_n hX 3 iJx4a65c_remove_915e3_24 rfl rfl ?_
  exact e_aret hX hQ iJx4a65c_remove_915e3_25 rfl (Or.inl ⟨_, rfl⟩) (by decide) (by decide) ⟨rfl, hl9, hk9⟩
theorem c_initAC {l : Launch} (htr : l.stackTraces = false) {θ : e_T} {ph : e_PH} {a : Nat} : MC yJxa1e45_init_da8c8 cJxa1e45_init_da8c8 1 none 0 0 0 l θ [.ref a] ph (fun v p => v = none ∧ p = ph) (fun _ _ => False) := by
  refine MC.of htr (by decide) (Nat.le_of_ble_eq_true rfl) ?_
  intro x hX hQ hT
  refine e_aload_n hX 0 iJxa1e45_init_da8c8_0 rfl rfl ?_
  refine e_obj hX iJxa1e45_init_da8c8_1 mlRJxa1e45_1 w_objI w_objC ⟨by decide, Nat.le_of_ble_eq_true rfl⟩ ?_
  exact e_vret hX hQ iJxa1e45_init_da8c8_4 rfl (by decide) (by decide) ⟨rfl, rfl⟩
theorem c_initAL {l : Launch} (htr : l.stackTraces = false) {θ : e_T} {ph : e_PH} {a : Nat} {v0 v1 v2 : Value} (h1 : ph a = some (e_O 1 [v0, v1, v2])) : MC yJxc12de_init_da8c8 cJxc12de_init_da8c8 1 none 1 0 0 l θ [.ref a] ph (fun v p => v = none ∧ p = e_up ph a (e_O 1 [.int 0, v1, v2])) (fun _ _ => False) := by
  refine MC.of htr (by decide) (Nat.le_of_ble_eq_true rfl) ?_
  intro x hX hQ hT
  refine e_aload_n hX 0 iJxc12de_init_da8c8_0 rfl rfl ?_
  refine e_callI hX iJxc12de_init_da8c8_1 (c_initAC htr) rfl rfl ⟨by decide, by decide, by decide, by decide⟩ (Nat.le_of_ble_eq_true rfl) (fun _ _ h => h.elim) (fun v9 ph9 hv9 => ?_)
  obtain ⟨rfl, rfl⟩ := hv9
  refine e_aload_n hX 0 iJxc12de_init_da8c8_4 rfl rfl ?_
  refine e_iconst (v := 0) hX iJxc12de_init_da8c8_5 (by decide) ?_
  refine e_put hX iJxc12de_init_da8c8_6_c1 h1 rfl (Nat.le_of_ble_eq_true rfl) rfl rfl ?_
  exact e_vret hX hQ iJxc12de_init_da8c8_9 rfl (by decide) (by decide) ⟨rfl, rfl⟩
theorem c_initList {l : Launch} (htr : l.stackTraces = false) {θ : e_T} {ph : e_PH} {a : Nat} (h1 : ph a = some (e_O 1 [.int 0, .null, .int 0])) : MC yJx4a65c_init_da8c8 cJx4a65c_init_da8c8 1 none 2 0 0 l θ [.ref a] ph (fun v p => v = none ∧ p = e_up ph a (e_O 1 [.int 0, .ref θ.2.2.2.2, .int 0])) (fun _ _ => False) := by
  refine MC.of htr (by decide) (Nat.le_of_ble_eq_true rfl) ?_
  intro x hX hQ hT
  refine e_aload_n hX 0 iJx4a65c_init_da8c8_0 rfl rfl ?_
  refine e_callI hX iJx4a65c_init_da8c8_1 (c_initAL htr h1) rfl rfl ⟨by decide, by decide, by decide, by decide⟩ (Nat.le_of_ble_eq_true rfl) (fun _ _ h => h.elim) (fun v9 ph9 hv9 => ?_)
  obtain ⟨rfl, rfl⟩ := hv9
  refine e_aload_n hX 0 iJx4a65c_init_da8c8_4 rfl rfl ?_
  refine e_gets hX iJx4a65c_init_da8c8_5 fsRJx4a65c_39 ?_
  refine e_put hX iJx4a65c_init_da8c8_8 e_up_s rfl (Nat.le_of_ble_eq_true rfl) rfl rfl ?_
  rw [e_up_up]
  exact e_vret hX hQ iJx4a65c_init_da8c8_11 rfl (by decide) (by decide) ⟨rfl, rfl⟩
