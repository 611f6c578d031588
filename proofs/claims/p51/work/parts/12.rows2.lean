/-! words of getClass -/
theorem mlRJ7_86 : e_w (.methodLink RJ7 86 ⟨"java/lang/Object", "getClass", "()Ljava/lang/Class;"⟩) := (e_wi 923 (by decide +kernel) rfl)
theorem w_gc_d : e_n (.declares ⟨"java/lang/Object", "getClass", "()Ljava/lang/Class;"⟩) := e_nwi 1172 (by decide +kernel) (by decide +kernel)
theorem w_gc_s : e_w (.selects "[Ljava/lang/Object;" ⟨"java/lang/Object", "getClass", "()Ljava/lang/Class;"⟩ ⟨"java/lang/Object", "getClass", "()Ljava/lang/Class;"⟩) := (e_wi 1171 (by decide +kernel) rfl)
theorem w_gc_i : e_w (.instanceMethod ⟨"java/lang/Object", "getClass", "()Ljava/lang/Class;"⟩) := (e_wi 924 (by decide +kernel) rfl)
theorem w_gc_n : e_w (.native ⟨"java/lang/Object", "getClass", "()Ljava/lang/Class;"⟩) := (e_wi 944 (by decide +kernel) rfl)
/-! class objects, comparisons of references, System.arraycopy -/
section EN
variable {θ : e_T} {x : e_X} {pc nx tgt : Nat} {lv : List (Nat × Value)} {st : List Value} {ph : e_PH} {k n : Nat} {cc : ByteArray} {own nm : String} {nL : Nat} {ret : Option FieldType} {R : Room} {l : Launch} {off : Int}
theorem e_ldcM (hX : e_in cc own nm nL ret R l θ x) {idx : Nat} (hd : e_at cc pc (.ldc idx) 2 nx) (hw : e_w (.classLink own idx "[Ljava/lang/Object;")) (kk : EJ θ x nx lv (.ref (θ.2.2.2.1 1) :: st) ph k n) : EJ θ x pc lv st ph k n := by
  obtain ⟨p, l', e, R', s, m, args, below, meth, c, Q, nL'⟩ := x
  obtain ⟨rfl, rfl, rfl, hx, hb, hml, hown, hts, hG, hb0, hlk, htr, hr, hnm⟩ := hX
  obtain ⟨hd, rfl⟩ := hd
  intro H ls locs L f hP hD hk hS hl
  exact va_ldcM hx hb hown (hts _ hw) hG.2.2.2.2.2.2.2.2.2.1 hd (kk H ls locs L f hP hD hk hS hl)
/-- getClass of an Object[] -/
theorem e_getC (hX : e_in cc own nm nL ret R l θ x) {idx a N : Nat} {f0 : Nat → Option Nat} (hd : e_at cc pc (.invokevirtual idx) 3 nx) (hw1 : e_w (.methodLink own idx ⟨"java/lang/Object", "getClass", "()Ljava/lang/Class;"⟩)) (hw2 : e_n (.declares ⟨"java/lang/Object", "getClass", "()Ljava/lang/Class;"⟩)) (hw3 : e_w (.selects "[Ljava/lang/Object;" ⟨"java/lang/Object", "getClass", "()Ljava/lang/Class;"⟩ ⟨"java/lang/Object", "getClass", "()Ljava/lang/Class;"⟩)) (hw4 : e_w (.instanceMethod ⟨"java/lang/Object", "getClass", "()Ljava/lang/Class;"⟩)) (hw5 : e_w (.native ⟨"java/lang/Object", "getClass", "()Ljava/lang/Class;"⟩)) (hp : ph a = some (e_R θ N f0)) (hf : 1 ≤ R.frames ∧ (st.map fun v => v.category).sum + 14 ≤ R.locals) (kk : EJ θ x nx lv (.ref (θ.2.2.2.1 1) :: st) ph k n) : EJ θ x pc lv (.ref a :: st) ph k n := by
  obtain ⟨p, l', e, R', s, m, args, below, meth, c, Q, nL'⟩ := x
  obtain ⟨rfl, rfl, rfl, hx, hb, hml, hown, hts, hG, hb0, hlk, htr, hr, hnm⟩ := hX
  obtain ⟨hd, rfl⟩ := hd
  intro H ls locs L f hP hD hk hS hl
  obtain ⟨q0, hq⟩ := hk.get hp
  have hc := hP q0 _ hq
  refine va_getC hx hb (hml.trans hl.1.symm) hown (hts _ hw1) (va_Nw.use rfl (hG.2.1 _ hw2)) (hts _ hw3) (hts _ hw4) (hts _ hw5) hG.2.2.2.2.2.2.2.2.2.1 ⟨_, hc, rfl, ?_⟩ hf.1 hf.2 hd (kk H ls locs L f hP hD hk hS hl)
  exact va_nmO (hG.1.2 4 (θ.2.1 4, .object "java/lang/Object") rfl).2 (by decide +kernel)
theorem e_acmp_eq (hX : e_in cc own nm nL ret R l θ x) {a b : Nat} (hd : e_br cc pc (.if_acmp .eq off) off nx tgt) (kt : a = b → EJ θ x tgt lv st ph k n) (kf : ¬ a = b → EJ θ x nx lv st ph k n) : EJ θ x pc lv (.ref b :: .ref a :: st) ph k n := by
  obtain ⟨p, l', e, R', s, m, args, below, meth, c, Q, nL'⟩ := x
  obtain ⟨rfl, rfl, rfl, hx, hb, hml, hown, hts, hG, hb0, hlk, htr, hr, hnm⟩ := hX
  obtain ⟨hd, rfl, ht⟩ := hd
  intro H ls locs L f hP hD hk hS hl
  exact lv_acmp_eq (rx := some a) (ry := some b) hx hb hd ht (fun h => kt (Option.some.inj h) H ls locs L f hP hD hk hS hl) (fun h => kf (fun e => h (by rw [e])) H ls locs L f hP hD hk hS hl)
theorem e_acmp_ne (hX : e_in cc own nm nL ret R l θ x) {a b : Nat} (hd : e_br cc pc (.if_acmp .ne off) off nx tgt) (kt : ¬ a = b → EJ θ x tgt lv st ph k n) (kf : a = b → EJ θ x nx lv st ph k n) : EJ θ x pc lv (.ref b :: .ref a :: st) ph k n := by
  obtain ⟨p, l', e, R', s, m, args, below, meth, c, Q, nL'⟩ := x
  obtain ⟨rfl, rfl, rfl, hx, hb, hml, hown, hts, hG, hb0, hlk, htr, hr, hnm⟩ := hX
  obtain ⟨hd, rfl, ht⟩ := hd
  intro H ls locs L f hP hD hk hS hl
  exact lv_acmp_ne (rx := some a) (ry := some b) hx hb hd ht (fun h => kt (fun e => h (by rw [e])) H ls locs L f hP hD hk hS hl) (fun h => kf (Option.some.inj h) H ls locs L f hP hD hk hS hl)
/-- an object that an Object[] may hold -/
def e_obs (ph : e_PH) (y : Nat) : Prop := ∃ ci fs r, ph y = some (e_O ci fs) ∧ e_cl[ci]? = some r ∧ e_n (.castable r.1 "java/lang/Object")
theorem e_any {s : State} {H : Heap} {L : List Nat} {f : Nat → va_E} {y : Nat} (hG : e_GS θ s s.heap) (hP : va_P θ.1 e_cl (va_pl L f) H) (hk : e_lk ph L f) (h : e_obs ph y) : va_Any "java/lang/Object" s H y := by
  obtain ⟨ci, fs, r, hp, hc, hn⟩ := h
  obtain ⟨q, hq⟩ := hk.get hp
  obtain ⟨cell, h1, h2, h3⟩ := va_recv hG.1 hP hc hq
  obtain ⟨c3, c4, hc3, hc4, hasg⟩ := Cond.castable_spec (hG.2.1 _ hn)
  cases Option.some.inj (hc3.symm.trans h3)
  obtain ⟨kC, hkC, -⟩ := Vm.findClass_spec h3
  exact ⟨cell, h1, h2, ⟨kC, hkC⟩, fun comp hcomp => by cases Option.some.inj (hc4.symm.trans hcomp); exact hasg⟩
theorem e_copy (hX : e_in cc own nm nL ret R l θ x) {idx a0 a1 N0 N1 : Nat} {f0 g0 : Nat → Option Nat} {i0 i1 i2 : Int32} (sp dp cn : Nat) (hd : e_at cc pc (.invokestatic idx) 3 nx) (hw : e_w (.methodLink own idx arraycopyName)) (hp0 : ph a0 = some (e_R θ N0 f0)) (hp1 : ph a1 = some (e_R θ N1 g0)) (e0 : i0 = nI sp) (e1 : i1 = nI dp) (e2 : i2 = nI cn) (h4 : sp + cn ≤ N0) (h5 : dp + cn ≤ N1) (hN : N0 < 2 ^ 30 ∧ N1 < 2 ^ 30) (hob : ∀ i, i < cn → ∀ y, f0 (sp + i) = some y → e_obs ph y) (hf : 1 ≤ R.frames ∧ (st.map fun v => v.category).sum + (nativeFrameWords "java/lang/System" "arraycopy" 5 + 11) ≤ R.locals) (kk : EJ θ x nx lv st (e_up ph a1 (e_R θ N1 (va_cpy f0 g0 sp dp cn))) k n) : EJ θ x pc lv (.int i2 :: .int i1 :: .ref a1 :: .int i0 :: .ref a0 :: st) ph k n := by
  obtain ⟨p, l', e, R', s, m, args, below, meth, c, Q, nL'⟩ := x
  obtain ⟨rfl, rfl, rfl, hx, hb, hml, hown, hts, hG, hb0, hlk, htr, hr, hnm⟩ := hX
  obtain ⟨hd, rfl⟩ := hd
  subst e0 e1 e2
  intro H ls locs L f hP hD hk hS hl
  obtain ⟨q0, hq0⟩ := hk.get hp0
  obtain ⟨q1, hq⟩ := hk.get hp1
  have s0 : (nI sp).toNatClampNeg = sp := nI_clamp (by omega)
  have s1 : (nI dp).toNatClampNeg = dp := nI_clamp (by omega)
  have s2 : (nI cn).toNatClampNeg = cn := nI_clamp (by omega)
  refine va_copyM hx hb (hml.trans hl.1.symm) hown (hts _ hw) (hts _ w_ac_n) (hts _ w_ac_s) (hts _ w_sys_i) hG.1 hP hD hS q0 q1 4 4 hq0 hq rfl rfl (nI_pos (by omega)) (nI_pos (by omega)) (nI_pos (by omega)) (by rw [s0, s2]; exact h4) (by rw [s1, s2]; exact h5) (fun i hi y hy => e_any hG hP hk (hob i (by rw [s2] at hi; exact hi) y (by rw [s0] at hy; exact hy))) hf.1 hf.2 hd (fun H1 locs1 hP1 hD1 hS1 => ?_)
  rw [s0, s1, s2] at hP1 hD1
  rw [e_set hD hq (hk.mem hp1).1 (hk.mem hp1).2] at hP1 hD1
  exact kk H1 ls locs1 L _ hP1 hD1 (hk.set hp1) hS1 hl
end EN
