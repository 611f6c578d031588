/-! p51: what a call of the class leaves; the law's methods without tables, which carry what their calls need: the thrown classes apart, the script -/
theorem ox1 {k : Nat} {a E : String} (hk : k ≠ 0) (h : ([a] : List String)[k - 1]? = some E) : k = 1 ∧ a = E := by
  match k, hk, h with
  | 1, _, h => exact ⟨rfl, Option.some.inj h⟩
theorem ox2 {k : Nat} {a b E : String} (hk : k ≠ 0) (h : ([a, b] : List String)[k - 1]? = some E) : (k = 1 ∧ a = E) ∨ (k = 2 ∧ b = E) := by
  match k, hk, h with
  | 1, _, h => exact Or.inl ⟨rfl, Option.some.inj h⟩
  | 2, _, h => exact Or.inr ⟨rfl, Option.some.inj h⟩
theorem ox3 {k : Nat} {a b c E : String} (hk : k ≠ 0) (h : ([a, b, c] : List String)[k - 1]? = some E) : (k = 1 ∧ a = E) ∨ (k = 2 ∧ b = E) ∨ (k = 3 ∧ c = E) := by
  match k, hk, h with
  | 1, _, h => exact Or.inl ⟨rfl, Option.some.inj h⟩
  | 2, _, h => exact Or.inr (Or.inl ⟨rfl, Option.some.inj h⟩)
  | 3, _, h => exact Or.inr (Or.inr ⟨rfl, Option.some.inj h⟩)
theorem b2i_n1 {b : Bool} (h : ¬ b2i b = 0) : (1 : Int32) = b2i b := by rw [b2i_n0.mp h]; rfl
/-- the law's number for what was thrown -/
def cdI (k : Nat) : Int32 := -1000 - nI k
/-- k: the place of what was thrown, 0 for nothing; a: the answer -/
def qA (k : Nat) (a : Int32) : Int32 := if k = 0 then a else cdI k
theorem qA_0 {k : Nat} {a : Int32} (h : k = 0) : qA k a = a := if_pos h
def qP (θ : e_T) (ph : e_PH) (g : Nat) (X : Nat → Prop) (k : Nat) (a : Int32) (σ1 σ2 : SG) : Option Value → e_PH → Prop := fun z p => z = some (.int (qA k a)) ∧ GP θ p g X (if k = 0 then σ1 else σ2) ∧ kx ph p X
theorem qP.ok {θ : e_T} {ph p : e_PH} {g : Nat} {X : Nat → Prop} {k : Nat} {a v : Int32} {σ1 σ2 : SG} (hg : GP θ p g X σ1) (hx : kx ph p X) (hk : k = 0) (hv : v = a) : qP θ ph g X k a σ1 σ2 (some (.int v)) p := by
  subst hk
  subst hv
  exact ⟨rfl, hg, hx⟩
theorem qP.thr {θ : e_T} {ph p : e_PH} {g : Nat} {X : Nat → Prop} {k j : Nat} {a v : Int32} {σ1 σ2 : SG} (hg : GP θ p g X σ2) (hx : kx ph p X) (hk : k = j) (hj : ¬ j = 0) (hv : v = cdI j) : qP θ ph g X k a σ1 σ2 (some (.int v)) p := by
  subst hk
  subst hv
  exact ⟨by rw [qA, if_neg hj], by rw [if_neg hj]; exact hg, hx⟩
/-- the script: its cell, how many ints, the ints -/
abbrev e_K : Type := Nat × Nat × (Nat → Int32)
def e_EX (θ : e_T) (s0 : e_K) (U : State) : Prop := e_NC U ∧ va_X s0.1 s0.2.1 s0.2.2 U U.heap ∧ s0.1 < θ.2.2.1
def MCN (y : MethodName) (cc : ByteArray) (nL : Nat) (ret : Option FieldType) (d mc ms : Nat) (l : Launch) (θ : e_T) (s0 : e_K) (As : List Value) (ph : e_PH) (Post : Option Value → e_PH → Prop) : Prop :=
  vx_Met l y (.code y cc nL ret :: lw_good) (e_rm d mc ms) (va_Pc As (fun U => e_U θ ph U ∧ e_EX θ s0 U)) (e_Qc θ Post) (e_XC θ (fun _ _ => False)) mc ms (e_A θ)
def e_nx (θ : e_T) (s0 : e_K) (x : e_X) : Prop := match x with
  | (_, _, _, _, s, _, _, _, _, _, _, _) => e_EX θ s0 s
theorem e_nx.nc {θ : e_T} {s0 : e_K} {x : e_X} (h : e_nx θ s0 x) : e_nc x := by
  obtain ⟨p, l', e, R', s, m, args, below, meth, c, Q, nL'⟩ := x
  exact h.1
theorem e_EX.step {θ : e_T} {s0 : e_K} {s U : State} {H : Heap} {locs : List Loc} (h : e_EX θ s0 s) (hb0 : θ.2.2.1 ≤ s.heap.size) (hS : va_S (e_A θ) s.heap H locs) (hU : U.heap = H) (hW : s.WarmedH U.vm) : e_EX θ s0 U := by
  refine ⟨e_NC.warm hW h.1, ?_, h.2.2⟩
  rw [hU]
  exact (h.2.1.kept (hS.2.1 _ (Nat.lt_of_lt_of_le h.2.2 hb0) (Nat.not_le.mpr h.2.2))).moved hW.alike
theorem e_blindN {θ : e_T} {ph : e_PH} {As : List Value} {s0 : e_K} : FrameBlind (va_Pc As (fun U => e_U θ ph U ∧ e_EX θ s0 U)) := fun a U g mk h => ⟨h.1, h.2.1.calling g mk a, e_NC.warm (s := U) (U := U.calling g mk a) (State.WarmedH.refl U) h.2.2.1, va_X.moved (u := U) (U := U.calling g mk a) (State.WarmedH.refl U).alike h.2.2.2.1, h.2.2.2.2⟩
theorem MCN.of {y : MethodName} {cc : ByteArray} {nL : Nat} {ret : Option FieldType} {d mc ms : Nat} {l : Launch} {θ : e_T} {s0 : e_K} {As : List Value} {ph : e_PH} {Post : Option Value → e_PH → Prop} (htr : l.stackTraces = false)
    (hy : plainName y.cls = true) (hn : (lg_sl As).length ≤ nL)
    (body : ∀ x, e_in cc y.cls y.name nL ret (e_rm d mc ms) l θ x → e_qq θ x Post (fun _ _ => False) mc ms → e_nx θ s0 x → EJ θ x 0 (lv_args 0 As) [] ph 0 0) : MCN y cc nL ret d mc ms l θ s0 As ph Post := by
  refine vx_ofW (cc := cc) (maxL := nL) (ret := ret) hy rfl ?_
  intro p e s m args below meth c s₁ B hml hnt hv
  obtain ⟨rfl, ⟨⟨L, f, hP, hD, hk⟩, hG, hb0⟩, hN⟩ := hv
  have hts0 := atoms_spec (ws := .code y cc nL ret :: lw_good) B.pre
  have hown : s.vm.findClass y.cls = some m.cls := findClass_of_methodNamed B.named
  have hnm : meth.name = y.name := (name_of_methodNamed B.named B.method).1
  have hl := lv_entry As (n := nL) hn
  rw [lg_entry_eq]
  exact body (p, l, e, e_rm d mc ms, s, m, As.toArray, below, meth, c, vx_MQ below (e_Qc θ Post) (e_XC θ (fun _ _ => False)) As.toArray s mc ms (e_A θ), nL) ⟨rfl, rfl, rfl, B.exec, B.bytes, hml, hown, fun w hw => hts0 w (List.mem_cons_of_mem _ hw), hG, hb0, B.notSynchronized, htr, B.returns, hnm⟩ rfl hN s.heap _ [] L f hP hD hk va_S.rf hl
section CN
variable {θ : e_T} {x : e_X} {pc nx tgt : Nat} {lv : List (Nat × Value)} {st : List Value} {ph : e_PH} {k n : Nat} {cc : ByteArray} {own nm : String} {nL : Nat} {ret : Option FieldType} {R : Room} {l : Launch} {Post : Option Value → e_PH → Prop} {s0 : e_K}
theorem e_callN (hX : e_in cc own nm nL ret R l θ x) (hN : e_nx θ s0 x) {d nLy mc ms np : Nat} {y : MethodName} {bb : ByteArray} {rty : Option FieldType} {As : List Value} {st0 : List Value} (hd : e_ivS cc own pc nx y bb nLy rty np) (hM : MCN y bb nLy rty d mc ms l θ s0 As ph Post) (h0 : As.reverse ++ st = st0) (hl0 : As.length = np) (hf : e_fit R d nLy (k + mc) (n + ms)) (hw : (st.map fun v => v.category).sum ≤ 8)
    (kk : ∀ v ph', Post v ph' → EJ θ x nx lv (v.toList ++ st) ph' (k + mc) (n + ms)) : EJ θ x pc lv st0 ph k n := by
  obtain ⟨p, l', e, R', s, m, args, below, meth, c, Q, nL'⟩ := x
  obtain ⟨rfl, rfl, rfl, hx, hb, hml, hown, hts, hG, hb0, hlk, htr, hr, hnm⟩ := hX
  obtain ⟨idx, ⟨hd, rfl⟩, ⟨hw1, hw2, hw3, hw4⟩, hw5, hw6⟩ := hd
  subst h0
  intro H ls locs L f hP hD hk hS hl
  rcases hw5 with hw5 | ⟨host, hw5⟩
  · exact e_run (PostX := fun _ _ => False) (vx_runS (As := As) (rest := st) (Ts := lw_good) (own := own) (n := np) ⟨hx, hb, hml, hown, hts⟩ hM ⟨callB_of np hts (e_goodIn _ rfl hw1) rfl rfl rfl (hts _ hw2) (hts _ hw5) ⟨hw3.1, hw3.2, hw4⟩ ⟨hf.1, hf.2.1⟩, hts _ hw6⟩ ⟨e_blindN, fun U hU hW => ⟨rfl, e_pre hP hD hk hS hG hb0 hU hW, e_EX.step hN hb0 hS hU hW⟩⟩ rfl hl0 hl.1 rfl (lv_room hw) hd ⟨hf.2.2.1, hf.2.2.2⟩) hS hl kk (fun _ _ h => h.elim)
  · exact e_run (PostX := fun _ _ => False) (vx_runSN (As := As) (rest := st) (Ts := lw_good) (own := own) (n := np) ⟨hx, hb, hml, hown, hts⟩ hM ⟨va_cnB (ws' := lw_good) np hts (e_goodIn _ rfl hw1) rfl rfl rfl (hG.2.1 _ hw5) (hts _ hw2) ⟨hw3.1, hw3.2, hw4⟩ ⟨hf.1, hf.2.1⟩, hts _ hw6, trivial⟩ ⟨e_blindN, fun U hU hW => ⟨rfl, e_pre hP hD hk hS hG hb0 hU hW, e_EX.step hN hb0 hS hU hW⟩⟩ rfl hl0 hl.1 rfl (lv_room hw) hd ⟨hf.2.2.1, hf.2.2.2⟩) hS hl kk (fun _ _ h => h.elim)
/-- the script's ints -/
theorem e_sld (hX : e_in cc own nm nL ret R l θ x) (hN : e_nx θ s0 x) {i : Int32} (j : Nat) (hd : e_at cc pc .iaload 1 nx) (hi : i = nI j) (hj : j < s0.2.1) (hL : s0.2.1 < 2 ^ 31) (kk : EJ θ x nx lv (.int (s0.2.2 j) :: st) ph k n) : EJ θ x pc lv (.int i :: .ref s0.1 :: st) ph k n := by
  obtain ⟨p, l', e, R', s, m, args, below, meth, c, Q, nL'⟩ := x
  obtain ⟨rfl, rfl, rfl, hx, hb, hml, hown, hts, hG, hb0, hlk, htr, hr, hnm⟩ := hX
  obtain ⟨hd, rfl⟩ := hd
  obtain ⟨h0, h1, h3⟩ := hN
  subst hi
  intro H ls locs L' f hP hD hk hS hl
  refine va_sld (A := e_A θ) hx hb h1 (Nat.lt_of_lt_of_le h3 hb0) (Nat.not_le.mpr h3) hS (nI_in hj hL) hd ?_
  rw [nI_clamp (Nat.lt_trans hj hL)]
  exact kk H ls locs L' f hP hD hk hS hl
theorem e_slen (hX : e_in cc own nm nL ret R l θ x) (hN : e_nx θ s0 x) (hd : e_at cc pc .arraylength 1 nx) (kk : EJ θ x nx lv (.int (nI s0.2.1) :: st) ph k n) : EJ θ x pc lv (.ref s0.1 :: st) ph k n := by
  obtain ⟨p, l', e, R', s, m, args, below, meth, c, Q, nL'⟩ := x
  obtain ⟨rfl, rfl, rfl, hx, hb, hml, hown, hts, hG, hb0, hlk, htr, hr, hnm⟩ := hX
  obtain ⟨hd, rfl⟩ := hd
  obtain ⟨h0, h1, h3⟩ := hN
  intro H ls locs L' f hP hD hk hS hl
  exact va_slen (A := e_A θ) hx hb h1 (Nat.lt_of_lt_of_le h3 hb0) (Nat.not_le.mpr h3) hS hd (kk H ls locs L' f hP hD hk hS hl)
end CN
