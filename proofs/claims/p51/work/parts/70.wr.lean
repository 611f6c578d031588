/-! methods with a table of their own (the law's calls of the class), over EJ -/
abbrev xP : List String := ["java/lang/IllegalArgumentException", "java/lang/IllegalStateException", "java/lang/IndexOutOfBoundsException", "java/util/NoSuchElementException", "java/lang/UnsupportedOperationException"]
/-- none of the thrown classes is another's subclass -/
def e_NC (U : State) : Prop := ∀ a ∈ xP, ∀ b ∈ xP, a ≠ b → va_Nc a b U
theorem e_NC.warm {s U : State} (hW : s.WarmedH U.vm) (h : e_NC s) : e_NC U := fun a ha b hb hn => va_Nc.moved hW.alike (h a ha b hb hn)
abbrev e_hh : Type := List (Nat × Nat × Nat × Nat)
def MCW (y : MethodName) (cc : ByteArray) (nL : Nat) (ret : Option FieldType) (hh : e_hh) (d mc ms : Nat) (l : Launch) (θ : e_T) (As : List Value) (ph : e_PH) (Post : Option Value → e_PH → Prop) : Prop :=
  vx_Met l y (.codeWith y cc nL ret hh :: lw_good) (e_rm d mc ms) (va_Pc As (fun U => e_U θ ph U ∧ e_NC U)) (e_Qc θ Post) (e_XC θ (fun _ _ => False)) mc ms (e_A θ)
def e_tb (x : e_X) (hh : e_hh) : Prop := match x with
  | (_, _, _, _, s, _, _, _, _, c, _, _) => c.exceptionTable.toList = tableOf hh ∧ e_NC s
def e_nc (x : e_X) : Prop := match x with
  | (_, _, _, _, s, _, _, _, _, _, _, _) => e_NC s
theorem e_blindW {θ : e_T} {ph : e_PH} {As : List Value} : FrameBlind (va_Pc As (fun U => e_U θ ph U ∧ e_NC U)) := fun a U g mk h => ⟨h.1, h.2.1.calling g mk a, e_NC.warm (s := U) (U := U.calling g mk a) (State.WarmedH.refl U) h.2.2⟩
theorem MCW.of {y : MethodName} {cc : ByteArray} {nL : Nat} {ret : Option FieldType} {hh : e_hh} {d mc ms : Nat} {l : Launch} {θ : e_T} {As : List Value} {ph : e_PH} {Post : Option Value → e_PH → Prop} (htr : l.stackTraces = false)
    (hy : plainName y.cls = true) (hn : (lg_sl As).length ≤ nL)
    (body : ∀ x, e_in cc y.cls y.name nL ret (e_rm d mc ms) l θ x → e_qq θ x Post (fun _ _ => False) mc ms → e_tb x hh → EJ θ x 0 (lv_args 0 As) [] ph 0 0) : MCW y cc nL ret hh d mc ms l θ As ph Post := by
  refine vx_ofWH (cc := cc) (maxL := nL) (ret := ret) (hh := hh) hy rfl ?_
  intro p e s m args below meth c s₁ B hml hv
  obtain ⟨rfl, ⟨⟨L, f, hP, hD, hk⟩, hG, hb0⟩, hN⟩ := hv
  have hts0 := atoms_spec (ws := .codeWith y cc nL ret hh :: lw_good) B.pre
  have hown : s.vm.findClass y.cls = some m.cls := findClass_of_methodNamed B.named
  have hnm : meth.name = y.name := (name_of_methodNamed B.named B.method).1
  have htab := vx_table (x := y) B (hts0 _ List.mem_cons_self)
  have hl := lv_entry As (n := nL) hn
  rw [lg_entry_eq]
  exact body (p, l, e, e_rm d mc ms, s, m, As.toArray, below, meth, c, vx_MQ below (e_Qc θ Post) (e_XC θ (fun _ _ => False)) As.toArray s mc ms (e_A θ), nL) ⟨rfl, rfl, rfl, B.exec, B.bytes, hml, hown, fun w hw => hts0 w (List.mem_cons_of_mem _ hw), hG, hb0, B.notSynchronized, htr, B.returns, hnm⟩ rfl ⟨htab, hN⟩ s.heap _ [] L f hP hD hk va_S.rf hl
/-- what a static call's row says, of a method with a table -/
def e_ivW (cc : ByteArray) (own : String) (pc nx : Nat) (y : MethodName) (bb : ByteArray) (nLy : Nat) (rty : Option FieldType) (hh : e_hh) (np : Nat) : Prop := ∃ idx, e_at cc pc (.invokestatic idx) 3 nx ∧ (e_w (.codeWith y bb nLy rty hh) ∧ e_w (.initialized y.cls) ∧ (y.cls ≠ "java/lang/invoke/MethodHandle" ∧ y.cls ≠ "java/lang/invoke/VarHandle") ∧ (parseMethodDescriptor y.desc).map (fun d => d.parameters.length) = some np) ∧ e_w (.methodLink own idx y) ∧ e_w (.static y)
theorem e_goodW {own : String} {idx : Nat} {y : MethodName} {w0 : Cond} (h0 : goodWord w0 = true) (h1 : w0 ∈ lw_good) (h2 : e_w (.methodLink own idx y)) (h3 : e_w (.static y)) (h4 : e_w (.initialized y.cls)) : GoodIn lw_good (va_wsS own idx y (w0 :: lw_good)) := by
  intro w hw
  unfold va_wsS at hw
  have ok : ∀ {w : Cond}, e_w w → w ∈ lw_good ∧ ((w.onTables && w.keeps) = true ∨ ∃ ty, w = .arrayClass ty) := fun h => ⟨h, good_of_word (List.mem_filter.mp h).2⟩
  rcases List.mem_append.mp hw with h | h
  · rcases List.mem_cons.mp h with rfl | h
    · exact ok h2
    · rcases List.mem_cons.mp h with rfl | h
      · exact ok h3
      · rcases List.mem_cons.mp h with rfl | h
        · exact ok h4
        · exact absurd h List.not_mem_nil
  · exact e_goodIn w0 h0 h1 w h
section WR
variable {θ : e_T} {x : e_X} {pc nx tgt : Nat} {lv : List (Nat × Value)} {st : List Value} {ph : e_PH} {k n : Nat} {cc : ByteArray} {own nm : String} {nL : Nat} {ret : Option FieldType} {R : Room} {l : Launch} {Post : Option Value → e_PH → Prop}
theorem e_callW (hX : e_in cc own nm nL ret R l θ x) (hN : e_nc x) {d nLy mc ms np : Nat} {y : MethodName} {bb : ByteArray} {rty : Option FieldType} {hh : e_hh} {As : List Value} {st0 : List Value} (hd : e_ivW cc own pc nx y bb nLy rty hh np) (hM : MCW y bb nLy rty hh d mc ms l θ As ph Post) (h0 : As.reverse ++ st = st0) (hl0 : As.length = np) (hf : e_fit R d nLy (k + mc) (n + ms)) (hw : (st.map fun v => v.category).sum ≤ 8)
    (kk : ∀ v ph', Post v ph' → EJ θ x nx lv (v.toList ++ st) ph' (k + mc) (n + ms)) : EJ θ x pc lv st0 ph k n := by
  obtain ⟨p, l', e, R', s, m, args, below, meth, c, Q, nL'⟩ := x
  obtain ⟨rfl, rfl, rfl, hx, hb, hml, hown, hts, hG, hb0, hlk, htr, hr, hnm⟩ := hX
  obtain ⟨idx, ⟨hd, rfl⟩, ⟨hw1, hw2, hw3, hw4⟩, hw5, hw6⟩ := hd
  subst h0
  intro H ls locs L f hP hD hk hS hl
  exact e_run (PostX := fun _ _ => False) (vx_runSX (hh := hh) (As := As) (rest := st) (Ts := lw_good) (own := own) (n := np) ⟨hx, hb, hml, hown, hts⟩ hM (vx_cwSW (ws' := lw_good) np hts (e_goodW rfl hw1 hw5 hw6 hw2) rfl rfl rfl ⟨hw3.1, hw3.2, hw4⟩ ⟨hf.1, hf.2.1⟩) ⟨e_blindW, fun U hU hW => ⟨rfl, e_pre hP hD hk hS hG hb0 hU hW, e_NC.warm hW hN⟩⟩ rfl hl0 hl.1 rfl (lv_room hw) hd ⟨hf.2.2.1, hf.2.2.2⟩) hS hl kk (fun _ _ h => h.elim)
/-- caught here, by a row of this method's table -/
theorem e_catch (hX : e_in cc own nm nL ret R l θ x) {hh : e_hh} (ht : e_tb x hh) {E : String} (pre : e_hh) (z : Nat × Nat × Nat × Nat) (suf : e_hh) (hsp : hh = pre ++ z :: suf) (hps : ∀ q ∈ pre, q.2.2.2 ≠ 0 ∧ ∃ nm2, e_w (.classLink own q.2.2.2 nm2) ∧ E ∈ xP ∧ nm2 ∈ xP ∧ E ≠ nm2) (hcv : z.1 ≤ pc ∧ pc < z.2.1) (h0 : z.2.2.2 ≠ 0) (hlink : e_w (.classLink own z.2.2.2 E)) (hcast : e_n (.castable E E))
    (kk : ∀ q, EJ θ x z.2.2.1 lv [.ref q] ph k n) : ET θ x pc lv st ph k n E := by
  obtain ⟨p, l', e, R', s, m, args, below, meth, c, Q, nL'⟩ := x
  obtain ⟨rfl, rfl, rfl, hx, hb, hml, hown, hts, hG, hb0, hlk, htr, hr, hnm⟩ := hX
  obtain ⟨htab, hNC⟩ := ht
  intro H ls locs L f q ce hP hD hk hS hl hcell hv hcl
  refine vx_catch (own := own) (name := E) hown (tableOf pre) ⟨z.1, z.2.1, z.2.2.1, z.2.2.2⟩ (tableOf suf) ?_ ?_ ?_ h0 (hts _ hlink) (va_Nw.use rfl (hG.2.1 _ hcast)) hcell hv hcl (kk q H ls locs L f hP hD hk hS hl)
  · rw [htab, hsp]
    show List.map _ (pre ++ z :: suf) = List.map _ pre ++ _ :: List.map _ suf
    rw [List.map_append, List.map_cons]
  · intro w hw
    obtain ⟨q, hq, rfl⟩ := List.mem_map.mp hw
    obtain ⟨h1, nm2, h2, h3, h4, h5⟩ := hps q hq
    exact Or.inr ⟨h1, nm2, hts _ h2, hNC E h3 nm2 h4 h5⟩
  · show (decide (z.1 ≤ pc) && decide (pc < z.2.1)) = true
    rw [decide_eq_true hcv.1, decide_eq_true hcv.2]
    rfl
end WR
