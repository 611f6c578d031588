/-! calls, ends and throws over EJ; a method's contract MC -/
def e_H2 (θ : e_T) (ph : e_PH) (t : State) : Prop := e_H θ ph t.heap
def e_Qc (θ : e_T) (Post : Option Value → e_PH → Prop) : Array Value → State → Outcome → State → Prop := fun _ st o t => (∃ v ph, o = .returned v ∧ Post v ph ∧ e_H θ ph t.heap) ∧ va_F (e_A θ) st t
def e_XC (θ : e_T) (PostX : String → e_PH → Prop) : String → State → State → Prop := fun E st t => (∃ ph, PostX E ph ∧ e_H θ ph t.heap) ∧ va_F (e_A θ) st t
/-- how deep (calls below), cells and slots that are made -/
def e_rm (d c s : Nat) : Room := { frames := 10 + d, cells := c, slots := s, locals := 150 + 40 * d }
def MC (y : MethodName) (cc : ByteArray) (nL : Nat) (ret : Option FieldType) (d mc ms : Nat) (l : Launch) (θ : e_T) (As : List Value) (ph : e_PH) (Post : Option Value → e_PH → Prop) (PostX : String → e_PH → Prop) : Prop :=
  vx_Met l y (.code y cc nL ret :: lw_good) (e_rm d mc ms) (va_Pc As (fun U => e_U θ ph U)) (e_Qc θ Post) (e_XC θ PostX) mc ms (e_A θ)
/-- the end that is owed -/
def e_qq (θ : e_T) (x : e_X) (Post : Option Value → e_PH → Prop) (PostX : String → e_PH → Prop) (mc ms : Nat) : Prop := match x with
  | (_, _, _, _, s, _, args, below, _, _, Q, _) => Q = vx_MQ below (e_Qc θ Post) (e_XC θ PostX) args s mc ms (e_A θ)
def e_nt (x : e_X) : Prop := match x with
  | (_, _, _, _, _, _, _, _, _, c, _, _) => ∀ z ∈ c.exceptionTable.toList, False
theorem e_blind {θ : e_T} {ph : e_PH} {As : List Value} : FrameBlind (va_Pc As (fun U => e_U θ ph U)) := fun a U g mk h => ⟨h.1, h.2.calling g mk a⟩
theorem MC.of {y : MethodName} {cc : ByteArray} {nL : Nat} {ret : Option FieldType} {d mc ms : Nat} {l : Launch} {θ : e_T} {As : List Value} {ph : e_PH} {Post : Option Value → e_PH → Prop} {PostX : String → e_PH → Prop} (htr : l.stackTraces = false)
    (hy : plainName y.cls = true) (hn : (lg_sl As).length ≤ nL)
    (body : ∀ x, e_in cc y.cls y.name nL ret (e_rm d mc ms) l θ x → e_qq θ x Post PostX mc ms → e_nt x → EJ θ x 0 (lv_args 0 As) [] ph 0 0) : MC y cc nL ret d mc ms l θ As ph Post PostX := by
  refine vx_ofW (cc := cc) (maxL := nL) (ret := ret) hy rfl ?_
  intro p e s m args below meth c s₁ B hml hnt hv
  obtain ⟨rfl, ⟨L, f, hP, hD, hk⟩, hG, hb0⟩ := hv
  have hts0 := atoms_spec (ws := .code y cc nL ret :: lw_good) B.pre
  have hown : s.vm.findClass y.cls = some m.cls := findClass_of_methodNamed B.named
  have hnm : meth.name = y.name := (name_of_methodNamed B.named B.method).1
  have hl := lv_entry As (n := nL) hn
  rw [lg_entry_eq]
  exact body (p, l, e, e_rm d mc ms, s, m, As.toArray, below, meth, c, vx_MQ below (e_Qc θ Post) (e_XC θ PostX) As.toArray s mc ms (e_A θ), nL) ⟨rfl, rfl, rfl, B.exec, B.bytes, hml, hown, fun w hw => hts0 w (List.mem_cons_of_mem _ hw), hG, hb0, B.notSynchronized, htr, B.returns, hnm⟩ rfl hnt s.heap _ [] L f hP hD hk va_S.rf hl
/-- the room of a call -/
abbrev e_fit (R : Room) (d nLy k n : Nat) : Prop := 10 + d + 1 ≤ R.frames ∧ 8 + (nLy + 11) + (150 + 40 * d) ≤ R.locals ∧ k ≤ R.cells ∧ n ≤ R.slots
section EC
variable {θ : e_T} {x : e_X} {pc nx tgt : Nat} {lv : List (Nat × Value)} {st : List Value} {ph : e_PH} {k n : Nat} {cc : ByteArray} {own nm : String} {nL : Nat} {ret : Option FieldType} {R : Room} {l : Launch} {Post PostX' : Option Value → e_PH → Prop} {PostX : String → e_PH → Prop}
/-- behind a call: what came back -/
theorem e_run {p : Program} {e : Env} {s : State} {m : MethodId} {args : Array Value} {below : List Frame} {meth : Method} {c : Code} {Q : State → Prop} {H : Heap} {locs : List Loc} {ls : Array Slot} {mc ms : Nat} {st0 : List Value} {a : Array Value}
    (hr : vx_Run p l e R s m args below meth c H locs k n mc ms (F0 m pc ls st0) st (e_Qc θ Post a) (e_XC θ PostX) (e_A θ)) (hS : va_S (e_A θ) s.heap H locs) (hl : lv_has ls nL lv)
    (kk : ∀ v ph', Post v ph' → EJ θ (p, l, e, R, s, m, args, below, meth, c, Q, nL) (pc + 3) lv (v.toList ++ st) ph' (k + mc) (n + ms))
    (kx : ∀ E ph', PostX E ph' → ET θ (p, l, e, R, s, m, args, below, meth, c, Q, nL) pc lv st ph' (k + mc) (n + ms) E) : W p l e R s m args below meth c H locs k n Q (F0 m pc ls st0) := by
  intro T hT X
  rcases hr T hT X with ⟨v, st₀, t, T', L0, h0, X', hL, e1, e2, ⟨⟨v', ph', hv, hp, L, f, hP, hD, hk⟩, hF⟩, sp⟩ | ⟨q, st₀, t, T', L0, E, ce, h0, X', hL, e1, e2, ⟨⟨ph', hp, L, f, hP, hD, hk⟩, hF⟩, hce, hcv, hcl, sp⟩
  · cases hv
    obtain ⟨k1, k2, k3⟩ := vx_keep h0 e1 hS (fun q _ h => h) (fun q h => h) hL hF
    obtain ⟨t2, a1, b1⟩ := kk v ph' hp T'.heap ls (locs ++ L0) L f (by rw [e1]; exact hP) hD hk k3 hl T' rfl X'
    exact ⟨t2, sp t2 a1, b1⟩
  · obtain ⟨k1, k2, k3⟩ := vx_keep h0 e1 hS (fun q _ h => h) (fun q h => h) hL hF
    obtain ⟨t2, a1, b1⟩ := kx E ph' hp T'.heap ls (locs ++ L0) L f q ce (by rw [e1]; exact hP) hD hk k3 hl (by rw [e1]; exact hce) hcv hcl T' rfl X'
    exact ⟨t2, sp.trans a1, b1⟩
theorem e_pre {s U : State} {H : Heap} {locs : List Loc} {L : List Nat} {f : Nat → va_E} (hP : va_P θ.1 e_cl (va_pl L f) H) (hD : va_D (e_A θ) (va_pl L f)) (hk : e_lk ph L f) (hS : va_S (e_A θ) s.heap H locs) (hG : e_GS θ s s.heap) (hb0 : θ.2.2.1 ≤ s.heap.size) (hU : U.heap = H) (hW : s.WarmedH U.vm) : e_U θ ph U :=
  ⟨⟨L, f, by rw [hU]; exact hP, hD, hk⟩, e_GS.warm hW (by rw [hU]; exact hG.kept hS.2.1), by rw [hU]; exact Nat.le_trans hb0 hS.1⟩
theorem e_callV (hX : e_in cc own nm nL ret R l θ x) {ci b d nLy mc ms np : Nat} {y : MethodName} {bb : ByteArray} {rty : Option FieldType} {As : List Value} {fs : List Value} {st0 : List Value} (hd : e_ivV cc own pc nx ci y bb nLy rty np) (hp : ph b = some (e_O ci fs)) (hM : MC y bb nLy rty d mc ms l θ (.ref b :: As) ph Post PostX) (h0 : As.reverse ++ .ref b :: st = st0) (hl0 : As.length = np) (hf : e_fit R d nLy (k + mc) (n + ms)) (hw : (st.map fun v => v.category).sum ≤ 8)
    (kx : ∀ E ph', PostX E ph' → ET θ x pc lv st ph' (k + mc) (n + ms) E) (kk : ∀ v ph', Post v ph' → EJ θ x nx lv (v.toList ++ st) ph' (k + mc) (n + ms)) : EJ θ x pc lv st0 ph k n := by
  obtain ⟨p, l', e, R', s, m, args, below, meth, c, Q, nL'⟩ := x
  obtain ⟨rfl, rfl, rfl, hx, hb, hml, hown, hts, hG, hb0, hlk, htr, hr, hnm⟩ := hX
  obtain ⟨idx, T, N, ⟨hd, rfl⟩, hc, ⟨hw1, hw2, hw3, hw4⟩, hw5, hw6, hw7⟩ := hd
  subst h0
  intro H ls locs L f hP hD hk hS hl
  obtain ⟨q0, hq⟩ := hk.get hp
  refine e_run (vx_runV (C := y.cls) (b := b) (As := As) (rest := st) (Ts := lw_good) (own := own) (n := np) ⟨hx, hb, hml, hown, hts⟩ hM ⟨callB_of np hts (e_goodIn _ rfl hw1) rfl rfl rfl (hts _ hw2) (hts _ hw5) ⟨hw3.1, hw3.2, hw4⟩ ⟨hf.1, hf.2.1⟩, hts _ hw6, hts _ hw7⟩ ⟨e_blind, va_recv hG.1 hP hc hq, fun U hU hW => ⟨rfl, e_pre hP hD hk hS hG hb0 hU hW⟩⟩ rfl hl0 hl.1 rfl (lv_room hw) hd ⟨hf.2.2.1, hf.2.2.2⟩) hS hl kk kx
theorem e_callU (hX : e_in cc own nm nL ret R l θ x) {ci b d nLy mc ms np : Nat} {y : MethodName} {bb : ByteArray} {rty : Option FieldType} {As : List Value} {fs : List Value} {st0 : List Value} (hd : e_ivU cc own pc nx ci y bb nLy rty np) (hp : ph b = some (e_O ci fs)) (hM : MC y bb nLy rty d mc ms l θ (.ref b :: As) ph Post PostX) (h0 : As.reverse ++ .ref b :: st = st0) (hl0 : As.length = np) (hf : e_fit R d nLy (k + mc) (n + ms)) (hw : (st.map fun v => v.category).sum ≤ 8)
    (kx : ∀ E ph', PostX E ph' → ET θ x pc lv st ph' (k + mc) (n + ms) E) (kk : ∀ v ph', Post v ph' → EJ θ x nx lv (v.toList ++ st) ph' (k + mc) (n + ms)) : EJ θ x pc lv st0 ph k n := by
  obtain ⟨p, l', e, R', s, m, args, below, meth, c, Q, nL'⟩ := x
  obtain ⟨rfl, rfl, rfl, hx, hb, hml, hown, hts, hG, hb0, hlk, htr, hr, hnm⟩ := hX
  obtain ⟨idx, C, T, N, ow, z, ⟨hd, rfl⟩, hc, hw1, hw2, hw3, hw4, hw5, hw6, hw7, hw8, hw9, bz, nz, rz, hw10⟩ := hd
  subst h0
  intro H ls locs L f hP hD hk hS hl
  obtain ⟨q0, hq⟩ := hk.get hp
  have hg := e_goodIn _ rfl hw1
  refine e_run (vx_runU (x := z) (C := C) (owner := ow) (b := b) (As := As) (rest := st) (Ts := lw_good) (own := own) (n := np) ⟨hx, hb, hml, hown, hts⟩ hM ⟨⟨rfl, rfl, hf.1, hf.2.1, pay_in hts hg, List.mem_cons_self⟩, hts _ hw1, hts _ hw2, hw3, fun sig h => by rw [h] at hw4; exact (Option.some.inj hw4).symm, hts _ hw5, hts _ hw8, va_Decl.of (hts _ hw9) (hts _ hw10), hts _ hw7, hts _ hw6⟩ ⟨e_blind, va_recv hG.1 hP hc hq, fun U hU hW => ⟨rfl, e_pre hP hD hk hS hG hb0 hU hW⟩⟩ rfl hl0 hl.1 rfl (lv_room hw) hd ⟨hf.2.2.1, hf.2.2.2⟩) hS hl kk kx
theorem e_callS (hX : e_in cc own nm nL ret R l θ x) {d nLy mc ms np : Nat} {y : MethodName} {bb : ByteArray} {rty : Option FieldType} {As : List Value} {st0 : List Value} (hd : e_ivS cc own pc nx y bb nLy rty np) (hM : MC y bb nLy rty d mc ms l θ As ph Post PostX) (h0 : As.reverse ++ st = st0) (hl0 : As.length = np) (hf : e_fit R d nLy (k + mc) (n + ms)) (hw : (st.map fun v => v.category).sum ≤ 8)
    (kx : ∀ E ph', PostX E ph' → ET θ x pc lv st ph' (k + mc) (n + ms) E) (kk : ∀ v ph', Post v ph' → EJ θ x nx lv (v.toList ++ st) ph' (k + mc) (n + ms)) : EJ θ x pc lv st0 ph k n := by
  obtain ⟨p, l', e, R', s, m, args, below, meth, c, Q, nL'⟩ := x
  obtain ⟨rfl, rfl, rfl, hx, hb, hml, hown, hts, hG, hb0, hlk, htr, hr, hnm⟩ := hX
  obtain ⟨idx, ⟨hd, rfl⟩, ⟨hw1, hw2, hw3, hw4⟩, hw5, hw6⟩ := hd
  subst h0
  intro H ls locs L f hP hD hk hS hl
  rcases hw5 with hw5 | ⟨host, hw5⟩
  · exact e_run (vx_runS (As := As) (rest := st) (Ts := lw_good) (own := own) (n := np) ⟨hx, hb, hml, hown, hts⟩ hM ⟨callB_of np hts (e_goodIn _ rfl hw1) rfl rfl rfl (hts _ hw2) (hts _ hw5) ⟨hw3.1, hw3.2, hw4⟩ ⟨hf.1, hf.2.1⟩, hts _ hw6⟩ ⟨e_blind, fun U hU hW => ⟨rfl, e_pre hP hD hk hS hG hb0 hU hW⟩⟩ rfl hl0 hl.1 rfl (lv_room hw) hd ⟨hf.2.2.1, hf.2.2.2⟩) hS hl kk kx
  · exact e_run (vx_runSN (As := As) (rest := st) (Ts := lw_good) (own := own) (n := np) ⟨hx, hb, hml, hown, hts⟩ hM ⟨va_cnB (ws' := lw_good) np hts (e_goodIn _ rfl hw1) rfl rfl rfl (hG.2.1 _ hw5) (hts _ hw2) ⟨hw3.1, hw3.2, hw4⟩ ⟨hf.1, hf.2.1⟩, hts _ hw6, trivial⟩ ⟨e_blind, fun U hU hW => ⟨rfl, e_pre hP hD hk hS hG hb0 hU hW⟩⟩ rfl hl0 hl.1 rfl (lv_room hw) hd ⟨hf.2.2.1, hf.2.2.2⟩) hS hl kk kx
theorem e_callI (hX : e_in cc own nm nL ret R l θ x) {b d nLy mc ms np : Nat} {y : MethodName} {bb : ByteArray} {As : List Value} {st0 : List Value} (hd : e_ivI cc own pc nx y bb nLy np) (hM : MC y bb nLy none d mc ms l θ (.ref b :: As) ph Post PostX) (h0 : As.reverse ++ .ref b :: st = st0) (hl0 : As.length = np) (hf : e_fit R d nLy (k + mc) (n + ms)) (hw : (st.map fun v => v.category).sum ≤ 8)
    (kx : ∀ E ph', PostX E ph' → ET θ x pc lv st ph' (k + mc) (n + ms) E) (kk : ∀ v ph', Post v ph' → EJ θ x nx lv (v.toList ++ st) ph' (k + mc) (n + ms)) : EJ θ x pc lv st0 ph k n := by
  obtain ⟨p, l', e, R', s, m, args, below, meth, c, Q, nL'⟩ := x
  obtain ⟨rfl, rfl, rfl, hx, hb, hml, hown, hts, hG, hb0, hlk, htr, hr, hnm⟩ := hX
  obtain ⟨idx, ⟨hd, rfl⟩, ⟨hw1, hw2, hw3, hw4⟩, hw5, hw6, hw7⟩ := hd
  subst h0
  intro H ls locs L f hP hD hk hS hl
  rcases hw5 with hw5 | ⟨host, hw5⟩
  · exact e_run (vx_runI (b := b) (As := As) (rest := st) (Ts := lw_good) (own := own) (n := np) ⟨hx, hb, hml, hown, hts⟩ hM ⟨callB_of np hts (e_goodIn _ rfl hw1) rfl rfl rfl (hts _ hw2) (hts _ hw5) ⟨hw3.1, hw3.2, hw4⟩ ⟨hf.1, hf.2.1⟩, hw7, hts _ hw6⟩ ⟨e_blind, fun U hU hW => ⟨rfl, e_pre hP hD hk hS hG hb0 hU hW⟩⟩ rfl hl0 hl.1 rfl (lv_room hw) hd ⟨hf.2.2.1, hf.2.2.2⟩) hS hl kk kx
  · exact e_run (vx_runIN (b := b) (As := As) (rest := st) (Ts := lw_good) (own := own) (n := np) ⟨hx, hb, hml, hown, hts⟩ hM ⟨va_cnB (ws' := lw_good) np hts (e_goodIn _ rfl hw1) rfl rfl rfl (hG.2.1 _ hw5) (hts _ hw2) ⟨hw3.1, hw3.2, hw4⟩ ⟨hf.1, hf.2.1⟩, hw7, hts _ hw6⟩ ⟨e_blind, fun U hU hW => ⟨rfl, e_pre hP hD hk hS hG hb0 hU hW⟩⟩ rfl hl0 hl.1 rfl (lv_room hw) hd ⟨hf.2.2.1, hf.2.2.2⟩) hS hl kk kx
theorem e_obj (hX : e_in cc own nm nL ret R l θ x) {a idx : Nat} (hd : e_at cc pc (.invokespecial idx) 3 nx) (hw1 : e_w (.methodLink own idx objectInit)) (hw2 : e_w (.instanceMethod objectInit)) (hw3 : e_w (.code objectInit ⟨#[0xb1]⟩ 1 none)) (hf : 1 ≤ R.frames ∧ (st.map fun v => v.category).sum + 12 ≤ R.locals) (kk : EJ θ x nx lv st ph k n) : EJ θ x pc lv (.ref a :: st) ph k n := by
  obtain ⟨p, l', e, R', s, m, args, below, meth, c, Q, nL'⟩ := x
  obtain ⟨rfl, rfl, rfl, hx, hb, hml, hown, hts, hG, hb0, hlk, htr, hr, hnm⟩ := hX
  obtain ⟨hd, rfl⟩ := hd
  intro H ls locs L f hP hD hk hS hl
  exact W.objInit hx hb hown (hts _ hw1) (hts _ hw2) (hts _ hw3) rfl (hl.1.trans hml.symm) rfl hd hf.1 (by show 2 * 0 + _ + 12 ≤ _; omega) (kk H ls locs L f hP hD hk hS hl)
/-- ends -/
theorem e_post {s : State} {args : Array Value} {v : Option Value} {H : Heap} {locs : List Loc} {L : List Nat} {f : Nat → va_E} (hp : Post v ph) (hP : va_P θ.1 e_cl (va_pl L f) H) (hD : va_D (e_A θ) (va_pl L f)) (hk : e_lk ph L f) (hS : va_S (e_A θ) s.heap H locs) : ∀ t : State, t.heap = H → s.WarmedH t.vm → e_Qc θ Post args s (.returned v) t := fun t ht _ => ⟨⟨v, ph, rfl, hp, L, f, by rw [ht]; exact hP, hD, hk⟩, hS.F ht⟩
theorem e_iret (hX : e_in cc own nm nL ret R l θ x) {mc ms : Nat} (hQ : e_qq θ x Post PostX mc ms) {v : Int32} (hd : e_at cc pc .ireturn 1 nx) (hr0 : ret = some .int) (h1 : k ≤ mc) (h2 : n ≤ ms) (hp : Post (some (.int v)) ph) : EJ θ x pc lv [.int v] ph k n := by
  obtain ⟨p, l', e, R', s, m, args, below, meth, c, Q, nL'⟩ := x
  obtain ⟨rfl, rfl, rfl, hx, hb, hml, hown, hts, hG, hb0, hlk, htr, hr, hnm⟩ := hX
  obtain ⟨hd, rfl⟩ := hd
  cases hQ
  intro H ls locs L f hP hD hk hS hl
  exact W.widen h1 h2 (vx_ret (W.iret hx hb (hr.trans hr0) (e_post hp hP hD hk hS) hS.2.2 hd hlk))
theorem e_zret (hX : e_in cc own nm nL ret R l θ x) {mc ms : Nat} (hQ : e_qq θ x Post PostX mc ms) {v : Int32} (hd : e_at cc pc .ireturn 1 nx) (hr0 : ret = some .boolean) (hv : narrow .boolean (.int v) = .int v) (h1 : k ≤ mc) (h2 : n ≤ ms) (hp : Post (some (.int v)) ph) : EJ θ x pc lv [.int v] ph k n := by
  obtain ⟨p, l', e, R', s, m, args, below, meth, c, Q, nL'⟩ := x
  obtain ⟨rfl, rfl, rfl, hx, hb, hml, hown, hts, hG, hb0, hlk, htr, hr, hnm⟩ := hX
  obtain ⟨hd, rfl⟩ := hd
  cases hQ
  intro H ls locs L f hP hD hk hS hl
  exact W.widen h1 h2 (vx_ret (W.zret hx hb (hr.trans hr0) hv (e_post hp hP hD hk hS) hS.2.2 hd hlk))
theorem e_vret (hX : e_in cc own nm nL ret R l θ x) {mc ms : Nat} (hQ : e_qq θ x Post PostX mc ms) (hd : e_at cc pc .return_ 1 nx) (hr0 : ret = none) (h1 : k ≤ mc) (h2 : n ≤ ms) (hp : Post none ph) : EJ θ x pc lv [] ph k n := by
  obtain ⟨p, l', e, R', s, m, args, below, meth, c, Q, nL'⟩ := x
  obtain ⟨rfl, rfl, rfl, hx, hb, hml, hown, hts, hG, hb0, hlk, htr, hr, hnm⟩ := hX
  obtain ⟨hd, rfl⟩ := hd
  cases hQ
  intro H ls locs L f hP hD hk hS hl
  exact W.widen h1 h2 (vx_ret (W.vret hx hb (hr.trans hr0) (e_post hp hP hD hk hS) hS.2.2 hd hlk))
theorem e_lret (hX : e_in cc own nm nL ret R l θ x) {mc ms : Nat} (hQ : e_qq θ x Post PostX mc ms) {v : Int64} (hd : e_at cc pc .lreturn 1 nx) (hr0 : ret = some .long) (h1 : k ≤ mc) (h2 : n ≤ ms) (hp : Post (some (.long v)) ph) : EJ θ x pc lv [.long v] ph k n := by
  obtain ⟨p, l', e, R', s, m, args, below, meth, c, Q, nL'⟩ := x
  obtain ⟨rfl, rfl, rfl, hx, hb, hml, hown, hts, hG, hb0, hlk, htr, hr, hnm⟩ := hX
  obtain ⟨hd, rfl⟩ := hd
  cases hQ
  intro H ls locs L f hP hD hk hS hl
  exact W.widen h1 h2 (vx_ret (W.lret hx hb (hr.trans hr0) (e_post hp hP hD hk hS) hS.2.2 hd hlk))
theorem e_dret (hX : e_in cc own nm nL ret R l θ x) {mc ms : Nat} (hQ : e_qq θ x Post PostX mc ms) {v : UInt64} (hd : e_at cc pc .dreturn 1 nx) (hr0 : ret = some .double) (h1 : k ≤ mc) (h2 : n ≤ ms) (hp : Post (some (.double v)) ph) : EJ θ x pc lv [.double v] ph k n := by
  obtain ⟨p, l', e, R', s, m, args, below, meth, c, Q, nL'⟩ := x
  obtain ⟨rfl, rfl, rfl, hx, hb, hml, hown, hts, hG, hb0, hlk, htr, hr, hnm⟩ := hX
  obtain ⟨hd, rfl⟩ := hd
  cases hQ
  intro H ls locs L f hP hD hk hS hl
  exact W.widen h1 h2 (vx_ret (W.dret hx hb (hr.trans hr0) (e_post hp hP hD hk hS) hS.2.2 hd hlk))
theorem e_fret (hX : e_in cc own nm nL ret R l θ x) {mc ms : Nat} (hQ : e_qq θ x Post PostX mc ms) {v : UInt32} (hd : e_at cc pc .freturn 1 nx) (hr0 : ret = some .float) (h1 : k ≤ mc) (h2 : n ≤ ms) (hp : Post (some (.float v)) ph) : EJ θ x pc lv [.float v] ph k n := by
  obtain ⟨p, l', e, R', s, m, args, below, meth, c, Q, nL'⟩ := x
  obtain ⟨rfl, rfl, rfl, hx, hb, hml, hown, hts, hG, hb0, hlk, htr, hr, hnm⟩ := hX
  obtain ⟨hd, rfl⟩ := hd
  cases hQ
  intro H ls locs L f hP hD hk hS hl
  exact W.widen h1 h2 (vx_ret (W.fret hx hb (hr.trans hr0) (e_post hp hP hD hk hS) hS.2.2 hd hlk))
theorem e_aret (hX : e_in cc own nm nL ret R l θ x) {mc ms : Nat} (hQ : e_qq θ x Post PostX mc ms) {a : Nat} {rt : FieldType} (hd : e_at cc pc .areturn 1 nx) (hr0 : ret = some rt) (hrt : (∃ n, rt = .object n) ∨ ∃ t, rt = .array t) (h1 : k ≤ mc) (h2 : n ≤ ms) (hp : Post (some (.ref a)) ph) : EJ θ x pc lv [.ref a] ph k n := by
  obtain ⟨p, l', e, R', s, m, args, below, meth, c, Q, nL'⟩ := x
  obtain ⟨rfl, rfl, rfl, hx, hb, hml, hown, hts, hG, hb0, hlk, htr, hr, hnm⟩ := hX
  obtain ⟨hd, rfl⟩ := hd
  cases hQ
  intro H ls locs L f hP hD hk hS hl
  exact W.widen h1 h2 (vx_ret (W.aret hx hb (hr.trans hr0) hrt (Or.inr ⟨a, rfl⟩) (e_post hp hP hD hk hS) hS.2.2 hd hlk))
theorem e_throw (hX : e_in cc own nm nL ret R l θ x) {E : String} (hd : e_thr cc own pc E) (hf : 5 < R.frames ∧ (st.map fun v => v.category).sum + 82 ≤ R.locals ∧ k + 1 ≤ R.cells ∧ n + 6 ≤ R.slots) (kk : ET θ x (pc + 9) lv st ph (k + 1) (n + 6) E) : EJ θ x pc lv st ph k n := by
  obtain ⟨p, l', e, R', s, m, args, below, meth, c, Q, nL'⟩ := x
  obtain ⟨rfl, rfl, rfl, hx, hb, hml, hown, hts, hG, hb0, hlk, htr, hr, hnm⟩ := hX
  obtain ⟨ik, is, ic, ci, tx, hc, d0, d3, d4, d6, d9, hfit, hw1, hw2, hw3, hw4⟩ := hd
  intro H ls locs L f hP hD hk hS hl
  obtain ⟨sa, hstr⟩ := hG.2.2.2.2.2.2.2.2.2.2.2 _ _ _ hw3
  have hat : ∀ w ∈ vx_atS own ic E ["java/lang/RuntimeException", "java/lang/Exception"], w.before args s = true := fun w hw => by
    obtain ⟨h1, h2⟩ := hw4 w hw
    rcases h1 with h1 | h1
    · exact hts w h1
    · refine va_Nw.use ?_ (hG.2.1 w h1)
      have h3 := (List.mem_filter.mp h1).2
      cases w <;> first | rfl | (exfalso; revert h3; decide) | (exfalso; cases h3)
  refine vx_makeS (A := e_A θ) (T0 := TE0) hx hb htr hown hfit (by decide) (hts _ hw1) (hts _ hw2) hstr hat (fun w hw => ?_) hG.2.2.1 hG.2.2.2.1 hS (hl.1.trans hml.symm) d0 d3 d4 d6 hG.1 hP hD (fun q h => Nat.le_trans hb0 h) hc hf.1 (by show _ + 82 ≤ _; exact hf.2.1) hf.2.2.1 hf.2.2.2 (fun q H1 hP1 hD1 hS1 => ?_)
  · rcases List.mem_cons.mp hw with rfl | hw
    · rfl
    · rcases List.mem_cons.mp hw with rfl | hw
      · rfl
      · exact (hw4 w hw).2
  · refine vx_athrow hx hb d9 ?_
    have hl9 : (va_pl L f ++ [(q, Sum.inr (ci, []))])[(va_pl L f).length]? = some (q, (Sum.inr (ci, []) : va_E)) := by simp
    obtain ⟨r, h1, ce, g1, g2, g3, -⟩ := hP1 _ _ hl9
    have hr0 : r = (E, TE0, 0) := Option.some.inj (h1.symm.trans hc)
    have hcl : s.vm.findClass E = some ce.cls := by rw [g2]; exact (hG.1.1 ci _ hc).2.1
    have hP2 : va_P θ.1 e_cl (va_pl L f) H1 := fun j z hz => hP1 j z (by rw [List.getElem?_append_left (List.getElem?_eq_some_iff.mp hz).1]; exact hz)
    exact kk H1 ls locs L f q ce hP2 hD hk hS1 hl g1 g3 hcl
theorem e_out {mc ms : Nat} (hX : e_in cc own nm nL ret R l θ x) (hQ : e_qq θ x Post PostX mc ms) (hT : e_nt x) {E : String} (h1 : k ≤ mc) (h2 : n ≤ ms) (hp : PostX E ph) : ET θ x pc lv st ph k n E := by
  obtain ⟨p, l', e, R', s, m, args, below, meth, c, Q, nL'⟩ := x
  obtain ⟨rfl, rfl, rfl, hx, hb, hml, hown, hts, hG, hb0, hlk, htr, hr, hnm⟩ := hX
  cases hQ
  intro H ls locs L f q ce hP hD hk hS hl hcell hv hcl
  exact vx_out (fun z hz => absurd (hT z hz) id) hlk hcell hv hcl (fun t ht _ => ⟨⟨ph, hp, L, f, by rw [ht]; exact hP, hD, hk⟩, hS.F ht⟩) hS.2.2 h1 h2
theorem e_throwW {mc ms : Nat} (hX : e_in cc own nm nL ret R l θ x) (hQ : e_qq θ x Post PostX mc ms) (hT : e_nt x) {E : String} (hd : e_thrW cc own pc E) (hf : 5 < R.frames ∧ (st.map fun v => v.category).sum + 82 ≤ R.locals ∧ k + 1 ≤ R.cells ∧ n + 6 ≤ R.slots) (h1 : k + 1 ≤ mc) (h2 : n + 6 ≤ ms) (hp : PostX E ph) : EJ θ x pc lv st ph k n := by
  obtain ⟨p, l', e, R', s, m, args, below, meth, c, Q, nL'⟩ := x
  obtain ⟨rfl, rfl, rfl, hx, hb, hml, hown, hts, hG, hb0, hlk, htr, hr, hnm⟩ := hX
  obtain ⟨ik, is, ic, tx, d0, d3, d4, d6, d9, hfit, hw1, hw2, hw3, hw4⟩ := hd
  cases hQ
  intro H ls locs L f hP hD hk hS hl
  obtain ⟨sa, hstr⟩ := hG.2.2.2.2.2.2.2.2.2.2.2 _ _ _ hw3
  have hat : ∀ w ∈ vx_atS own ic E ["java/lang/RuntimeException", "java/lang/Exception"], w.before args s = true := fun w hw => by
    obtain ⟨h1, h2⟩ := hw4 w hw
    rcases h1 with h1 | h1
    · exact hts w h1
    · refine va_Nw.use ?_ (hG.2.1 w h1)
      have h3 := (List.mem_filter.mp h1).2
      cases w <;> first | rfl | (exfalso; revert h3; decide) | (exfalso; cases h3)
  refine vx_throwSW (A := e_A θ) hx hb htr hown hfit (by decide) (hts _ hw1) (hts _ hw2) hstr hat (fun w hw => ?_) hG.2.2.1 hG.2.2.2.1 hS (hl.1.trans hml.symm) d0 d3 d4 d6 d9 (fun z hz => absurd (hT z hz) id) hf.1 (by show _ + 82 ≤ _; exact hf.2.1) hf.2.2.1 hf.2.2.2 hlk (fun t _ hz hq => ?_) hS.2.2 h1 h2
  · rcases List.mem_cons.mp hw with rfl | hw
    · rfl
    · rcases List.mem_cons.mp hw with rfl | hw
      · rfl
      · exact (hw4 w hw).2
  · exact ⟨⟨ph, hp, L, f, hP.kept (fun j z hz => hq z.1 (hP j z hz).lt), hD, hk⟩, ⟨Nat.le_trans hS.1 hz, fun q g1 g2 => (hq q (Nat.lt_of_lt_of_le g1 hS.1)).trans (hS.2.1 q g1 g2)⟩⟩
theorem e_throwN (hX : e_in cc own nm nL ret R l θ x) {E : String} (hd : e_thrN cc own pc E) (hf : 5 < R.frames ∧ (st.map fun v => v.category).sum + 82 ≤ R.locals ∧ k + 1 ≤ R.cells ∧ n + 6 ≤ R.slots) (kk : ET θ x (pc + 9) lv st ph (k + 1) (n + 6) E) : EJ θ x pc lv st ph k n := by
  obtain ⟨p, l', e, R', s, m, args, below, meth, c, Q, nL'⟩ := x
  obtain ⟨rfl, rfl, rfl, hx, hb, hml, hown, hts, hG, hb0, hlk, htr, hr, hnm⟩ := hX
  obtain ⟨ik, is, ic, ci, ix, rx, tx, hc, d0, d3, d4, d6, d9, ⟨x0, x1, x2, x5⟩, hfit, hw1, hw2, hw3, hw4⟩ := hd
  intro H ls locs L f hP hD hk hS hl
  obtain ⟨sa, hstr⟩ := hG.2.2.2.2.2.2.2.2.2.2.2 _ _ _ hw3
  have hat : ∀ w ∈ ex_at own ic E ix rx ["java/lang/RuntimeException", "java/lang/Exception"], w.before args s = true := fun w hw => by
    obtain ⟨h1, h2⟩ := hw4 w hw
    rcases h1 with h1 | h1
    · exact hts w h1
    · refine va_Nw.use ?_ (hG.2.1 w h1)
      have h3 := (List.mem_filter.mp h1).2
      cases w <;> first | rfl | (exfalso; revert h3; decide) | (exfalso; cases h3)
  refine ex_makeS (A := e_A θ) (T0 := TE0) x0 x1 x2 x5 hx hb htr hown hfit (by decide) (hts _ hw1) (hts _ hw2) hstr hat (fun w hw => ?_) hG.2.2.1 hG.2.2.2.1 hS (hl.1.trans hml.symm) d0 d3 d4 d6 hG.1 hP hD (fun q h => Nat.le_trans hb0 h) hc hf.1 (by show _ + 82 ≤ _; exact hf.2.1) hf.2.2.1 hf.2.2.2 (fun q H1 hP1 hD1 hS1 => ?_)
  · rcases List.mem_cons.mp hw with rfl | hw
    · rfl
    · rcases List.mem_cons.mp hw with rfl | hw
      · rfl
      · exact (hw4 w hw).2
  · refine vx_athrow hx hb d9 ?_
    have hl9 : (va_pl L f ++ [(q, Sum.inr (ci, []))])[(va_pl L f).length]? = some (q, (Sum.inr (ci, []) : va_E)) := by simp
    obtain ⟨r, h1, ce, g1, g2, g3, -⟩ := hP1 _ _ hl9
    have hr0 : r = (E, TE0, 0) := Option.some.inj (h1.symm.trans hc)
    have hcl : s.vm.findClass E = some ce.cls := by rw [g2]; exact (hG.1.1 ci _ hc).2.1
    have hP2 : va_P θ.1 e_cl (va_pl L f) H1 := fun j z hz => hP1 j z (by rw [List.getElem?_append_left (List.getElem?_eq_some_iff.mp hz).1]; exact hz)
    exact kk H1 ls locs L f q ce hP2 hD hk hS1 hl g1 g3 hcl
theorem e_throwNW (hX : e_in cc own nm nL ret R l θ x) {E : String} (hd : e_thrNW cc own pc E) (hf : 5 < R.frames ∧ (st.map fun v => v.category).sum + 82 ≤ R.locals ∧ k + 1 ≤ R.cells ∧ n + 6 ≤ R.slots) (kk : ET θ x (pc + 10) lv st ph (k + 1) (n + 6) E) : EJ θ x pc lv st ph k n := by
  obtain ⟨p, l', e, R', s, m, args, below, meth, c, Q, nL'⟩ := x
  obtain ⟨rfl, rfl, rfl, hx, hb, hml, hown, hts, hG, hb0, hlk, htr, hr, hnm⟩ := hX
  obtain ⟨ik, is, ic, ci, ix, rx, tx, hc, d0, d3, d4, d6, d9, ⟨x0, x1, x2, x5⟩, hfit, hw1, hw2, hw3, hw4⟩ := hd
  intro H ls locs L f hP hD hk hS hl
  obtain ⟨sa, hstr⟩ := hG.2.2.2.2.2.2.2.2.2.2.2 _ _ _ hw3
  have hat : ∀ w ∈ ex_at own ic E ix rx ["java/lang/RuntimeException", "java/lang/Exception"], w.before args s = true := fun w hw => by
    obtain ⟨h1, h2⟩ := hw4 w hw
    rcases h1 with h1 | h1
    · exact hts w h1
    · refine va_Nw.use ?_ (hG.2.1 w h1)
      have h3 := (List.mem_filter.mp h1).2
      cases w <;> first | rfl | (exfalso; revert h3; decide) | (exfalso; cases h3)
  refine ex_makeSW (A := e_A θ) (T0 := TE0) x0 x1 x2 x5 hx hb htr hown hfit (by decide) (hts _ hw1) (hts _ hw2) hstr hat (fun w hw => ?_) hG.2.2.1 hG.2.2.2.1 hS (hl.1.trans hml.symm) d0 d3 d4 d6 hG.1 hP hD (fun q h => Nat.le_trans hb0 h) hc hf.1 (by show _ + 82 ≤ _; exact hf.2.1) hf.2.2.1 hf.2.2.2 (fun q H1 hP1 hD1 hS1 => ?_)
  · rcases List.mem_cons.mp hw with rfl | hw
    · rfl
    · rcases List.mem_cons.mp hw with rfl | hw
      · rfl
      · exact (hw4 w hw).2
  · refine vx_athrow hx hb d9 ?_
    have hl9 : (va_pl L f ++ [(q, Sum.inr (ci, []))])[(va_pl L f).length]? = some (q, (Sum.inr (ci, []) : va_E)) := by simp
    obtain ⟨r, h1, ce, g1, g2, g3, -⟩ := hP1 _ _ hl9
    have hr0 : r = (E, TE0, 0) := Option.some.inj (h1.symm.trans hc)
    have hcl : s.vm.findClass E = some ce.cls := by rw [g2]; exact (hG.1.1 ci _ hc).2.1
    have hP2 : va_P θ.1 e_cl (va_pl L f) H1 := fun j z hz => hP1 j z (by rw [List.getElem?_append_left (List.getElem?_eq_some_iff.mp hz).1]; exact hz)
    exact kk H1 ls locs L f q ce hP2 hD hk hS1 hl g1 g3 hcl
end EC
