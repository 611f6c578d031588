/-! THE E LAYER: a pure heap (a map from addresses to cells), locals as a list, the stack as a list; one judgement over them, a row an instruction. -/
/-- a pure heap: which cell lies where (only cells that the law made) -/
abbrev e_PH : Type := Nat → Option va_E
/-- what a launch fixes: class numbers and slots, classes of arrays, the size of the heap at the law's entry, the addresses of String constants, the empty row of ArrayList -/
abbrev e_T : Type := va_G × (Nat → ClassId) × Nat × (Nat → Nat) × Nat
def e_A (θ : e_T) : Nat → Prop := fun q => θ.2.2.1 ≤ q
/-- the classes of arrays: int, boolean, long, double, Object, int[] -/
def e_tys (θ : e_T) : List (ClassId × FieldType) := [(θ.2.1 0, .int), (θ.2.1 1, .int), (θ.2.1 2, .int), (θ.2.1 3, .int), (θ.2.1 4, .object "java/lang/Object"), (θ.2.1 5, .array .int)]
/-- the pure heap is the world (L, f) -/
def e_lk (ph : e_PH) (L : List Nat) (f : Nat → va_E) : Prop := ∀ a e, ph a = some e ↔ (a ∈ L ∧ f a = e)
def e_up (ph : e_PH) (a : Nat) (e : va_E) : e_PH := fun b => if b = a then some e else ph b
theorem e_up_s {ph : e_PH} {a : Nat} {e : va_E} : e_up ph a e a = some e := if_pos rfl
theorem e_up_n {ph : e_PH} {a b : Nat} {e : va_E} (h : b ≠ a) : e_up ph a e b = ph b := if_neg h
theorem e_lk.mem {ph : e_PH} {L : List Nat} {f : Nat → va_E} (h : e_lk ph L f) {a : Nat} {e : va_E} (ha : ph a = some e) : a ∈ L ∧ f a = e := (h a e).mp ha
theorem e_lk.get {ph : e_PH} {L : List Nat} {f : Nat → va_E} (h : e_lk ph L f) {a : Nat} {e : va_E} (ha : ph a = some e) : ∃ k : Nat, (va_pl L f)[k]? = some (a, e) := by
  obtain ⟨h1, rfl⟩ := h.mem ha
  exact va_pl_get (X := []) h1
theorem e_lk.set {ph : e_PH} {L : List Nat} {f : Nat → va_E} (h : e_lk ph L f) {a : Nat} {e0 e : va_E} (ha : ph a = some e0) : e_lk (e_up ph a e) L (va_up f a e) := by
  intro b e'
  by_cases hb : b = a
  · subst hb
    rw [e_up_s]
    exact ⟨fun q => ⟨(h.mem ha).1, by rw [show va_up f b e b = e from if_pos rfl]; exact Option.some.inj q⟩, fun q => by rw [show va_up f b e b = e from if_pos rfl] at q; rw [q.2]⟩
  · rw [e_up_n hb, h b e', show va_up f a e b = f b from if_neg hb]
theorem e_lk.none {ph : e_PH} {L : List Nat} {f : Nat → va_E} (h : e_lk ph L f) {a : Nat} (ha : a ∉ L) : ph a = none := by
  cases hp : ph a with
  | none => rfl
  | some e => exact absurd (h.mem hp).1 ha
theorem e_lk.push {ph : e_PH} {L : List Nat} {f : Nat → va_E} (h : e_lk ph L f) {a : Nat} {e : va_E} (ha : a ∉ L) : e_lk (e_up ph a e) (L ++ [a]) (va_up f a e) := by
  intro b e'
  by_cases hb : b = a
  · subst hb
    rw [e_up_s]
    exact ⟨fun q => ⟨List.mem_append_right _ List.mem_cons_self, by rw [show va_up f b e b = e from if_pos rfl]; exact Option.some.inj q⟩, fun q => by rw [show va_up f b e b = e from if_pos rfl] at q; rw [q.2]⟩
  · rw [e_up_n hb, h b e', show va_up f a e b = f b from if_neg hb]
    constructor
    · exact fun q => ⟨List.mem_append_left _ q.1, q.2⟩
    · intro q
      rcases List.mem_append.mp q.1 with q1 | q1
      · exact ⟨q1, q.2⟩
      · exact absurd (List.mem_singleton.mp q1) hb
/-- setting a place of the world -/
theorem e_set {A : Nat → Prop} {L : List Nat} {f : Nat → va_E} {a k : Nat} {e e0 : va_E} (hD : va_D A (va_pl L f)) (hk : (va_pl L f)[k]? = some (a, e0)) (ha : a ∈ L) (hf : f a = e0) : (va_pl L f).set k (a, e) = va_pl L (va_up f a e) := by
  subst hf
  have := va_pl_set (X := []) (e := e) (by simpa using hD) ha (k := k) (by simpa using hk)
  simpa using this
theorem e_goodIn (w0 : Cond) (h : goodWord w0 = true) (h2 : w0 ∈ lw_good) : GoodIn lw_good (w0 :: lw_good) := by
  intro w hw
  rcases List.mem_cons.mp hw with rfl | hw
  · exact ⟨h2, good_of_word h⟩
  · exact ⟨hw, good_of_word (List.mem_filter.mp hw).2⟩
/-- the launch's standing facts: classes, arrays, nest mates' words, the statics of Throwable and ArrayList -/
def e_GS (θ : e_T) (U : State) (H : Heap) : Prop :=
  va_K θ.1 e_cl (e_tys θ) U ∧ (∀ w ∈ lw_nest, va_Nw w U) ∧
  vx_Zq Bundle.tN "UNASSIGNED_STACK" Bundle.steD (e_A θ) U H ∧ vx_Zq Bundle.tN "SUPPRESSED_SENTINEL" Bundle.listD (e_A θ) U H ∧
  va_Z "java/util/ArrayList" "DEFAULTCAPACITY_EMPTY_ELEMENTDATA" "[Ljava/lang/Object;" (.ref θ.2.2.2.2) (e_A θ) U H ∧ va_T (.object "java/lang/Object") θ.2.2.2.2 0 (fun _ => .null) (e_A θ) U H ∧
  va_AO "java/lang/Object" U ∧ va_AOA .int U ∧ U.vm.findClass (FieldType.array .int).toString = some (θ.2.1 0) ∧
  va_Mi "[Ljava/lang/Object;" (θ.2.2.2.1 1) U ∧ va_Dc U ∧
  (∀ own k tx, Cond.stringRef own k tx ∈ lw_tbl → ∃ a, vk_R own k tx a U)
theorem e_nw {w : Cond} (hw : w ∈ lw_nest) {s U : State} (hW : s.WarmedH U.vm) (h : va_Nw w s) : va_Nw w U := by
  have h2 := (List.mem_filter.mp hw).2
  cases w <;> first | exact va_Nw.warmF hW h | exact va_Nw.warmM hW h | exact va_Nw.warmC hW h | exact va_Nw.warmD hW h | (exfalso; revert h2; decide) | (exfalso; cases h2)
theorem va_AOA.moved {u U : State} (hvm : u.vm.Alike U.vm) (h : va_AOA .int u) : va_AOA .int U := by
  have e := Cond.arrayOver_setVmC (args := #[]) (s := u) (vm' := U.vm) hvm (.array .int)
  have e2 : (Cond.arrayOver (.array .int)).before #[] (u.setVm U.vm) = (Cond.arrayOver (.array .int)).before #[] U := rfl
  unfold va_AOA at h ⊢
  rw [← e2, e]
  exact h
theorem e_GS.warm {θ : e_T} {s U : State} {H : Heap} (hW : s.WarmedH U.vm) (h : e_GS θ s H) : e_GS θ U H := by
  obtain ⟨h1, h2, h3, h4, h5, h6, h7, h8, h9, h10, h11, h12⟩ := h
  have al := hW.alike
  refine ⟨va_K.moved al h1, fun w hw => e_nw hw hW (h2 w hw), h3.moved al, h4.moved al, va_Z.moved al h5, h6.moved al, h7.moved al, h8.moved al, by rw [al.findClass]; exact h9, h10.moved al, h11.moved al, fun own k tx hm => ?_⟩
  obtain ⟨a, q⟩ := h12 own k tx hm
  exact ⟨a, vk_R.warm hW q⟩
theorem e_GS.kept {θ : e_T} {U : State} {H H1 : Heap} (h : e_GS θ U H) (hq : ∀ a : Nat, a < H.size → ¬ e_A θ a → H1[a]? = H[a]?) : e_GS θ U H1 := by
  obtain ⟨h1, h2, h3, h4, h5, h6, h7⟩ := h
  exact ⟨h1, h2, h3.kept hq, h4.kept hq, va_Z.kept h5 hq, h6.kept hq, h7⟩
/-- the world of a state -/
def e_H (θ : e_T) (ph : e_PH) (H : Heap) : Prop := ∃ L f, va_P θ.1 e_cl (va_pl L f) H ∧ va_D (e_A θ) (va_pl L f) ∧ e_lk ph L f
def e_U (θ : e_T) (ph : e_PH) (U : State) : Prop := e_H θ ph U.heap ∧ e_GS θ U U.heap ∧ θ.2.2.1 ≤ U.heap.size
theorem e_U.calling {θ : e_T} {ph : e_PH} {U : State} (g : JFrame) (mk : MethodId) (a : Array Value) (h : e_U θ ph U) : e_U θ ph (U.calling g mk a) :=
  ⟨h.1, e_GS.warm (s := U) (U := U.calling g mk a) (State.WarmedH.refl U) h.2.1, h.2.2⟩
/-- where a method stands -/
abbrev e_X : Type := Program × Launch × Env × Room × State × MethodId × Array Value × List Frame × Method × Code × (State → Prop) × Nat
def e_in (cc : ByteArray) (own nm : String) (nL : Nat) (ret : Option FieldType) (R : Room) (l : Launch) (θ : e_T) (x : e_X) : Prop := match x with
  | (p, l', _, R', s, m, args, _, meth, c, _, nL') => l' = l ∧ R' = R ∧ nL' = nL ∧ p.tables.exec = Jvm.exec ∧ c.code = cc ∧ c.maxLocals = nL ∧ s.vm.findClass own = some m.cls ∧ (∀ w ∈ lw_good, w.before args s = true) ∧ e_GS θ s s.heap ∧ θ.2.2.1 ≤ s.heap.size ∧ meth.locks = false ∧ l.stackTraces = false ∧ meth.sig.returnType = ret ∧ meth.name = nm
/-- the judgement: from here the method comes to its end -/
def EJ (θ : e_T) (x : e_X) (pc : Nat) (lv : List (Nat × Value)) (st : List Value) (ph : e_PH) (k n : Nat) : Prop := match x with
  | (p, l, e, R, s, m, args, below, meth, c, Q, nL) => ∀ (H : Heap) (ls : Array Slot) (locs : List Loc) (L : List Nat) (f : Nat → va_E), va_P θ.1 e_cl (va_pl L f) H → va_D (e_A θ) (va_pl L f) → e_lk ph L f → va_S (e_A θ) s.heap H locs → lv_has ls nL lv → W p l e R s m args below meth c H locs k n Q (F0 m pc ls st)
/-- .. with something thrown, of the class E -/
def ET (θ : e_T) (x : e_X) (pc : Nat) (lv : List (Nat × Value)) (st : List Value) (ph : e_PH) (k n : Nat) (E : String) : Prop := match x with
  | (p, l, e, R, s, m, args, below, meth, c, Q, nL) => ∀ (H : Heap) (ls : Array Slot) (locs : List Loc) (L : List Nat) (f : Nat → va_E) (q : Nat) (ce : Cell), va_P θ.1 e_cl (va_pl L f) H → va_D (e_A θ) (va_pl L f) → e_lk ph L f → va_S (e_A θ) s.heap H locs → lv_has ls nL lv → H[q]? = some ce → ce.vm = .none → s.vm.findClass E = some ce.cls → vx_W p l e R s m args below meth c H locs k n Q (F0 m pc ls st) q
/-- a local by its number -/
def lkp (lv : List (Nat × Value)) (i : Nat) : Option Value := match lv with
  | [] => none
  | (j, v) :: r => if j = i then some v else lkp r i
theorem lkp_mem {lv : List (Nat × Value)} {i : Nat} {v : Value} (h : lkp lv i = some v) : (i, v) ∈ lv := by
  induction lv with
  | nil => cases h
  | cons q r ih =>
    obtain ⟨j, w⟩ := q
    unfold lkp at h
    by_cases e : j = i
    · rw [if_pos e] at h; cases h; subst e; exact List.mem_cons_self
    · rw [if_neg e] at h; exact List.mem_cons_of_mem _ (ih h)
theorem lkp_has {ls : Array Slot} {nL : Nat} {lv : List (Nat × Value)} {i : Nat} {v : Value} (hl : lv_has ls nL lv) (h : lkp lv i = some v) : ls[i]? = some (.val v) := hl.2.2 (i, v) (lkp_mem h)
/-- a local set: in its place, or behind; a word of two slots ahead of it goes -/
def lset (lv : List (Nat × Value)) (i : Nat) (v : Value) : List (Nat × Value) := match lv with
  | [] => [(i, v)]
  | (j, w) :: r => if j = i then (i, v) :: r.filter (fun q => !(q.1 == i) && !(q.1 + 1 == i && q.2.category == 2)) else if j + 1 = i ∧ w.category = 2 then lset r i v else (j, w) :: lset r i v
def lset2 (lv : List (Nat × Value)) (i : Nat) (v : Value) : List (Nat × Value) := match lv with
  | [] => [(i, v)]
  | (j, w) :: r => if j = i then (i, v) :: r.filter (fun q => !(q.1 == i) && (!(q.1 == i + 1) && !(q.1 + 1 == i && q.2.category == 2))) else if j = i + 1 ∨ (j + 1 = i ∧ w.category = 2) then lset2 r i v else (j, w) :: lset2 r i v
theorem lset_sub {lv : List (Nat × Value)} {i : Nat} {v : Value} : ∀ q ∈ lset lv i v, q ∈ (i, v) :: lv.filter (fun q => !(q.1 == i) && !(q.1 + 1 == i && q.2.category == 2)) := by
  induction lv with
  | nil => intro q hq; exact hq
  | cons a r ih =>
    obtain ⟨j, w⟩ := a
    intro q hq
    unfold lset at hq
    by_cases e : j = i
    · rw [if_pos e] at hq
      rcases List.mem_cons.mp hq with rfl | h
      · exact List.mem_cons_self
      · exact List.mem_cons_of_mem _ (List.mem_filter.mpr ⟨List.mem_cons_of_mem _ (List.mem_filter.mp h).1, (List.mem_filter.mp h).2⟩)
    · rw [if_neg e] at hq
      by_cases e2 : j + 1 = i ∧ w.category = 2
      · rw [if_pos e2] at hq
        rcases List.mem_cons.mp (ih q hq) with rfl | h
        · exact List.mem_cons_self
        · exact List.mem_cons_of_mem _ (List.mem_filter.mpr ⟨List.mem_cons_of_mem _ (List.mem_filter.mp h).1, (List.mem_filter.mp h).2⟩)
      · rw [if_neg e2] at hq
        rcases List.mem_cons.mp hq with rfl | h
        · exact List.mem_cons_of_mem _ (List.mem_filter.mpr ⟨List.mem_cons_self, by simp [e]; by_cases h1 : j + 1 = i; exact Or.inr (fun h2 => e2 ⟨h1, h2⟩); exact Or.inl h1⟩)
        · rcases List.mem_cons.mp (ih q h) with rfl | h
          · exact List.mem_cons_self
          · exact List.mem_cons_of_mem _ (List.mem_filter.mpr ⟨List.mem_cons_of_mem _ (List.mem_filter.mp h).1, (List.mem_filter.mp h).2⟩)
theorem lset2_sub {lv : List (Nat × Value)} {i : Nat} {v : Value} : ∀ q ∈ lset2 lv i v, q ∈ (i, v) :: lv.filter (fun q => !(q.1 == i) && (!(q.1 == i + 1) && !(q.1 + 1 == i && q.2.category == 2))) := by
  induction lv with
  | nil => intro q hq; exact hq
  | cons a r ih =>
    obtain ⟨j, w⟩ := a
    intro q hq
    unfold lset2 at hq
    by_cases e : j = i
    · rw [if_pos e] at hq
      rcases List.mem_cons.mp hq with rfl | h
      · exact List.mem_cons_self
      · exact List.mem_cons_of_mem _ (List.mem_filter.mpr ⟨List.mem_cons_of_mem _ (List.mem_filter.mp h).1, (List.mem_filter.mp h).2⟩)
    · rw [if_neg e] at hq
      by_cases e2 : j = i + 1 ∨ (j + 1 = i ∧ w.category = 2)
      · rw [if_pos e2] at hq
        rcases List.mem_cons.mp (ih q hq) with rfl | h
        · exact List.mem_cons_self
        · exact List.mem_cons_of_mem _ (List.mem_filter.mpr ⟨List.mem_cons_of_mem _ (List.mem_filter.mp h).1, (List.mem_filter.mp h).2⟩)
      · rw [if_neg e2] at hq
        rcases List.mem_cons.mp hq with rfl | h
        · exact List.mem_cons_of_mem _ (List.mem_filter.mpr ⟨List.mem_cons_self, by simp [e]; refine ⟨fun h1 => e2 (Or.inl h1), ?_⟩; by_cases h1 : j + 1 = i; exact Or.inr (fun h2 => e2 (Or.inr ⟨h1, h2⟩)); exact Or.inl h1⟩)
        · rcases List.mem_cons.mp (ih q h) with rfl | h
          · exact List.mem_cons_self
          · exact List.mem_cons_of_mem _ (List.mem_filter.mpr ⟨List.mem_cons_of_mem _ (List.mem_filter.mp h).1, (List.mem_filter.mp h).2⟩)
theorem lhas_sub {ls : Array Slot} {nL : Nat} {l l' : List (Nat × Value)} (h : lv_has ls nL l) (hs : ∀ q ∈ l', q ∈ l) : lv_has ls nL l' := ⟨h.1, h.2.1, fun q hq => h.2.2 q (hs q hq)⟩
/-- some locals alone, in an order of their own -/
def lres (lv : List (Nat × Value)) (is : List Nat) : List (Nat × Value) := is.filterMap (fun i => (lkp lv i).map (fun v => (i, v)))
theorem lres_sub {lv : List (Nat × Value)} {is : List Nat} : ∀ q ∈ lres lv is, q ∈ lv := by
  intro q hq
  obtain ⟨i, -, hi⟩ := List.mem_filterMap.mp hq
  cases hk : lkp lv i with
  | none => rw [hk] at hi; cases hi
  | some v => rw [hk] at hi; cases hi; exact lkp_mem hk
