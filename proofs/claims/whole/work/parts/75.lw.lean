/-! the law's own: its script, its switch, its booleans; what holds between its calls -/
/-- the script: L ints at b, a cell that the law did not make -/
def e_scr (θ : e_T) (x : e_X) (b L : Nat) (xs : Nat → Int32) : Prop := match x with
  | (_, _, _, _, s, _, _, _, _, _, _, _) => va_X b L xs s s.heap ∧ b < s.heap.size ∧ b < θ.2.2.1
section LW
variable {θ : e_T} {x : e_X} {pc nx tgt : Nat} {lv : List (Nat × Value)} {st : List Value} {ph : e_PH} {k n : Nat} {cc : ByteArray} {own nm : String} {nL : Nat} {ret : Option FieldType} {R : Room} {l : Launch} {b L : Nat} {xs : Nat → Int32}
theorem e_sld (hX : e_in cc own nm nL ret R l θ x) (hS : e_scr θ x b L xs) {i : Int32} (j : Nat) (hd : e_at cc pc .iaload 1 nx) (hi : i = nI j) (hj : j < L) (hL : L < 2 ^ 31) (kk : EJ θ x nx lv (.int (xs j) :: st) ph k n) : EJ θ x pc lv (.int i :: .ref b :: st) ph k n := by
  obtain ⟨p, l', e, R', s, m, args, below, meth, c, Q, nL'⟩ := x
  obtain ⟨rfl, rfl, rfl, hx, hb, hml, hown, hts, hG, hb0, hlk, htr, hr, hnm⟩ := hX
  obtain ⟨hd, rfl⟩ := hd
  obtain ⟨h1, h2, h3⟩ := hS
  subst hi
  intro H ls locs L' f hP hD hk hS hl
  refine va_sld (A := e_A θ) hx hb h1 h2 (Nat.not_le.mpr h3) hS (nI_in hj hL) hd ?_
  rw [nI_clamp (Nat.lt_trans hj hL)]
  exact kk H ls locs L' f hP hD hk hS hl
theorem e_slen (hX : e_in cc own nm nL ret R l θ x) (hS : e_scr θ x b L xs) (hd : e_at cc pc .arraylength 1 nx) (kk : EJ θ x nx lv (.int (nI L) :: st) ph k n) : EJ θ x pc lv (.ref b :: st) ph k n := by
  obtain ⟨p, l', e, R', s, m, args, below, meth, c, Q, nL'⟩ := x
  obtain ⟨rfl, rfl, rfl, hx, hb, hml, hown, hts, hG, hb0, hlk, htr, hr, hnm⟩ := hX
  obtain ⟨hd, rfl⟩ := hd
  obtain ⟨h1, h2, h3⟩ := hS
  intro H ls locs L' f hP hD hk hS hl
  exact va_slen (A := e_A θ) hx hb h1 h2 (Nat.not_le.mpr h3) hS hd (kk H ls locs L' f hP hD hk hS hl)
theorem e_tsIn (hX : e_in cc own nm nL ret R l θ x) {df lo hi off : Int} {offs : Array Int} {ln : Nat} {v : Int32} (hd : e_at cc pc (.tableswitch df lo hi offs) ln nx) (h1 : ¬ v.toInt < lo) (h2 : ¬ hi < v.toInt) (ho : offs[(v.toInt - lo).toNat]? = some off) (ht : (pc : Int) + off = (tgt : Int)) (kk : EJ θ x tgt lv st ph k n) : EJ θ x pc lv (.int v :: st) ph k n := by
  obtain ⟨p, l', e, R', s, m, args, below, meth, c, Q, nL'⟩ := x
  obtain ⟨rfl, rfl, rfl, hx, hb, hml, hown, hts, hG, hb0, hlk, htr, hr, hnm⟩ := hX
  intro H ls locs L' f hP hD hk hS hl
  exact lv_tableIn hx hb hd.1 h1 h2 ho ht (kk H ls locs L' f hP hD hk hS hl)
theorem e_tsOut (hX : e_in cc own nm nL ret R l θ x) {df lo hi : Int} {offs : Array Int} {ln : Nat} {v : Int32} (hd : e_at cc pc (.tableswitch df lo hi offs) ln nx) (h : v.toInt < lo ∨ hi < v.toInt) (ht : (pc : Int) + df = (tgt : Int)) (kk : EJ θ x tgt lv st ph k n) : EJ θ x pc lv (.int v :: st) ph k n := by
  obtain ⟨p, l', e, R', s, m, args, below, meth, c, Q, nL'⟩ := x
  obtain ⟨rfl, rfl, rfl, hx, hb, hml, hown, hts, hG, hb0, hlk, htr, hr, hnm⟩ := hX
  intro H ls locs L' f hP hD hk hS hl
  exact lv_tableOut hx hb hd.1 h ht (kk H ls locs L' f hP hD hk hS hl)
def nzB (v : Int32) : Bool := decide (¬ v = 0)
theorem nz_b {b : Bool} : nzB (b2i b) = b := by cases b <;> decide
/-- v != 0 -/
theorem e_nz (hX : e_in cc own nm nL ret R l θ x) {v : Int32} {off o2 : Int} {n1 n2 n3 t1 j : Nat} (h1 : e_br cc pc (.ifCond .eq off) off n1 t1) (h2 : e_at cc n1 (.iconst 1) 1 n2) (h3 : e_br cc n2 (.goto o2) o2 n3 j) (h4 : e_at cc t1 (.iconst 0) 1 j) (kk : EJ θ x j lv (.int (b2i (nzB v)) :: st) ph k n) : EJ θ x pc lv (.int v :: st) ph k n := by
  refine e_if_eq hX h1 (fun c => ?_) (fun c => ?_)
  · refine e_iconst (v := 0) hX h4 (by decide) ?_
    rw [show nzB v = false from decide_eq_false (fun q => q c)] at kk
    exact kk
  · refine e_iconst (v := 1) hX h2 (by decide) ?_
    refine e_goto hX h3 ?_
    rw [show nzB v = true from decide_eq_true c] at kk
    exact kk
theorem e_nzL (hX : e_in cc own nm nL ret R l θ x) {v : Int32} {off o2 : Int} {n1 n2 n3 t1 j : Nat} (h1 : e_br cc pc (.ifCond .eq off) off n1 t1) (h2 : e_at cc n1 (.lconst 1) 1 n2) (h3 : e_br cc n2 (.goto o2) o2 n3 j) (h4 : e_at cc t1 (.lconst 0) 1 j) (kk : EJ θ x j lv (.long (bL (nzB v)) :: st) ph k n) : EJ θ x pc lv (.int v :: st) ph k n := by
  refine e_if_eq hX h1 (fun c => ?_) (fun c => ?_)
  · refine e_lconst (v := 0) hX h4 (by decide) ?_
    rw [show nzB v = false from decide_eq_false (fun q => q c)] at kk
    exact kk
  · refine e_lconst (v := 1) hX h2 (by decide) ?_
    refine e_goto hX h3 ?_
    rw [show nzB v = true from decide_eq_true c] at kk
    exact kk
end LW
/-- what the gate leaves alone: the model's cells, the two arrays for answers -/
def XL (mo : Nat) (μ : Nat → Nat) (o od : Nat) : Nat → Prop := fun a => mS mo μ a ∨ a = o ∨ a = od
def LI (θ : e_T) (p : e_PH) (g mo : Nat) (μ : Nat → Nat) (o od : Nat) (σ : SG) : Prop := GP θ p g (XL mo μ o od) σ ∧ (∃ t, MP θ p mo μ σ t) ∧ (∃ f, p o = some (e_L θ 1 f)) ∧ ∃ f, p od = some (e_D θ 1 f)
/-- the gate has been asked, the model not yet -/
def LG (θ : e_T) (p : e_PH) (g mo : Nat) (μ : Nat → Nat) (o od : Nat) (σ σ1 : SG) (k : Nat) (a : Int64) : Prop := GP θ p g (XL mo μ o od) σ1 ∧ (∃ t, MP θ p mo μ σ t) ∧ (∃ f, p o = some (e_L θ 1 f) ∧ (k = 0 → f 0 = a)) ∧ ∃ f, p od = some (e_D θ 1 f)
def LD (θ : e_T) (p : e_PH) (g mo : Nat) (μ : Nat → Nat) (o od : Nat) (σ : SG) (k : Nat) (a : UInt64) : Prop := GP θ p g (XL mo μ o od) σ ∧ (∃ t, MP θ p mo μ σ t) ∧ (∃ f, p o = some (e_L θ 1 f)) ∧ ∃ f, p od = some (e_D θ 1 f) ∧ (k = 0 → f 0 = a)
section LL
variable {θ : e_T} {ph p p2 : e_PH} {g mo o od k : Nat} {μ : Nat → Nat} {σ σ1 σ2 : SG} {a : Int64} {z : Option Value} {t : Int32}
theorem MP.go (h : MP θ ph mo μ σ t) : ∃ fs, ph mo = some (e_O 12 fs) := by
  obtain ⟨s, F, hm, -⟩ := h
  exact ⟨_, hm.1⟩
theorem MP.kx (h : MP θ ph mo μ σ t) (hk : ∀ b c, mS mo μ b → ph b = some c → p b = some c) : MP θ p mo μ σ t := by
  obtain ⟨s, F, hm, hr, ht⟩ := h
  exact ⟨s, F, ⟨hk _ _ (Or.inl rfl) hm.1, fun j hj => hk _ _ (Or.inr ⟨j, hj, rfl⟩) (hm.2.1 j hj), hm.2.2⟩, hr, ht⟩
theorem e_LO {N ci : Nat} {f : Nat → Int64} {fs : List Value} : e_L θ N f ≠ e_O ci fs := fun h => by unfold e_L e_O at h; cases h
theorem e_DO {N ci : Nat} {f : Nat → UInt64} {fs : List Value} : e_D θ N f ≠ e_O ci fs := fun h => by unfold e_D e_O at h; cases h
theorem e_LD {N M : Nat} {f : Nat → Int64} {f2 : Nat → UInt64} : e_L θ N f ≠ e_D θ M f2 := fun h => by unfold e_L e_D at h; injection h with h; injection h with _ h; injection h with _ h; cases h
theorem e_Lm {N j : Nat} {f : Nat → Int64} {f2 : Nat → Int32} : e_L θ N f ≠ mcell θ j f2 := fun h => by
  unfold mcell at h
  split at h
  · unfold e_L e_Z at h; injection h with h; injection h with _ h; injection h with _ h; cases h
  · unfold e_L e_I at h; injection h with h; injection h with _ h; injection h with _ h; cases h
theorem e_Dm {N j : Nat} {f : Nat → UInt64} {f2 : Nat → Int32} : e_D θ N f ≠ mcell θ j f2 := fun h => by
  unfold mcell at h
  split at h
  · unfold e_D e_Z at h; injection h with h; injection h with _ h; injection h with _ h; cases h
  · unfold e_D e_I at h; injection h with h; injection h with _ h; injection h with _ h; cases h
theorem MP.no_L (h : MP θ ph mo μ σ t) {f : Nat → Int64} (ho : ph o = some (e_L θ 1 f)) : ¬ mS mo μ o := fun q => by
  obtain ⟨s, F, hm, -⟩ := h
  rcases q with rfl | ⟨j, hj, rfl⟩
  · exact e_LO (Option.some.inj (ho.symm.trans hm.1))
  · exact e_Lm (Option.some.inj (ho.symm.trans (hm.2.1 j hj)))
theorem MP.no_D (h : MP θ ph mo μ σ t) {f : Nat → UInt64} (ho : ph od = some (e_D θ 1 f)) : ¬ mS mo μ od := fun q => by
  obtain ⟨s, F, hm, -⟩ := h
  rcases q with rfl | ⟨j, hj, rfl⟩
  · exact e_DO (Option.some.inj (ho.symm.trans hm.1))
  · exact e_Dm (Option.some.inj (ho.symm.trans (hm.2.1 j hj)))
theorem od_ne {f : Nat → Int64} {f2 : Nat → UInt64} (ho : ph o = some (e_L θ 1 f)) (hd : ph od = some (e_D θ 1 f2)) : od ≠ o := fun e => by
  subst e
  exact e_LD (Option.some.inj (ho.symm.trans hd))
theorem LI.gate (h : LI θ ph g mo μ o od σ) (hu : uP θ ph g (XL mo μ o od) o k a σ1 σ2 z p) : z = some (.int (nI k)) ∧ LG θ p g mo μ o od σ (if k = 0 then σ1 else σ2) k a := by
  obtain ⟨hg, ⟨t, hm⟩, ⟨f, ho⟩, fd, hd⟩ := h
  obtain ⟨hz, hg2, ho2, hx⟩ := hu
  have hno := hm.no_L ho
  exact ⟨hz, hg2, ⟨t, hm.kx (fun b c hb hc => hx b c ⟨Or.inl hb, fun e => hno (by rw [← e]; exact hb)⟩ hc)⟩, ho2, fd, hx _ _ ⟨Or.inr (Or.inr rfl), od_ne ho hd⟩ hd⟩
theorem LI.gateD {ad : UInt64} (h : LI θ ph g mo μ o od σ) (hu : uD θ ph g (XL mo μ o od) od k ad σ z p) : z = some (.int (nI k)) ∧ LD θ p g mo μ o od σ k ad := by
  obtain ⟨hg, ⟨t, hm⟩, ⟨f, ho⟩, fd, hd⟩ := h
  obtain ⟨hz, hg2, ho2, hx⟩ := hu
  have hno := hm.no_D hd
  exact ⟨hz, hg2, ⟨t, hm.kx (fun b c hb hc => hx b c ⟨Or.inl hb, fun e => hno (by rw [← e]; exact hb)⟩ hc)⟩, ⟨f, hx _ _ ⟨Or.inr (Or.inl rfl), fun e => od_ne ho hd e.symm⟩ ho⟩, ho2⟩
theorem LI.keep (h : LI θ ph g mo μ o od σ) (hg : GP θ p g (XL mo μ o od) σ1) (hx : kx ph p (XL mo μ o od)) : LG θ p g mo μ o od σ σ1 1 0 := by
  obtain ⟨-, ⟨t, hm⟩, ⟨f, ho⟩, fd, hd⟩ := h
  exact ⟨hg, ⟨t, hm.kx (fun b c hb hc => hx b c (Or.inl hb) hc)⟩, ⟨f, hx _ _ (Or.inr (Or.inl rfl)) ho, fun e => by cases e⟩, fd, hx _ _ (Or.inr (Or.inr rfl)) hd⟩
theorem LI.mk2 {f : Nat → Int64} {fd : Nat → UInt64} (hg : GP θ p g (XL mo μ o od) σ1) {t0 : Int32} (hm0 : MP θ p mo μ σ t0) (ho : p o = some (e_L θ 1 f)) (hd : p od = some (e_D θ 1 fd)) (hm : MP θ p2 mo μ σ1 t) (hk : kept p p2 (mS mo μ)) : LI θ p2 g mo μ o od σ1 ∧ p2 o = some (e_L θ 1 f) ∧ p2 od = some (e_D θ 1 fd) := by
  have h1 := hk _ _ ho (hm0.no_L ho)
  have h2 := hk _ _ hd (hm0.no_D hd)
  refine ⟨⟨hg.keep (hk.mono (fun b hb => Or.inl hb)) (fun b hb => ?_), ⟨t, hm⟩, ⟨f, h1⟩, fd, h2⟩, h1, h2⟩
  rcases hb with hb | rfl | rfl
  · obtain ⟨s, F, hm2, -⟩ := hm
    rcases hb with rfl | ⟨j, hj, rfl⟩
    · rw [hm2.1]; exact fun q => by cases q
    · rw [hm2.2.1 j hj]; exact fun q => by cases q
  · rw [h1]; exact fun q => by cases q
  · rw [h2]; exact fun q => by cases q
theorem LG.model (h : LG θ p g mo μ o od σ σ1 k a) (hm : MP θ p2 mo μ σ1 t) (hk : kept p p2 (mS mo μ)) : LI θ p2 g mo μ o od σ1 ∧ ∃ f, p2 o = some (e_L θ 1 f) ∧ (k = 0 → f 0 = a) := by
  obtain ⟨hg, ⟨t0, hm0⟩, ⟨f, ho, ha⟩, fd, hd⟩ := h
  obtain ⟨h1, h2, -⟩ := LI.mk2 hg hm0 ho hd hm hk
  exact ⟨h1, f, h2, ha⟩
theorem LD.model {ad : UInt64} (h : LD θ p g mo μ o od σ k ad) (hm : MP θ p2 mo μ σ t) (hk : kept p p2 (mS mo μ)) : LI θ p2 g mo μ o od σ ∧ ∃ f, p2 od = some (e_D θ 1 f) ∧ (k = 0 → f 0 = ad) := by
  obtain ⟨hg, ⟨t0, hm0⟩, ⟨f, ho⟩, fd, hd, ha⟩ := h
  obtain ⟨h1, -, h2⟩ := LI.mk2 hg hm0 ho hd hm hk
  exact ⟨h1, fd, h2, ha⟩
theorem nP.int {a : Int32} (h : nP θ ph mo μ σ k (zI k a) z p) : ∃ a8, z = some (.int a8) ∧ (k = 0 → a8 = a) ∧ MP θ p mo μ σ (nI k) ∧ kept ph p (mS mo μ) := by
  obtain ⟨hz, hm, hk⟩ := h
  exact ⟨if k = 0 then a else 0, hz, fun e => if_pos e, hm, hk⟩
theorem nP.bool {b : Bool} (h : nP θ ph mo μ σ k (zB k b) z p) : ∃ b8, z = some (.int (b2i b8)) ∧ (k = 0 → b8 = b) ∧ MP θ p mo μ σ (nI k) ∧ kept ph p (mS mo μ) := by
  obtain ⟨hz, hm, hk⟩ := h
  exact ⟨decide (k = 0) && b, hz, fun e => by rw [decide_eq_true e]; rfl, hm, hk⟩
end LL
