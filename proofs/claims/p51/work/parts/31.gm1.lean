abbrev mkS (n : Nat) (v : Nat → Nat → Int32) (i : Nat → Int32) (m : Nat) (w : Nat → Nat → Int32) (k : Nat) (R : Nat → RU) (J : Int32 × Int32 × Int32 × Bool) (P : Nat) (D F : Int32) (Q : Nat → Nat → Int32) : SG := (n, v, i, m, w, k, R, J, (P, D, F), Q)
def s_disc (σ : SG) : SG := mkS (gN σ) (gV σ) (gI σ) 0 (gW σ) (gK σ) (gR σ) (gJ σ) (gP σ) (gD σ) (gF σ) (gQ σ)
def s_val (σ : SG) (i c : Nat) (x : Int32) : SG := mkS (gN σ) (fun j => if j = i then upd (gV σ i) c x else gV σ j) (gI σ) (gM σ) (gW σ) (gK σ) (gR σ) (gJ σ) (gP σ) (gD σ) (gF σ) (gQ σ)
def shf {α : Type} (f : Nat → α) (i : Nat) : Nat → α := fun j => if j < i then f j else f (j + 1)
def s_rem (σ : SG) (i : Nat) : SG := mkS (gN σ - 1) (shf (gV σ) i) (shf (gI σ) i) (gM σ) (gW σ) (gK σ) (gR σ) (gJ σ) (gP σ) (gD σ) (gF σ) (gQ σ)
def s_stg (σ : SG) (y : Nat → Int32) : SG := mkS (gN σ) (gV σ) (gI σ) (gM σ + 1) (fun j => if j = gM σ then y else gW σ j) (gK σ) (gR σ) (gJ σ) (gP σ) (gD σ) (gF σ) (gQ σ)
def k_val (σ : SG) (id c x : Int32) : Nat := if fnd σ id < gN σ then (if colB c = true then (if okVB x = true then 0 else 3) else 2) else 1
def k_stg (σ : SG) (a b c d e : Int32) : Nat := if okVB a && (okVB b && (okVB c && (okVB d && okVB e))) then (if gM σ < 6 then 0 else 2) else 1
theorem shf_s {α : Type} {f : Nat → α} {i j : Nat} : ∃ k, shf f i j = f k ∧ (k = j ∨ k = j + 1) ∧ (j < i → k = j) ∧ (¬ j < i → k = j + 1) := by
  unfold shf
  by_cases h : j < i
  · exact ⟨j, if_pos h, Or.inl rfl, fun _ => rfl, fun q => absurd h q⟩
  · exact ⟨j + 1, if_neg h, Or.inr rfl, fun q => absurd q h, fun _ => rfl⟩
section GMS
variable {l : Launch} {θ : e_T} {ph : e_PH} {g : Nat} {X : Nat → Prop} {σ : SG}
theorem m_discard (htr : l.stackTraces = false) (hg : GP θ ph g X σ) : MC yX11_discard cX11_discard 2 (some .int) 3 0 0 l θ [.ref g] ph (oP θ ph g X 0 (some (.int (nI (gM σ)))) (s_disc σ)) (fun _ _ => False) := by
  obtain ⟨κ, te, be, ue, r, wr, b, wb, u, hg⟩ := hg
  refine MC.of htr (by decide) (Nat.le_of_ble_eq_true rfl) ?_
  intro x hX hQ hT
  refine e_noE hX (fun hE => ?_)
  have hB := hg.2.2.1.1
  have hd := hg.2.2.2.2.2.2.2.1
  have ho := hg.2.2.2.2.2.2.2.2.1
  have ha := hg.2.2.2.2.2.2.2.2.2
  refine e_aload_n hX 0 iX11_discard_0 rfl rfl ?_
  refine e_get hX iX11_discard_1 hg.1 rfl ?_
  refine e_callV hX iX11_discard_4 (lst.hp hB) (c_size htr hB) rfl rfl ⟨by decide, by decide, by decide, by decide⟩ (Nat.le_of_ble_eq_true rfl) (fun _ _ h => h.elim) (fun v9 ph9 hv9 => ?_)
  obtain ⟨rfl, e9⟩ := hv9
  subst ph9
  refine e_istore_n hX 1 iX11_discard_7 rfl (by decide) ?_
  refine e_aload_n hX 0 iX11_discard_8 rfl rfl ?_
  refine e_get hX iX11_discard_9 hg.1 rfl ?_
  refine e_callV hX iX11_discard_12 hB.hp (c_clear htr hB) rfl rfl ⟨by decide, by decide, by decide, by decide⟩ (Nat.le_of_ble_eq_true rfl) (fun _ _ h => h.elim) (fun v9 ph9 hv9 => ?_)
  obtain ⟨rfl, e1, e2⟩ := hv9
  refine e_iload_n hX 1 iX11_discard_15 rfl rfl ?_
  have hkx : kx ph ph9 X := lS.kx e2 (ha.2.2.1 1 (by omega)) ha.2.2.2.1.2.1
  have gr := hg.gr.lkeep e2 (fun a c hc hs => lS.kind hB hc hs) (lS.no10 hB hg.2.2.2.2.2.2.1.1.choose_spec.1 hd.2.2.1.2.1)
  have hg2 : GI θ ph9 g X (s_disc σ) κ te be ue r wr b wb u := GI.mk (σ := s_disc σ) ⟨gr.1, gr.2.1, fun i hi => absurd hi (Nat.not_lt_zero i), gr.2.2.2⟩ (hB.other hg.2.1.1 hE e2 (fun h => hd.1.1 h) (fun h => by rw [h]; exact hd.2.1.1 h.symm)) e1 (hB.other hg.2.2.2.1.1 hE e2 (fun h => hd.1.2.2 h.symm) (fun h => hd.2.1.2.2 h))
    ⟨hd.1, hd.2.1, hd.2.2.1, hd.2.2.2.1, hd.2.2.2.2.1, hd.2.2.2.2.2.1, fun i hi => absurd hi (Nat.not_lt_zero i), fun i _ j hj => absurd hj (Nat.not_lt_zero j), hd.2.2.2.2.2.2.2.2⟩
    ⟨ho.1, Nat.zero_le _, ho.2.2.1, ho.2.2.2.1, ho.2.2.2.2.1, fun i hi => absurd hi (Nat.not_lt_zero i), ho.2.2.2.2.2.2⟩
    ⟨hkx.in ha.1, ha.2.1, ha.2.2.1, ha.2.2.2.1, ha.2.2.2.2.1, fun i hi => absurd hi (Nat.not_lt_zero i), ha.2.2.2.2.2.2⟩
  exact e_iret hX hQ iX11_discard_16 rfl (by decide) (by decide) (hg2.oP hkx rfl rfl)
theorem m_setValue (htr : l.stackTraces = false) (hg : GP θ ph g X σ) (id c y : Int32) : MC yX11_setValue cX11_setValue 6 (some .int) 5 1 6 l θ [.ref g, .int id, .int c, .int y] ph (oP θ ph g X (k_val σ id c y) (some (.int (a_valueAt σ id c))) (s_val σ (fnd σ id) (ix c) y)) (oX θ ph g X (k_val σ id c y) [xN, xB, xA] σ) := by
  obtain ⟨κ, te, be, ue, r, wr, b, wb, u, hg⟩ := hg
  refine MC.of htr (by decide) (Nat.le_of_ble_eq_true rfl) ?_
  intro x hX hQ hT
  refine e_aload_n hX 0 iX11_setValue_0 rfl rfl ?_
  refine e_iload_n hX 1 iX11_setValue_1 rfl rfl ?_
  by_cases h1 : fnd σ id < gN σ
  · refine e_callV hX iX11_setValue_2 hg.1 (c_row0 htr hg h1) rfl rfl ⟨by decide, by decide, by decide, by decide⟩ (Nat.le_of_ble_eq_true rfl) (fun _ _ h => h.elim) (fun v9 ph9 hv9 => ?_)
    obtain ⟨rfl, e9⟩ := hv9
    subst ph9
    refine e_astore hX iX11_setValue_5 (by decide) ?_
    refine e_iload_n hX 2 iX11_setValue_7 rfl rfl ?_
    by_cases h2 : colB c = true
    · obtain ⟨c', hc', rfl⟩ := colB_t.mp h2
      have hix : ix (nI c') = c' := ix_n (by omega)
      refine e_callS hX iX11_setValue_8 (c_needCol0 htr hc') rfl rfl ⟨by decide, by decide, by decide, by decide⟩ (Nat.le_of_ble_eq_true rfl) (fun _ _ h => h.elim) (fun v9 ph9 hv9 => ?_)
      obtain ⟨rfl, e9⟩ := hv9
      subst ph9
      refine e_iload_n hX 3 iX11_setValue_11 rfl rfl ?_
      refine e_callS hX iX11_setValue_12 (c_isValue htr y) rfl rfl ⟨by decide, by decide, by decide, by decide⟩ (Nat.le_of_ble_eq_true rfl) (fun _ _ h => h.elim) (fun v9 ph9 hv9 => ?_)
      obtain ⟨rfl, e9⟩ := hv9
      subst ph9
      refine e_if_ne hX iX11_setValue_15 (fun c15 => ?_) (fun c15 => ?_)
      · have h3 := b2i_n0.mp c15
        refine e_aload hX iX11_setValue_28 rfl ?_
        refine e_iload_n hX 2 iX11_setValue_30 rfl rfl ?_
        refine e_callV hX iX11_setValue_31 (hg.2.1.2 _ h1).1 (c_value htr (hg.2.1.2 _ h1) c' hc') rfl rfl ⟨by decide, by decide, by decide, by decide⟩ (Nat.le_of_ble_eq_true rfl) (fun _ _ h => h.elim) (fun v9 ph9 hv9 => ?_)
        obtain ⟨rfl, e9⟩ := hv9
        subst ph9
        refine e_istore hX iX11_setValue_34 (by decide) ?_
        refine e_aload hX iX11_setValue_36 rfl ?_
        refine e_iload_n hX 2 iX11_setValue_38 rfl rfl ?_
        refine e_iload_n hX 3 iX11_setValue_39 rfl rfl ?_
        refine e_callV hX iX11_setValue_40 (hg.2.1.2 _ h1).1 (c_put htr (hg.2.1.2 _ h1) c' hc' y) rfl rfl ⟨by decide, by decide, by decide, by decide⟩ (Nat.le_of_ble_eq_true rfl) (fun _ _ h => h.elim) (fun v9 ph9 hv9 => ?_)
        obtain ⟨rfl, e9⟩ := hv9
        subst ph9
        refine e_iload hX iX11_setValue_43 rfl ?_
        generalize hi0 : fndN (gN σ) (gI σ) id = i0 at *
        have hi : fnd σ id = i0 := hi0
        rw [hi] at h1
        have hw := (hg.2.1.2 i0 h1).2
        have hg0 := hg
        have ha := hg.2.2.2.2.2.2.2.2.2
        let q : e_PH := e_up ph (wr i0) (e_I θ 5 (upd (gV σ i0) c' y))
        have hk : kept ph q (fun a => a = wr i0) := kept.refl.up2 (Or.inl rfl)
        have no : ∀ a c, ph a = some c → (∀ fs, c ≠ e_I θ 5 fs) → q a = some c := fun a c hc hn => hk a c hc (fun e => by subst e; rw [hw] at hc; exact hn _ (Option.some.inj hc).symm)
        obtain ⟨gO, ⟨gT, gTr⟩, ⟨gB, gBr⟩, ⟨gU, gUr⟩, gX, ⟨⟨a1, b1, f1, h4, h5⟩, ⟨a2, f2, h6, h7⟩, a3, f3, h8, h9⟩, ⟨⟨f9, gq0, gq1⟩, gq2⟩, gd, gok, gav⟩ := hg
        have cl : ∀ {a ed n : Nat} {r : Nat → Nat}, lst θ ph a ed n r → lst θ q a ed n r := fun hl => hl.keep2 hk (fun b fs hb e => by subst e; rw [hw] at hb; exact e_IO (Option.some.inj hb)) (fun b N f hb e => by subst e; rw [hw] at hb; exact e_IR (Option.some.inj hb))
        have hkx : kx ph q X := fun a c hxa hc => hk a c hc (fun e => by subst e; exact (ha.2.2.2.2.1 i0 h1).2 hxa)
        have hg2 : GI θ q g X (s_val σ i0 c' y) κ te be ue r wr b wb u := ⟨no _ _ gO (fun fs => e_IO.symm), ⟨cl gT, fun i hi => ?_⟩, ⟨cl gB, fun i hi => ⟨no _ _ (gBr i hi).1 (fun fs => e_IO.symm), hk _ _ (gBr i hi).2 (fun e => gd.2.2.2.2.2.2.2.1 i0 h1 i hi e.symm)⟩⟩, ⟨cl gU, fun i hi => ⟨(gUr i hi).1, no _ _ (gUr i hi).2 (fun fs => e_IO.symm)⟩⟩, no _ _ gX (fun fs => e_IO.symm), ⟨⟨a1, b1, f1, no _ _ h4 (fun fs => e_IO.symm), no _ _ h5 (fun fs => e_II12 (by decide))⟩, ⟨a2, f2, no _ _ h6 (fun fs => e_IO.symm), no _ _ h7 (fun fs => e_II12 (by decide))⟩, a3, f3, no _ _ h8 (fun fs => e_IO.symm), no _ _ h9 (fun fs => e_II12 (by decide))⟩, ⟨⟨f9, no _ _ gq0 (fun fs => e_III), gq1⟩, fun j hj => no _ _ (gq2 j hj) (fun fs => e_II12 (by decide))⟩, gd, ⟨gok.1, gok.2.1, gok.2.2.1, gok.2.2.2.1, fun i hi c2 hc2 => ?_, gok.2.2.2.2.2⟩, hkx.in gav.1, gav.2⟩
        · exact e_iret hX hQ iX11_setValue_45 rfl (by decide) (by decide) (by rw [hi, hix]; exact hg2.oP hkx (by unfold k_val; rw [hi, if_pos h1, if_pos h2, if_pos h3]) (by unfold a_valueAt; rw [hi, hix]))
        · refine ⟨no _ _ (gTr i hi).1 (fun fs => e_IO.symm), ?_⟩
          show q (wr i) = some (e_I θ 5 (if i = i0 then upd (gV σ i0) c' y else gV σ i))
          by_cases e : i = i0
          · subst e; rw [if_pos rfl]; exact e_up_s
          · rw [if_neg e]; exact hk _ _ (gTr i hi).2 (fun e2 => e (gd.2.2.2.2.2.1 i hi i0 h1 e2))
        · show okV ((if i = i0 then upd (gV σ i0) c' y else gV σ i) c2)
          by_cases e : i = i0
          · rw [if_pos e]
            by_cases e2 : c2 = c'
            · subst e2; rw [upd_s]; exact okVB_t.mp h3
            · rw [upd_n e2]; exact gok.2.2.2.2.1 i0 h1 c2 hc2
          · rw [if_neg e]; exact gok.2.2.2.2.1 i hi c2 hc2
      · have h3 := b2i_0.mp c15
        exact e_throw hX iX11_setValue_18 ⟨by decide, Nat.le_of_ble_eq_true rfl, by decide, by decide⟩ (e_out hX hQ hT (by decide) (by decide) (hg.oX 2 (((if_pos h1).trans (if_pos h2)).trans (if_neg (by rw [h3]; decide))) rfl))
    · refine e_callS hX iX11_setValue_8 (c_needColX htr (colB_f h2)) rfl rfl ⟨by decide, by decide, by decide, by decide⟩ (Nat.le_of_ble_eq_true rfl) (fun E9 ph9 hv9 => ?_) (fun _ _ h => h.elim)
      obtain ⟨rfl, e9⟩ := hv9
      subst ph9
      exact e_out hX hQ hT (by decide) (by decide) (hg.oX 1 ((if_pos h1).trans (if_neg h2)) rfl)
  · refine e_callV hX iX11_setValue_2 hg.1 (c_rowX htr hg h1) rfl rfl ⟨by decide, by decide, by decide, by decide⟩ (Nat.le_of_ble_eq_true rfl) (fun E9 ph9 hv9 => ?_) (fun _ _ h => h.elim)
    obtain ⟨rfl, e9⟩ := hv9
    subst ph9
    exact e_out hX hQ hT (by decide) (by decide) (hg.oX 0 (if_neg h1) rfl)
/-- a row goes out of the table -/
theorem GI.remove {p : e_PH} {κ : Nat → Nat} {te be ue : Nat} {r wr b wb u : Nat → Nat} (hg : GI θ ph g X σ κ te be ue r wr b wb u) (hE : ph θ.2.2.2.2 = none) {i : Nat} (hi : i < gN σ) (h1 : lst θ p (κ 0) te (gN σ - 1) (fun j => if j < i then r j else r (j + 1))) (hk : kept ph p (lS θ ph (κ 0) te)) : GI θ p g X (s_rem σ i) κ te be ue (shf r i) (shf wr i) b wb u ∧ kx ph p X := by
  have hT := hg.2.1.1
  have hd := hg.2.2.2.2.2.2.2.1
  have ho := hg.2.2.2.2.2.2.2.2.1
  have ha := hg.2.2.2.2.2.2.2.2.2
  have hkx : kx ph p X := lS.kx hk (ha.2.2.1 0 (by omega)) ha.2.2.2.1.1
  have gr := hg.gr.lkeep hk (fun a c hc hs => lS.kind hT hc hs) (lS.no10 hT hg.2.2.2.2.2.2.1.1.choose_spec.1 hd.2.2.1.1)
  have lt : ∀ {α : Type} (f : Nat → α) (j : Nat), j < gN σ - 1 → ∃ k, k < gN σ ∧ shf f i j = f k ∧ (j < i → k = j) ∧ (¬ j < i → k = j + 1) := fun f j hj => by
    obtain ⟨k, e1, e2, e3, e4⟩ := shf_s (f := f) (i := i) (j := j)
    exact ⟨k, by omega, e1, e3, e4⟩
  have sh2 : ∀ j, j < gN σ - 1 → ∃ k, k < gN σ ∧ (∀ {α : Type} (f : Nat → α), shf f i j = f k) ∧ (j < i → k = j) ∧ (¬ j < i → k = j + 1) := fun j hj => by
    by_cases c : j < i
    · exact ⟨j, by omega, fun f => if_pos c, fun _ => rfl, fun q => absurd c q⟩
    · exact ⟨j + 1, by omega, fun f => if_neg c, fun q => absurd q c, fun _ => rfl⟩
  refine ⟨GI.mk (σ := s_rem σ i) ⟨gr.1, fun j hj => ?_, gr.2.2⟩ h1 (hT.other hg.2.2.1.1 hE hk (fun h => hd.1.1 h.symm) (fun h => hd.2.1.1 h)) (hT.other hg.2.2.2.1.1 hE hk (fun h => hd.1.2.1 h.symm) (fun h => hd.2.1.2.1 h)) ⟨hd.1, hd.2.1, hd.2.2.1, hd.2.2.2.1, hd.2.2.2.2.1, fun a ha2 c hc e => ?_, hd.2.2.2.2.2.2.1, fun a ha2 c hc e => ?_, hd.2.2.2.2.2.2.2.2⟩ ⟨Nat.le_trans (Nat.sub_le _ _) ho.1, ho.2.1, ho.2.2.1, ho.2.2.2.1, fun a ha2 c hc => ?_, ho.2.2.2.2.2⟩ ⟨hkx.in ha.1, ha.2.1, ha.2.2.1, ha.2.2.2.1, fun a ha2 => ?_, ha.2.2.2.2.2⟩, hkx⟩
  · obtain ⟨k, k1, k2, -⟩ := sh2 j hj
    show rowAt θ p (shf r i j) (shf wr i j) (shf (gV σ) i j) (shf (gI σ) i j)
    rw [k2, k2, k2, k2]
    exact gr.2.1 k k1
  · obtain ⟨k, k1, k2, k3, k4⟩ := sh2 a ha2
    obtain ⟨k', k1', k2', k3', k4'⟩ := sh2 c hc
    rw [k2, k2'] at e
    have := hd.2.2.2.2.2.1 k k1 k' k1' e
    by_cases q1 : a < i <;> by_cases q2 : c < i
    · rw [k3 q1, k3' q2] at this; exact this
    · rw [k3 q1, k4' q2] at this; omega
    · rw [k4 q1, k3' q2] at this; omega
    · rw [k4 q1, k4' q2] at this; omega
  · obtain ⟨k, k1, k2, -⟩ := sh2 a ha2
    rw [k2] at e
    exact hd.2.2.2.2.2.2.2.1 k k1 c hc e
  · obtain ⟨k, k1, k2, -⟩ := sh2 a ha2
    show okV (shf (gV σ) i a c)
    rw [k2]
    exact ho.2.2.2.2.1 k k1 c hc
  · obtain ⟨k, k1, k2, -⟩ := sh2 a ha2
    rw [k2, k2]
    exact ha.2.2.2.2.1 k k1
theorem GI.tobs {κ : Nat → Nat} {te be ue : Nat} {r wr b wb u : Nat → Nat} (hg : GI θ ph g X σ κ te be ue r wr b wb u) : ∀ i, i < gN σ → e_obs ph (r i) := fun i hi => (hg.2.1.2 i hi).obs
theorem m_removeRow (htr : l.stackTraces = false) (hg : GP θ ph g X σ) (id : Int32) : MC yX11_removeRow cX11_removeRow 2 (some .int) 5 1 6 l θ [.ref g, .int id] ph (oP θ ph g X (k_id σ id) (some (.int (nI (gN σ - 1)))) (s_rem σ (fnd σ id))) (oX θ ph g X (k_id σ id) [xN] σ) := by
  obtain ⟨κ, te, be, ue, r, wr, b, wb, u, hg⟩ := hg
  refine MC.of htr (by decide) (Nat.le_of_ble_eq_true rfl) ?_
  intro x hX hQ hT
  refine e_noE hX (fun hE => ?_)
  refine e_aload_n hX 0 iX11_removeRow_0 rfl rfl ?_
  refine e_get hX iX11_removeRow_1 hg.1 rfl ?_
  refine e_aload_n hX 0 iX11_removeRow_4 rfl rfl ?_
  refine e_iload_n hX 1 iX11_removeRow_5 rfl rfl ?_
  by_cases h1 : fnd σ id < gN σ
  · refine e_callV hX iX11_removeRow_6 hg.1 (c_pos0 htr hg h1) rfl rfl ⟨by decide, by decide, by decide, by decide⟩ (Nat.le_of_ble_eq_true rfl) (fun _ _ h => h.elim) (fun v9 ph9 hv9 => ?_)
    obtain ⟨rfl, e9⟩ := hv9
    subst ph9
    refine e_callV hX iX11_removeRow_9 hg.2.1.1.hp (c_remove htr hg.2.1.1 h1 hg.tobs) rfl rfl ⟨by decide, by decide, by decide, by decide⟩ (Nat.le_of_ble_eq_true rfl) (fun _ _ h => h.elim) (fun v9 ph9 hv9 => ?_)
    obtain ⟨rfl, e1, e2⟩ := hv9
    obtain ⟨hg2, hkx⟩ := hg.remove hE h1 e1 e2
    refine e_pop hX iX11_removeRow_12 rfl ?_
    refine e_aload_n hX 0 iX11_removeRow_13 rfl rfl ?_
    refine e_get hX iX11_removeRow_14 hg2.1 rfl ?_
    refine e_callV hX iX11_removeRow_17 (lst.hp hg2.2.1.1) (c_size htr hg2.2.1.1) rfl rfl ⟨by decide, by decide, by decide, by decide⟩ (Nat.le_of_ble_eq_true rfl) (fun _ _ h => h.elim) (fun v9 ph9 hv9 => ?_)
    obtain ⟨rfl, e9⟩ := hv9
    subst ph9
    exact e_iret hX hQ iX11_removeRow_20 rfl (by decide) (by decide) (hg2.oP hkx (if_pos h1) rfl)
  · refine e_callV hX iX11_removeRow_6 hg.1 (c_posX htr hg h1) rfl rfl ⟨by decide, by decide, by decide, by decide⟩ (Nat.le_of_ble_eq_true rfl) (fun E9 ph9 hv9 => ?_) (fun _ _ h => h.elim)
    obtain ⟨rfl, e9⟩ := hv9
    subst ph9
    exact e_out hX hQ hT (by decide) (by decide) (hg.oX 0 (if_neg h1) rfl)
end GMS
