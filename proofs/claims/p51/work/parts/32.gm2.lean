theorem GI.ext {θ : e_T} {ph p : e_PH} {g : Nat} {X : Nat → Prop} {σ : SG} {κ : Nat → Nat} {te be ue : Nat} {r wr b wb u : Nat → Nat} (hg : GI θ ph g X σ κ te be ue r wr b wb u) (hk : kept ph p (fun _ => False)) : GI θ p g X σ κ te be ue r wr b wb u ∧ kx ph p X :=
  ⟨hg.keep (hk.mono (fun _ h => h.elim)) (kx.in (fun b c _ hc => hk b c hc id) hg.2.2.2.2.2.2.2.2.2.1), fun b c _ hc => hk b c hc id⟩
theorem va_up_s {α : Type} {f : Nat → α} {n : Nat} {x : α} : va_up f n x n = x := if_pos rfl
theorem va_up_n {α : Type} {f : Nat → α} {n i : Nat} {x : α} (h : i ≠ n) : va_up f n x i = f i := if_neg h
/-- a row comes into the batch -/
theorem GI.stage {θ : e_T} {ph p : e_PH} {g : Nat} {X : Nat → Prop} {σ : SG} {κ : Nat → Nat} {te be ue be' : Nat} {r wr b wb u : Nat → Nat} (hg : GI θ ph g X σ κ te be ue r wr b wb u) (hE : ph θ.2.2.2.2 = none) (hE2 : p θ.2.2.2.2 = none) {q w : Nat} {y : Nat → Int32} (hq : rowAt θ ph q w y (-1)) (hm : gM σ < 6) (hy : ∀ c, c < 5 → okV (y c)) (hX : ¬ X q ∧ ¬ X w) (hw1 : ∀ i, i < gN σ → wr i ≠ w) (hw2 : ∀ i, i < gM σ → wb i ≠ w) (h1 : lst θ p (κ 1) be' (gM σ + 1) (va_up b (gM σ) q)) (h2 : be' = be ∨ ph be' = none) (hk : kept ph p (lS θ ph (κ 1) be)) : GI θ p g X (s_stg σ y) κ te be' ue r wr (va_up b (gM σ) q) (va_up wb (gM σ) w) u ∧ kx ph p X := by
  have hB := hg.2.2.1.1
  have hd := hg.2.2.2.2.2.2.2.1
  have ho := hg.2.2.2.2.2.2.2.2.1
  have ha := hg.2.2.2.2.2.2.2.2.2
  have hkx : kx ph p X := lS.kx hk (ha.2.2.1 1 (by omega)) ha.2.2.2.1.2.1
  have h10 := hg.2.2.2.2.2.2.1.1.choose_spec.1
  have gr := hg.gr.lkeep hk (fun a c hc hs => lS.kind hB hc hs) (lS.no10 hB h10 hd.2.2.1.2.1)
  have hq2 : rowAt θ p q w y (-1) := ⟨hk _ _ hq.1 (fun hs => lkind.no_O (by decide) (lS.kind hB hq.1 hs)), hk _ _ hq.2 (fun hs => lkind.no_I (lS.kind hB hq.2 hs))⟩
  refine ⟨GI.mk (σ := s_stg σ y) ⟨gr.1, gr.2.1, fun i hi => ?_, gr.2.2.2⟩ (hB.other hg.2.1.1 hE hk (fun h => hd.1.1 h) (fun h => by rw [h]; exact hd.2.1.1 h.symm)) h1 (hB.other hg.2.2.2.1.1 hE hk (fun h => hd.1.2.2 h.symm) (fun h => hd.2.1.2.2 h))
    ⟨hd.1, ⟨fun h => ?_, hd.2.1.2.1, ?_⟩, ⟨hd.2.2.1.1, ?_, hd.2.2.1.2.2⟩, hd.2.2.2.1, hd.2.2.2.2.1, hd.2.2.2.2.2.1, ?_, ?_, hd.2.2.2.2.2.2.2.2⟩
    ⟨ho.1, by show gM σ + 1 ≤ 6; omega, ho.2.2.1, ho.2.2.2.1, ho.2.2.2.2.1, fun i hi c hc => ?_, ho.2.2.2.2.2.2⟩
    ⟨hkx.in ha.1, ha.2.1, ha.2.2.1, ⟨ha.2.2.2.1.1, ?_, ha.2.2.2.1.2.2⟩, ha.2.2.2.2.1, fun i hi => ?_, ha.2.2.2.2.2.2⟩, hkx⟩
  · show rowAt θ p (va_up b (gM σ) q i) (va_up wb (gM σ) w i) (if i = gM σ then y else gW σ i) (-1)
    by_cases e : i = gM σ
    · subst e; rw [va_up_s, va_up_s, if_pos rfl]; exact hq2
    · rw [va_up_n e, va_up_n e, if_neg e]; exact gr.2.2.1 i (by have : i < gM σ + 1 := hi; omega)
  · have := lst.edn (n := 0) (r := b) h1 (Nat.succ_ne_zero _) hE2 hg.2.1.1 h2 (fun h => by rw [h]; exact hd.2.1.1 h.symm) h.symm
    rw [h]; exact this
  · exact lst.edn (n := 0) (r := b) h1 (Nat.succ_ne_zero _) hE2 hg.2.2.2.1.1 h2 (fun h => hd.2.1.2.2 h)
  · rcases h2 with h | h
    · rw [h]; exact hd.2.2.1.2.1
    · exact fun e => by rw [e, h10] at h; cases h
  · intro i hi j hj e
    have hi' : i < gM σ + 1 := hi
    have hj' : j < gM σ + 1 := hj
    by_cases e1 : i = gM σ <;> by_cases e2 : j = gM σ
    · omega
    · rw [e1, va_up_s, va_up_n e2] at e; exact absurd e.symm (hw2 j (by omega))
    · rw [e2, va_up_s, va_up_n e1] at e; exact absurd e (hw2 i (by omega))
    · rw [va_up_n e1, va_up_n e2] at e; exact hd.2.2.2.2.2.2.1 i (by omega) j (by omega) e
  · intro i hi j hj
    have hj' : j < gM σ + 1 := hj
    by_cases e2 : j = gM σ
    · rw [e2, va_up_s]; exact hw1 i hi
    · rw [va_up_n e2]; exact hd.2.2.2.2.2.2.2.1 i hi j (by omega)
  · show okV ((if i = gM σ then y else gW σ i) c)
    have hi' : i < gM σ + 1 := hi
    by_cases e : i = gM σ
    · rw [if_pos e]; exact hy c hc
    · rw [if_neg e]; exact ho.2.2.2.2.2.1 i (by omega) c hc
  · rcases h2 with h | h
    · rw [h]; exact ha.2.2.2.1.2.1
    · exact fun hx => ha.1 _ hx h
  · have hi' : i < gM σ + 1 := hi
    by_cases e : i = gM σ
    · subst e; rw [va_up_s, va_up_s]; exact hX
    · rw [va_up_n e, va_up_n e]; exact ha.2.2.2.2.2.1 i (by omega)
theorem five_ok {a b c d e : Int32} (h1 : okV a) (h2 : okV b) (h3 : okV c) (h4 : okV d) (h5 : okV e) : ∀ k, k < 5 → okV (five a b c d e k) := fun k hk => by
  match k, hk with
  | 0, _ => exact h1
  | 1, _ => exact h2
  | 2, _ => exact h3
  | 3, _ => exact h4
  | 4, _ => exact h5
section GMT
variable {l : Launch} {θ : e_T} {ph : e_PH} {g : Nat} {X : Nat → Prop} {σ : SG}
theorem m_stage (htr : l.stackTraces = false) (hg : GP θ ph g X σ) (a1 a2 a3 a4 a5 : Int32) : MC yX11_stage cX11_stage 6 (some .int) 6 3 22 l θ [.ref g, .int a1, .int a2, .int a3, .int a4, .int a5] ph (oP θ ph g X (k_stg σ a1 a2 a3 a4 a5) (some (.int (nI (gM σ + 1)))) (s_stg σ (five a1 a2 a3 a4 a5))) (oX θ ph g X (k_stg σ a1 a2 a3 a4 a5) [xA, xS] σ) := by
  obtain ⟨κ, te, be, ue, r, wr, b, wb, u, hg⟩ := hg
  have hm6 := hg.2.2.2.2.2.2.2.2.1.2.1
  refine MC.of htr (by decide) (Nat.le_of_ble_eq_true rfl) ?_
  intro x hX hQ hT
  refine e_noE hX (fun hE => ?_)
  have th : (¬ (okVB a1 && (okVB a2 && (okVB a3 && (okVB a4 && okVB a5)))) = true) → EJ θ x 37 [(0, .ref g), (1, .int a1), (2, .int a2), (3, .int a3), (4, .int a4), (5, .int a5)] [] ph 0 0 := by
    intro h
    exact e_throw hX iX11_stage_37 ⟨by decide, Nat.le_of_ble_eq_true rfl, by decide, by decide⟩ (e_out hX hQ hT (by decide) (by decide) (hg.oX 0 (if_neg h) rfl))
  refine e_iload_n hX 1 iX11_stage_0 rfl rfl ?_
  refine e_callS hX iX11_stage_1 (c_isValue htr a1) rfl rfl ⟨by decide, by decide, by decide, by decide⟩ (Nat.le_of_ble_eq_true rfl) (fun _ _ h => h.elim) (fun v9 ph9 hv9 => ?_)
  obtain ⟨rfl, e9⟩ := hv9
  subst ph9
  refine e_if_eq hX iX11_stage_4 (fun c4 => ?_) (fun c4 => ?_)
  · exact th (by rw [b2i_0.mp c4]; exact fun h => Bool.noConfusion h)
  · refine e_iload_n hX 2 iX11_stage_7 rfl rfl ?_
    refine e_callS hX iX11_stage_8 (c_isValue htr a2) rfl rfl ⟨by decide, by decide, by decide, by decide⟩ (Nat.le_of_ble_eq_true rfl) (fun _ _ h => h.elim) (fun v9 ph9 hv9 => ?_)
    obtain ⟨rfl, e9⟩ := hv9
    subst ph9
    refine e_if_eq hX iX11_stage_11 (fun c11 => ?_) (fun c11 => ?_)
    · exact th (by rw [b2i_0.mp c11, Bool.false_and, Bool.and_false]; decide)
    · refine e_iload_n hX 3 iX11_stage_14 rfl rfl ?_
      refine e_callS hX iX11_stage_15 (c_isValue htr a3) rfl rfl ⟨by decide, by decide, by decide, by decide⟩ (Nat.le_of_ble_eq_true rfl) (fun _ _ h => h.elim) (fun v9 ph9 hv9 => ?_)
      obtain ⟨rfl, e9⟩ := hv9
      subst ph9
      refine e_if_eq hX iX11_stage_18 (fun c18 => ?_) (fun c18 => ?_)
      · exact th (by rw [b2i_0.mp c18, Bool.false_and, Bool.and_false, Bool.and_false]; decide)
      · refine e_iload hX iX11_stage_21 rfl ?_
        refine e_callS hX iX11_stage_23 (c_isValue htr a4) rfl rfl ⟨by decide, by decide, by decide, by decide⟩ (Nat.le_of_ble_eq_true rfl) (fun _ _ h => h.elim) (fun v9 ph9 hv9 => ?_)
        obtain ⟨rfl, e9⟩ := hv9
        subst ph9
        refine e_if_eq hX iX11_stage_26 (fun c26 => ?_) (fun c26 => ?_)
        · exact th (by rw [b2i_0.mp c26, Bool.false_and, Bool.and_false, Bool.and_false, Bool.and_false]; decide)
        · refine e_iload hX iX11_stage_29 rfl ?_
          refine e_callS hX iX11_stage_31 (c_isValue htr a5) rfl rfl ⟨by decide, by decide, by decide, by decide⟩ (Nat.le_of_ble_eq_true rfl) (fun _ _ h => h.elim) (fun v9 ph9 hv9 => ?_)
          obtain ⟨rfl, e9⟩ := hv9
          subst ph9
          refine e_if_ne hX iX11_stage_34 (fun c34 => ?_) (fun c34 => ?_)
          · have h0 : (okVB a1 && (okVB a2 && (okVB a3 && (okVB a4 && okVB a5)))) = true := and_tt (b2i_n0.mp c4) (and_tt (b2i_n0.mp c11) (and_tt (b2i_n0.mp c18) (and_tt (b2i_n0.mp c26) (b2i_n0.mp c34))))
            refine e_aload_n hX 0 iX11_stage_47 rfl rfl ?_
            refine e_get hX iX11_stage_48 hg.1 rfl ?_
            refine e_callV hX iX11_stage_51 (lst.hp hg.2.2.1.1) (c_size htr hg.2.2.1.1) rfl rfl ⟨by decide, by decide, by decide, by decide⟩ (Nat.le_of_ble_eq_true rfl) (fun _ _ h => h.elim) (fun v9 ph9 hv9 => ?_)
            obtain ⟨rfl, e9⟩ := hv9
            subst ph9
            refine e_bipush (v := 6) hX iX11_stage_54 (by decide) ?_
            refine e_icmp_lt hX iX11_stage_56 (fun c56 => ?_) (fun c56 => ?_)
            · have hm : gM σ < 6 := (nI_ltI (by omega) (by decide)).mp c56
              refine e_aload_n hX 0 iX11_stage_69 rfl rfl ?_
              refine e_get hX iX11_stage_70 hg.1 rfl ?_
              refine e_newo hX iX11_stage_73 (by decide) (by decide) (fun q hq => ?_)
              refine e_dup hX iX11_stage_76 rfl ?_
              refine e_iload_n hX 1 iX11_stage_77 rfl rfl ?_
              refine e_iload_n hX 2 iX11_stage_78 rfl rfl ?_
              refine e_iload_n hX 3 iX11_stage_79 rfl rfl ?_
              refine e_iload hX iX11_stage_80 rfl ?_
              refine e_iload hX iX11_stage_82 rfl ?_
              refine e_callI hX iX11_stage_84 (c_initRow htr a1 a2 a3 a4 a5 e_up_s) rfl rfl ⟨by decide, by decide, by decide, by decide⟩ (Nat.le_of_ble_eq_true rfl) (fun _ _ h => h.elim) (fun v9 ph9 hv9 => ?_)
              obtain ⟨rfl, w, hw, e9⟩ := hv9
              have hqw : q ≠ w := fun e => by subst e; rw [e_up_s] at hw; cases hw
              have hwn : ph w = none := by rw [e_up_n (fun e => hqw e.symm)] at hw; exact hw
              have hk2 : kept ph ph9 (fun _ => False) := by
                rw [e9]
                exact ((kept.refl.up2 (Or.inr hq)).up2 (Or.inr hwn)).up2 (Or.inr hq)
              obtain ⟨hg2, hx2⟩ := hg.ext hk2
              have hrow : rowAt θ ph9 q w (five a1 a2 a3 a4 a5) (-1) := by
                rw [e9]
                exact ⟨e_up_s, e_up_o e_up_s (fun e => hqw e.symm)⟩
              refine e_noE hX (fun hE2 => ?_)
              refine e_callV hX iX11_stage_87 hg2.2.2.1.1.hp (c_add htr hg2.2.2.1.1 (by omega) (fun i hi => (hg2.2.2.1.2 i hi).obs) hrow.obs) rfl rfl ⟨by decide, by decide, by decide, by decide⟩ (Nat.le_of_ble_eq_true rfl) (fun _ _ h => h.elim) (fun v8 ph8 hv8 => ?_)
              obtain ⟨rfl, be', e1, e2, e3⟩ := hv8
              refine e_noE hX (fun hE3 => ?_)
              have hX0 := hg.2.2.2.2.2.2.2.2.2.1
              obtain ⟨hg3, hx3⟩ := hg2.stage hE2 hE3 hrow hm (five_ok (okVB_t.mp (b2i_n0.mp c4)) (okVB_t.mp (b2i_n0.mp c11)) (okVB_t.mp (b2i_n0.mp c18)) (okVB_t.mp (b2i_n0.mp c26)) (okVB_t.mp (b2i_n0.mp c34))) ⟨fun h => hX0 _ h hq, fun h => hX0 _ h hwn⟩ (fun i hi e => by have := (hg.2.1.2 i hi).2; rw [e, hwn] at this; cases this) (fun i hi e => by have := (hg.2.2.1.2 i hi).2; rw [e, hwn] at this; cases this) e1 e2 e3
              refine e_pop hX iX11_stage_90 rfl ?_
              refine e_aload_n hX 0 iX11_stage_91 rfl rfl ?_
              refine e_get hX iX11_stage_92 hg3.1 rfl ?_
              refine e_callV hX iX11_stage_95 (lst.hp hg3.2.2.1.1) (c_size htr hg3.2.2.1.1) rfl rfl ⟨by decide, by decide, by decide, by decide⟩ (Nat.le_of_ble_eq_true rfl) (fun _ _ h => h.elim) (fun v9 ph9 hv9 => ?_)
              obtain ⟨rfl, e9⟩ := hv9
              subst ph9
              exact e_iret hX hQ iX11_stage_98 rfl (by decide) (by decide) (hg3.oP (hx2.trans hx3) ((if_pos h0).trans (if_pos hm)) rfl)
            · exact e_throw hX iX11_stage_59 ⟨by decide, Nat.le_of_ble_eq_true rfl, by decide, by decide⟩ (e_out hX hQ hT (by decide) (by decide) (hg.oX 1 ((if_pos h0).trans (if_neg (fun h => c56 (nI_lt h (by decide))))) rfl))
          · exact th (by rw [b2i_0.mp c34, Bool.and_false, Bool.and_false, Bool.and_false, Bool.and_false]; decide)
/-- a rule comes in -/
def s_add (σ : SG) (ρ : RU) : SG := mkS (gN σ) (gV σ) (gI σ) (gM σ) (gW σ) (gK σ + 1) (fun j => if j = gK σ then ρ else gR σ j) (gJ σ) (gP σ) (gD σ) (gF σ) (gQ σ)
theorem GI.addR {p : e_PH} {κ : Nat → Nat} {te be ue ue' : Nat} {r wr b wb u : Nat → Nat} (hg : GI θ ph g X σ κ te be ue r wr b wb u) (hE : ph θ.2.2.2.2 = none) (hE2 : p θ.2.2.2.2 = none) {q : Nat} {ρ : RU} (hq : ruleA ph q ρ) (hm : gK σ < 10) (hX : ¬ X q) (hw : ∀ i, i < gK σ → u i ≠ q) (h1 : lst θ p (κ 2) ue' (gK σ + 1) (va_up u (gK σ) q)) (h2 : ue' = ue ∨ ph ue' = none) (hk : kept ph p (lS θ ph (κ 2) ue)) : GI θ p g X (s_add σ ρ) κ te be ue' r wr b wb (va_up u (gK σ) q) ∧ kx ph p X := by
  have hU := hg.2.2.2.1.1
  have hd := hg.2.2.2.2.2.2.2.1
  have ho := hg.2.2.2.2.2.2.2.2.1
  have ha := hg.2.2.2.2.2.2.2.2.2
  have hkx : kx ph p X := lS.kx hk (ha.2.2.1 2 (by omega)) ha.2.2.2.1.2.2
  have h10 := hg.2.2.2.2.2.2.1.1.choose_spec.1
  have gr := hg.gr.lkeep hk (fun a c hc hs => lS.kind hU hc hs) (lS.no10 hU h10 hd.2.2.1.2.2)
  have hq2 : ruleA p q ρ := ⟨hq.1, hk _ _ hq.2 (fun hs => lkind.no_O (by omega) (lS.kind hU hq.2 hs))⟩
  refine ⟨GI.mk (σ := s_add σ ρ) ⟨gr.1, gr.2.1, gr.2.2.1, fun i hi => ?_, gr.2.2.2.2⟩ (hU.other hg.2.1.1 hE hk (fun h => hd.1.2.1 h) (fun h => by rw [h]; exact hd.2.1.2.1 h.symm)) (hU.other hg.2.2.1.1 hE hk (fun h => hd.1.2.2 h) (fun h => by rw [h]; exact hd.2.1.2.2 h.symm)) h1
    ⟨hd.1, ⟨hd.2.1.1, fun h => ?_, fun h => ?_⟩, ⟨hd.2.2.1.1, hd.2.2.1.2.1, ?_⟩, hd.2.2.2.1, hd.2.2.2.2.1, hd.2.2.2.2.2.1, hd.2.2.2.2.2.2.1, hd.2.2.2.2.2.2.2.1, ?_⟩
    ⟨ho.1, ho.2.1, by show gK σ + 1 ≤ 10; omega, ho.2.2.2⟩
    ⟨hkx.in ha.1, ha.2.1, ha.2.2.1, ⟨ha.2.2.2.1.1, ha.2.2.2.1.2.1, ?_⟩, ha.2.2.2.2.1, ha.2.2.2.2.2.1, fun i hi => ?_⟩, hkx⟩
  · show ruleA p (va_up u (gK σ) q i) (if i = gK σ then ρ else gR σ i)
    by_cases e : i = gK σ
    · subst e; rw [va_up_s, if_pos rfl]; exact hq2
    · rw [va_up_n e, if_neg e]; exact gr.2.2.2.1 i (by have : i < gK σ + 1 := hi; omega)
  · have := lst.edn (n := 0) (r := u) h1 (Nat.succ_ne_zero _) hE2 hg.2.1.1 h2 (fun h => by rw [h]; exact hd.2.1.2.1 h.symm) h.symm
    rw [h]; exact this
  · have := lst.edn (n := 0) (r := u) h1 (Nat.succ_ne_zero _) hE2 hg.2.2.1.1 h2 (fun h => by rw [h]; exact hd.2.1.2.2 h.symm) h.symm
    rw [h]; exact this
  · rcases h2 with h | h
    · rw [h]; exact hd.2.2.1.2.2
    · exact fun e => by rw [e, h10] at h; cases h
  · intro i hi j hj e
    have hi' : i < gK σ + 1 := hi
    have hj' : j < gK σ + 1 := hj
    by_cases e1 : i = gK σ <;> by_cases e2 : j = gK σ
    · omega
    · rw [e1, va_up_s, va_up_n e2] at e; exact absurd e.symm (hw j (by omega))
    · rw [e2, va_up_s, va_up_n e1] at e; exact absurd e (hw i (by omega))
    · rw [va_up_n e1, va_up_n e2] at e; exact hd.2.2.2.2.2.2.2.2 i (by omega) j (by omega) e
  · rcases h2 with h | h
    · rw [h]; exact ha.2.2.2.1.2.2
    · exact fun hx => ha.1 _ hx h
  · have hi' : i < gK σ + 1 := hi
    by_cases e : i = gK σ
    · subst e; rw [va_up_s]; exact hX
    · rw [va_up_n e]; exact ha.2.2.2.2.2.2 i (by omega)
theorem c_numAdded {κ : Nat → Nat} {te be ue : Nat} {r wr b wb u : Nat → Nat} (htr : l.stackTraces = false) (hg : GI θ ph g X σ κ te be ue r wr b wb u) {q : Nat} {ρ : RU} (hq : ruleA ph q ρ) (hm : gK σ < 10) (hXq : ¬ X q) (hw : ∀ i, i < gK σ → u i ≠ q) : MC yX11_numberOfAdded cX11_numberOfAdded 2 (some .int) 6 1 15 l θ [.ref g, .ref q] ph (fun z p => z = some (.int (nI (gK σ))) ∧ GP θ p g X (s_add σ ρ) ∧ kx ph p X) (fun _ _ => False) := by
  refine MC.of htr (by decide) (Nat.le_of_ble_eq_true rfl) ?_
  intro x hX hQ hT
  refine e_noE hX (fun hE => ?_)
  refine e_aload_n hX 0 iX11_numberOfAdded_0 rfl rfl ?_
  refine e_get hX iX11_numberOfAdded_1 hg.1 rfl ?_
  refine e_aload_n hX 1 iX11_numberOfAdded_4 rfl rfl ?_
  refine e_callV hX iX11_numberOfAdded_5 hg.2.2.2.1.1.hp (c_add htr hg.2.2.2.1.1 (by omega) (fun i hi => (hg.2.2.2.1.2 i hi).obs) hq.obs) rfl rfl ⟨by decide, by decide, by decide, by decide⟩ (Nat.le_of_ble_eq_true rfl) (fun _ _ h => h.elim) (fun v9 ph9 hv9 => ?_)
  obtain ⟨rfl, be', e1, e2, e3⟩ := hv9
  refine e_noE hX (fun hE3 => ?_)
  obtain ⟨hg3, hx3⟩ := hg.addR hE hE3 hq hm hXq hw e1 e2 e3
  refine e_pop hX iX11_numberOfAdded_8 rfl ?_
  refine e_aload_n hX 0 iX11_numberOfAdded_9 rfl rfl ?_
  refine e_get hX iX11_numberOfAdded_10 hg3.1 rfl ?_
  refine e_callV hX iX11_numberOfAdded_13 (lst.hp hg3.2.2.2.1.1) (c_size htr hg3.2.2.2.1.1) rfl rfl ⟨by decide, by decide, by decide, by decide⟩ (Nat.le_of_ble_eq_true rfl) (fun _ _ h => h.elim) (fun v9 ph9 hv9 => ?_)
  obtain ⟨rfl, e9⟩ := hv9
  subst ph9
  refine e_iconst (v := 1) hX iX11_numberOfAdded_16 (by decide) ?_
  refine e_isub hX iX11_numberOfAdded_17 ?_
  rw [show nI (gK (s_add σ ρ)) - 1 = nI (gK σ) from nI_pred (gK σ)]
  exact e_iret hX hQ iX11_numberOfAdded_18 rfl (by decide) (by decide) ⟨rfl, hg3.gp, hx3⟩
/-- a fresh rule -/
theorem GI.fresh {p : e_PH} {κ : Nat → Nat} {te be ue : Nat} {r wr b wb u : Nat → Nat} (hg : GI θ ph g X σ κ te be ue r wr b wb u) {q : Nat} {c : va_E} (hq : ph q = none) (hp : p = e_up ph q c) : (GI θ p g X σ κ te be ue r wr b wb u ∧ kx ph p X) ∧ ¬ X q ∧ ∀ i, i < gK σ → u i ≠ q := by
  subst hp
  exact ⟨hg.ext (kept.refl.up2 (Or.inr hq)), fun h => hg.2.2.2.2.2.2.2.2.2.1 _ h hq, fun i hi e => by have := (hg.2.2.2.1.2 i hi).2; rw [e, hq] at this; cases this⟩
def k_add (σ : SG) (k3 : Nat) : Nat := if gK σ < 10 then 0 else k3
def k_rng (σ : SG) (c a b : Int32) : Nat := if colB c = true then (if (decide (-99 ≤ a) && decide (a ≤ 99) && (decide (a ≤ b) && decide (b ≤ 99))) = true then k_add σ 3 else 2) else 1
theorem m_addRange (htr : l.stackTraces = false) (hg : GP θ ph g X σ) (c lo hi : Int32) (st : Bool) : MC yX11_addRange cX11_addRange 5 (some .int) 7 2 26 l θ [.ref g, .int c, .int lo, .int hi, .int (b2i st)] ph (oP θ ph g X (k_rng σ c lo hi) (some (.int (nI (gK σ)))) (s_add σ (0, ix c, lo, hi, st, false))) (oX θ ph g X (k_rng σ c lo hi) [xB, xA, xS] σ) := by
  obtain ⟨κ, te, be, ue, r, wr, b, wb, u, hg⟩ := hg
  refine MC.of htr (by decide) (Nat.le_of_ble_eq_true rfl) ?_
  intro x hX hQ hT
  refine e_iload_n hX 1 iX11_addRange_0 rfl rfl ?_
  by_cases h2 : colB c = true
  · obtain ⟨c', hc', rfl⟩ := colB_t.mp h2
    have hix : ix (nI c') = c' := ix_n (by omega)
    refine e_callS hX iX11_addRange_1 (c_needCol0 htr hc') rfl rfl ⟨by decide, by decide, by decide, by decide⟩ (Nat.le_of_ble_eq_true rfl) (fun _ _ h => h.elim) (fun v9 ph9 hv9 => ?_)
    obtain ⟨rfl, e9⟩ := hv9
    subst ph9
    have th : (¬ (decide (-99 ≤ lo) && decide (lo ≤ 99) && (decide (lo ≤ hi) && decide (hi ≤ 99))) = true) → EJ θ x 27 [(0, .ref g), (1, .int (nI c')), (2, .int lo), (3, .int hi), (4, .int (b2i st))] [] ph 0 0 := by
      intro h
      exact e_throw hX iX11_addRange_27 ⟨by decide, Nat.le_of_ble_eq_true rfl, by decide, by decide⟩ (e_out hX hQ hT (by decide) (by decide) (hg.oX 1 ((if_pos h2).trans (if_neg h)) rfl))
    refine e_iload_n hX 2 iX11_addRange_4 rfl rfl ?_
    refine e_bipush (v := (-99)) hX iX11_addRange_5 (by decide) ?_
    refine e_icmp_lt hX iX11_addRange_7 (fun c7 => ?_) (fun c7 => ?_)
    · exact th (fun h => by simp only [Bool.and_eq_true, decide_eq_true_eq] at h; exact Int32.not_le.mpr c7 h.1.1)
    · refine e_iload_n hX 2 iX11_addRange_10 rfl rfl ?_
      refine e_bipush (v := 99) hX iX11_addRange_11 (by decide) ?_
      refine e_icmp_gt hX iX11_addRange_13 (fun c13 => ?_) (fun c13 => ?_)
      · exact th (fun h => by simp only [Bool.and_eq_true, decide_eq_true_eq] at h; exact Int32.not_le.mpr c13 h.1.2)
      · refine e_iload_n hX 3 iX11_addRange_16 rfl rfl ?_
        refine e_iload_n hX 2 iX11_addRange_17 rfl rfl ?_
        refine e_icmp_lt hX iX11_addRange_18 (fun c18 => ?_) (fun c18 => ?_)
        · exact th (fun h => by simp only [Bool.and_eq_true, decide_eq_true_eq] at h; exact Int32.not_le.mpr c18 h.2.1)
        · refine e_iload_n hX 3 iX11_addRange_21 rfl rfl ?_
          refine e_bipush (v := 99) hX iX11_addRange_22 (by decide) ?_
          refine e_icmp_le hX iX11_addRange_24 (fun c24 => ?_) (fun c24 => ?_)
          · have h3 : (decide (-99 ≤ lo) && decide (lo ≤ 99) && (decide (lo ≤ hi) && decide (hi ≤ 99))) = true := and_tt (and_tt (decide_eq_true (Int32.not_lt.mp c7)) (decide_eq_true (Int32.not_lt.mp c13))) (and_tt (decide_eq_true (Int32.not_lt.mp c18)) (decide_eq_true c24))
            refine e_aload_n hX 0 iX11_addRange_37 rfl rfl ?_
            by_cases h4 : gK σ < 10
            · refine e_callV hX iX11_addRange_38 hg.1 (c_needRoom0 htr hg h4) rfl rfl ⟨by decide, by decide, by decide, by decide⟩ (Nat.le_of_ble_eq_true rfl) (fun _ _ h => h.elim) (fun v9 ph9 hv9 => ?_)
              obtain ⟨rfl, e9⟩ := hv9
              subst ph9
              refine e_aload_n hX 0 iX11_addRange_41 rfl rfl ?_
              refine e_newo hX iX11_addRange_42 (by decide) (by decide) (fun q hq => ?_)
              refine e_dup hX iX11_addRange_45 rfl ?_
              refine e_iload_n hX 1 iX11_addRange_46 rfl rfl ?_
              refine e_iload_n hX 2 iX11_addRange_47 rfl rfl ?_
              refine e_iload_n hX 3 iX11_addRange_48 rfl rfl ?_
              refine e_iload hX iX11_addRange_49 rfl ?_
              refine e_callI hX iX11_addRange_51 (c_init0 htr (nI c') lo hi st e_up_s) rfl rfl ⟨by decide, by decide, by decide, by decide⟩ (Nat.le_of_ble_eq_true rfl) (fun _ _ h => h.elim) (fun v9 ph9 hv9 => ?_)
              obtain ⟨rfl, e9⟩ := hv9
              rw [e_up_up] at e9
              obtain ⟨⟨hg2, hx2⟩, hXq, hu⟩ := hg.fresh hq e9
              have hrul : ruleA ph9 q (0, c', lo, hi, st, false) := ⟨⟨by show (0 : Nat) < 5; decide, hc', fun e => absurd e (by show ¬ (0 : Nat) = 2; decide)⟩, by rw [e9]; exact e_up_s⟩
              refine e_callV hX iX11_addRange_54 hg2.1 (c_numAdded htr hg2 hrul h4 hXq hu) rfl rfl ⟨by decide, by decide, by decide, by decide⟩ (Nat.le_of_ble_eq_true rfl) (fun _ _ h => h.elim) (fun v8 ph8 hv8 => ?_)
              obtain ⟨rfl, hg3, hx3⟩ := hv8
              exact e_iret hX hQ iX11_addRange_57 rfl (by decide) (by decide) ⟨((if_pos h2).trans (if_pos h3)).trans (if_pos h4), rfl, by rw [hix]; exact hg3, hx2.trans hx3⟩
            · refine e_callV hX iX11_addRange_38 hg.1 (c_needRoomX htr hg h4) rfl rfl ⟨by decide, by decide, by decide, by decide⟩ (Nat.le_of_ble_eq_true rfl) (fun E9 ph9 hv9 => ?_) (fun _ _ h => h.elim)
              obtain ⟨rfl, e9⟩ := hv9
              subst ph9
              exact e_out hX hQ hT (by decide) (by decide) (hg.oX 2 (((if_pos h2).trans (if_pos h3)).trans (if_neg h4)) rfl)
          · exact th (fun h => by simp only [Bool.and_eq_true, decide_eq_true_eq] at h; exact c24 h.2.2)
  · refine e_callS hX iX11_addRange_1 (c_needColX htr (colB_f h2)) rfl rfl ⟨by decide, by decide, by decide, by decide⟩ (Nat.le_of_ble_eq_true rfl) (fun E9 ph9 hv9 => ?_) (fun _ _ h => h.elim)
    obtain ⟨rfl, e9⟩ := hv9
    subst ph9
    exact e_out hX hQ hT (by decide) (by decide) (hg.oX 0 (if_neg h2) rfl)
def k_req (σ : SG) (c : Int32) : Nat := if colB c = true then k_add σ 2 else 1
theorem m_addRequired (htr : l.stackTraces = false) (hg : GP θ ph g X σ) (c : Int32) (st : Bool) : MC yX11_addRequired cX11_addRequired 3 (some .int) 7 2 26 l θ [.ref g, .int c, .int (b2i st)] ph (oP θ ph g X (k_req σ c) (some (.int (nI (gK σ)))) (s_add σ (1, ix c, 0, 0, st, false))) (oX θ ph g X (k_req σ c) [xB, xS] σ) := by
  obtain ⟨κ, te, be, ue, r, wr, b, wb, u, hg⟩ := hg
  refine MC.of htr (by decide) (Nat.le_of_ble_eq_true rfl) ?_
  intro x hX hQ hT
  refine e_iload_n hX 1 iX11_addRequired_0 rfl rfl ?_
  by_cases h2 : colB c = true
  · obtain ⟨c', hc', rfl⟩ := colB_t.mp h2
    have hix : ix (nI c') = c' := ix_n (by omega)
    refine e_callS hX iX11_addRequired_1 (c_needCol0 htr hc') rfl rfl ⟨by decide, by decide, by decide, by decide⟩ (Nat.le_of_ble_eq_true rfl) (fun _ _ h => h.elim) (fun v9 ph9 hv9 => ?_)
    obtain ⟨rfl, e9⟩ := hv9
    subst ph9
    refine e_aload_n hX 0 iX11_addRequired_4 rfl rfl ?_
    by_cases h4 : gK σ < 10
    · refine e_callV hX iX11_addRequired_5 hg.1 (c_needRoom0 htr hg h4) rfl rfl ⟨by decide, by decide, by decide, by decide⟩ (Nat.le_of_ble_eq_true rfl) (fun _ _ h => h.elim) (fun v9 ph9 hv9 => ?_)
      obtain ⟨rfl, e9⟩ := hv9
      subst ph9
      refine e_aload_n hX 0 iX11_addRequired_8 rfl rfl ?_
      refine e_newo hX iX11_addRequired_9 (by decide) (by decide) (fun q hq => ?_)
      refine e_dup hX iX11_addRequired_12 rfl ?_
      refine e_iload_n hX 1 iX11_addRequired_13 rfl rfl ?_
      refine e_iload_n hX 2 iX11_addRequired_14 rfl rfl ?_
      refine e_callI hX iX11_addRequired_15 (c_init1 htr (nI c') st e_up_s) rfl rfl ⟨by decide, by decide, by decide, by decide⟩ (Nat.le_of_ble_eq_true rfl) (fun _ _ h => h.elim) (fun v9 ph9 hv9 => ?_)
      obtain ⟨rfl, e9⟩ := hv9
      rw [e_up_up] at e9
      obtain ⟨⟨hg2, hx2⟩, hXq, hu⟩ := hg.fresh hq e9
      have hrul : ruleA ph9 q (1, c', 0, 0, st, false) := ⟨⟨by show (1 : Nat) < 5; decide, hc', fun e => absurd e (by show ¬ (1 : Nat) = 2; decide)⟩, by rw [e9]; exact e_up_s⟩
      refine e_callV hX iX11_addRequired_18 hg2.1 (c_numAdded htr hg2 hrul h4 hXq hu) rfl rfl ⟨by decide, by decide, by decide, by decide⟩ (Nat.le_of_ble_eq_true rfl) (fun _ _ h => h.elim) (fun v8 ph8 hv8 => ?_)
      obtain ⟨rfl, hg3, hx3⟩ := hv8
      exact e_iret hX hQ iX11_addRequired_21 rfl (by decide) (by decide) ⟨(if_pos h2).trans (if_pos h4), rfl, by rw [hix]; exact hg3, hx2.trans hx3⟩
    · refine e_callV hX iX11_addRequired_5 hg.1 (c_needRoomX htr hg h4) rfl rfl ⟨by decide, by decide, by decide, by decide⟩ (Nat.le_of_ble_eq_true rfl) (fun E9 ph9 hv9 => ?_) (fun _ _ h => h.elim)
      obtain ⟨rfl, e9⟩ := hv9
      subst ph9
      exact e_out hX hQ hT (by decide) (by decide) (hg.oX 1 ((if_pos h2).trans (if_neg h4)) rfl)
  · refine e_callS hX iX11_addRequired_1 (c_needColX htr (colB_f h2)) rfl rfl ⟨by decide, by decide, by decide, by decide⟩ (Nat.le_of_ble_eq_true rfl) (fun E9 ph9 hv9 => ?_) (fun _ _ h => h.elim)
    obtain ⟨rfl, e9⟩ := hv9
    subst ph9
    exact e_out hX hQ hT (by decide) (by decide) (hg.oX 0 (if_neg h2) rfl)
theorem m_addUnique (htr : l.stackTraces = false) (hg : GP θ ph g X σ) (c : Int32) (st : Bool) : MC yX11_addUnique cX11_addUnique 3 (some .int) 7 2 26 l θ [.ref g, .int c, .int (b2i st)] ph (oP θ ph g X (k_req σ c) (some (.int (nI (gK σ)))) (s_add σ (3, ix c, 0, 0, st, false))) (oX θ ph g X (k_req σ c) [xB, xS] σ) := by
  obtain ⟨κ, te, be, ue, r, wr, b, wb, u, hg⟩ := hg
  refine MC.of htr (by decide) (Nat.le_of_ble_eq_true rfl) ?_
  intro x hX hQ hT
  refine e_iload_n hX 1 iX11_addUnique_0 rfl rfl ?_
  by_cases h2 : colB c = true
  · obtain ⟨c', hc', rfl⟩ := colB_t.mp h2
    have hix : ix (nI c') = c' := ix_n (by omega)
    refine e_callS hX iX11_addUnique_1 (c_needCol0 htr hc') rfl rfl ⟨by decide, by decide, by decide, by decide⟩ (Nat.le_of_ble_eq_true rfl) (fun _ _ h => h.elim) (fun v9 ph9 hv9 => ?_)
    obtain ⟨rfl, e9⟩ := hv9
    subst ph9
    refine e_aload_n hX 0 iX11_addUnique_4 rfl rfl ?_
    by_cases h4 : gK σ < 10
    · refine e_callV hX iX11_addUnique_5 hg.1 (c_needRoom0 htr hg h4) rfl rfl ⟨by decide, by decide, by decide, by decide⟩ (Nat.le_of_ble_eq_true rfl) (fun _ _ h => h.elim) (fun v9 ph9 hv9 => ?_)
      obtain ⟨rfl, e9⟩ := hv9
      subst ph9
      refine e_aload_n hX 0 iX11_addUnique_8 rfl rfl ?_
      refine e_newo hX iX11_addUnique_9 (by decide) (by decide) (fun q hq => ?_)
      refine e_dup hX iX11_addUnique_12 rfl ?_
      refine e_iload_n hX 1 iX11_addUnique_13 rfl rfl ?_
      refine e_iload_n hX 2 iX11_addUnique_14 rfl rfl ?_
      refine e_callI hX iX11_addUnique_15 (c_init3 htr (nI c') st e_up_s) rfl rfl ⟨by decide, by decide, by decide, by decide⟩ (Nat.le_of_ble_eq_true rfl) (fun _ _ h => h.elim) (fun v9 ph9 hv9 => ?_)
      obtain ⟨rfl, e9⟩ := hv9
      rw [e_up_up] at e9
      obtain ⟨⟨hg2, hx2⟩, hXq, hu⟩ := hg.fresh hq e9
      have hrul : ruleA ph9 q (3, c', 0, 0, st, false) := ⟨⟨by show (3 : Nat) < 5; decide, hc', fun e => absurd e (by show ¬ (3 : Nat) = 2; decide)⟩, by rw [e9]; exact e_up_s⟩
      refine e_callV hX iX11_addUnique_18 hg2.1 (c_numAdded htr hg2 hrul h4 hXq hu) rfl rfl ⟨by decide, by decide, by decide, by decide⟩ (Nat.le_of_ble_eq_true rfl) (fun _ _ h => h.elim) (fun v8 ph8 hv8 => ?_)
      obtain ⟨rfl, hg3, hx3⟩ := hv8
      exact e_iret hX hQ iX11_addUnique_21 rfl (by decide) (by decide) ⟨(if_pos h2).trans (if_pos h4), rfl, by rw [hix]; exact hg3, hx2.trans hx3⟩
    · refine e_callV hX iX11_addUnique_5 hg.1 (c_needRoomX htr hg h4) rfl rfl ⟨by decide, by decide, by decide, by decide⟩ (Nat.le_of_ble_eq_true rfl) (fun E9 ph9 hv9 => ?_) (fun _ _ h => h.elim)
      obtain ⟨rfl, e9⟩ := hv9
      subst ph9
      exact e_out hX hQ hT (by decide) (by decide) (hg.oX 1 ((if_pos h2).trans (if_neg h4)) rfl)
  · refine e_callS hX iX11_addUnique_1 (c_needColX htr (colB_f h2)) rfl rfl ⟨by decide, by decide, by decide, by decide⟩ (Nat.le_of_ble_eq_true rfl) (fun E9 ph9 hv9 => ?_) (fun _ _ h => h.elim)
    obtain ⟨rfl, e9⟩ := hv9
    subst ph9
    exact e_out hX hQ hT (by decide) (by decide) (hg.oX 0 (if_neg h2) rfl)
def k_ord (σ : SG) (c d : Int32) : Nat := if colB c = true then (if colB d = true then (if c = d then 2 else k_add σ 3) else 1) else 1
theorem m_addOrder (htr : l.stackTraces = false) (hg : GP θ ph g X σ) (c d : Int32) (st : Bool) : MC yX11_addOrder cX11_addOrder 4 (some .int) 7 2 26 l θ [.ref g, .int c, .int d, .int (b2i st)] ph (oP θ ph g X (k_ord σ c d) (some (.int (nI (gK σ)))) (s_add σ (2, ix c, d, 0, st, false))) (oX θ ph g X (k_ord σ c d) [xB, xA, xS] σ) := by
  obtain ⟨κ, te, be, ue, r, wr, b, wb, u, hg⟩ := hg
  refine MC.of htr (by decide) (Nat.le_of_ble_eq_true rfl) ?_
  intro x hX hQ hT
  refine e_iload_n hX 1 iX11_addOrder_0 rfl rfl ?_
  by_cases h2 : colB c = true
  · obtain ⟨c', hc', rfl⟩ := colB_t.mp h2
    have hix : ix (nI c') = c' := ix_n (by omega)
    refine e_callS hX iX11_addOrder_1 (c_needCol0 htr hc') rfl rfl ⟨by decide, by decide, by decide, by decide⟩ (Nat.le_of_ble_eq_true rfl) (fun _ _ h => h.elim) (fun v9 ph9 hv9 => ?_)
    obtain ⟨rfl, e9⟩ := hv9
    subst ph9
    refine e_iload_n hX 2 iX11_addOrder_4 rfl rfl ?_
    by_cases h3 : colB d = true
    · obtain ⟨d', hd', rfl⟩ := colB_t.mp h3
      refine e_callS hX iX11_addOrder_5 (c_needCol0 htr hd') rfl rfl ⟨by decide, by decide, by decide, by decide⟩ (Nat.le_of_ble_eq_true rfl) (fun _ _ h => h.elim) (fun v9 ph9 hv9 => ?_)
      obtain ⟨rfl, e9⟩ := hv9
      subst ph9
      refine e_iload_n hX 1 iX11_addOrder_8 rfl rfl ?_
      refine e_iload_n hX 2 iX11_addOrder_9 rfl rfl ?_
      refine e_icmp_ne hX iX11_addOrder_10 (fun c10 => ?_) (fun c10 => ?_)
      · refine e_aload_n hX 0 iX11_addOrder_23 rfl rfl ?_
        by_cases h4 : gK σ < 10
        · refine e_callV hX iX11_addOrder_24 hg.1 (c_needRoom0 htr hg h4) rfl rfl ⟨by decide, by decide, by decide, by decide⟩ (Nat.le_of_ble_eq_true rfl) (fun _ _ h => h.elim) (fun v9 ph9 hv9 => ?_)
          obtain ⟨rfl, e9⟩ := hv9
          subst ph9
          refine e_aload_n hX 0 iX11_addOrder_27 rfl rfl ?_
          refine e_newo hX iX11_addOrder_28 (by decide) (by decide) (fun q hq => ?_)
          refine e_dup hX iX11_addOrder_31 rfl ?_
          refine e_iload_n hX 1 iX11_addOrder_32 rfl rfl ?_
          refine e_iload_n hX 2 iX11_addOrder_33 rfl rfl ?_
          refine e_iload_n hX 3 iX11_addOrder_34 rfl rfl ?_
          refine e_callI hX iX11_addOrder_35 (c_init2 htr (nI c') (nI d') st e_up_s) rfl rfl ⟨by decide, by decide, by decide, by decide⟩ (Nat.le_of_ble_eq_true rfl) (fun _ _ h => h.elim) (fun v9 ph9 hv9 => ?_)
          obtain ⟨rfl, e9⟩ := hv9
          rw [e_up_up] at e9
          obtain ⟨⟨hg2, hx2⟩, hXq, hu⟩ := hg.fresh hq e9
          have hrul : ruleA ph9 q (2, c', nI d', 0, st, false) := ⟨⟨by show (2 : Nat) < 5; decide, hc', fun _ => ⟨d', hd', rfl⟩⟩, by rw [e9]; exact e_up_s⟩
          refine e_callV hX iX11_addOrder_38 hg2.1 (c_numAdded htr hg2 hrul h4 hXq hu) rfl rfl ⟨by decide, by decide, by decide, by decide⟩ (Nat.le_of_ble_eq_true rfl) (fun _ _ h => h.elim) (fun v8 ph8 hv8 => ?_)
          obtain ⟨rfl, hg3, hx3⟩ := hv8
          exact e_iret hX hQ iX11_addOrder_41 rfl (by decide) (by decide) ⟨(((if_pos h2).trans (if_pos h3)).trans (if_neg c10)).trans (if_pos h4), rfl, by rw [hix]; exact hg3, hx2.trans hx3⟩
        · refine e_callV hX iX11_addOrder_24 hg.1 (c_needRoomX htr hg h4) rfl rfl ⟨by decide, by decide, by decide, by decide⟩ (Nat.le_of_ble_eq_true rfl) (fun E9 ph9 hv9 => ?_) (fun _ _ h => h.elim)
          obtain ⟨rfl, e9⟩ := hv9
          subst ph9
          exact e_out hX hQ hT (by decide) (by decide) (hg.oX 2 ((((if_pos h2).trans (if_pos h3)).trans (if_neg c10)).trans (if_neg h4)) rfl)
      · exact e_throw hX iX11_addOrder_13 ⟨by decide, Nat.le_of_ble_eq_true rfl, by decide, by decide⟩ (e_out hX hQ hT (by decide) (by decide) (hg.oX 1 (((if_pos h2).trans (if_pos h3)).trans (if_pos c10)) rfl))
    · refine e_callS hX iX11_addOrder_5 (c_needColX htr (colB_f h3)) rfl rfl ⟨by decide, by decide, by decide, by decide⟩ (Nat.le_of_ble_eq_true rfl) (fun E9 ph9 hv9 => ?_) (fun _ _ h => h.elim)
      obtain ⟨rfl, e9⟩ := hv9
      subst ph9
      exact e_out hX hQ hT (by decide) (by decide) (hg.oX 0 ((if_pos h2).trans (if_neg h3)) rfl)
  · refine e_callS hX iX11_addOrder_1 (c_needColX htr (colB_f h2)) rfl rfl ⟨by decide, by decide, by decide, by decide⟩ (Nat.le_of_ble_eq_true rfl) (fun E9 ph9 hv9 => ?_) (fun _ _ h => h.elim)
    obtain ⟨rfl, e9⟩ := hv9
    subst ph9
    exact e_out hX hQ hT (by decide) (by decide) (hg.oX 0 (if_neg h2) rfl)
def k_dep (σ : SG) (s c : Int32) : Nat := if colB c = true then (if (setB s && !(ix s).testBit (ix c)) = true then k_add σ 3 else 2) else 1
theorem m_addDependency (htr : l.stackTraces = false) (hg : GP θ ph g X σ) (s c : Int32) (st : Bool) : MC yX11_addDependency cX11_addDependency 4 (some .int) 7 2 26 l θ [.ref g, .int s, .int c, .int (b2i st)] ph (oP θ ph g X (k_dep σ s c) (some (.int (nI (gK σ)))) (s_add σ (4, ix c, s, 0, st, false))) (oX θ ph g X (k_dep σ s c) [xB, xA, xS] σ) := by
  obtain ⟨κ, te, be, ue, r, wr, b, wb, u, hg⟩ := hg
  refine MC.of htr (by decide) (Nat.le_of_ble_eq_true rfl) ?_
  intro x hX hQ hT
  refine e_iload_n hX 2 iX11_addDependency_0 rfl rfl ?_
  by_cases h2 : colB c = true
  · obtain ⟨c', hc', rfl⟩ := colB_t.mp h2
    have hix : ix (nI c') = c' := ix_n (by omega)
    refine e_callS hX iX11_addDependency_1 (c_needCol0 htr hc') rfl rfl ⟨by decide, by decide, by decide, by decide⟩ (Nat.le_of_ble_eq_true rfl) (fun _ _ h => h.elim) (fun v9 ph9 hv9 => ?_)
    obtain ⟨rfl, e9⟩ := hv9
    subst ph9
    refine e_iload_n hX 1 iX11_addDependency_4 rfl rfl ?_
    refine e_iload_n hX 2 iX11_addDependency_5 rfl rfl ?_
    by_cases h1 : (setB s && !(ix s).testBit (ix (nI c'))) = true
    · have h1' := h1
      rw [Bool.and_eq_true] at h1'
      obtain ⟨s', hs', rfl⟩ := setB_t.mp h1'.1
      have hb : s'.testBit c' = false := by
        have := h1'.2
        rw [hix, ix_n (by omega)] at this
        simpa using this
      refine e_callS hX iX11_addDependency_6 (c_needSW0 htr hs' hc' hb) rfl rfl ⟨by decide, by decide, by decide, by decide⟩ (Nat.le_of_ble_eq_true rfl) (fun _ _ h => h.elim) (fun v9 ph9 hv9 => ?_)
      obtain ⟨rfl, e9⟩ := hv9
      subst ph9
      refine e_aload_n hX 0 iX11_addDependency_9 rfl rfl ?_
      by_cases h4 : gK σ < 10
      · refine e_callV hX iX11_addDependency_10 hg.1 (c_needRoom0 htr hg h4) rfl rfl ⟨by decide, by decide, by decide, by decide⟩ (Nat.le_of_ble_eq_true rfl) (fun _ _ h => h.elim) (fun v9 ph9 hv9 => ?_)
        obtain ⟨rfl, e9⟩ := hv9
        subst ph9
        refine e_aload_n hX 0 iX11_addDependency_13 rfl rfl ?_
        refine e_newo hX iX11_addDependency_14 (by decide) (by decide) (fun q hq => ?_)
        refine e_dup hX iX11_addDependency_17 rfl ?_
        refine e_iload_n hX 1 iX11_addDependency_18 rfl rfl ?_
        refine e_iload_n hX 2 iX11_addDependency_19 rfl rfl ?_
        refine e_iload_n hX 3 iX11_addDependency_20 rfl rfl ?_
        refine e_callI hX iX11_addDependency_21 (c_init4 htr (nI s') (nI c') st e_up_s) rfl rfl ⟨by decide, by decide, by decide, by decide⟩ (Nat.le_of_ble_eq_true rfl) (fun _ _ h => h.elim) (fun v9 ph9 hv9 => ?_)
        obtain ⟨rfl, e9⟩ := hv9
        rw [e_up_up] at e9
        obtain ⟨⟨hg2, hx2⟩, hXq, hu⟩ := hg.fresh hq e9
        have hrul : ruleA ph9 q (4, c', nI s', 0, st, false) := ⟨⟨by show (4 : Nat) < 5; decide, hc', fun e => absurd e (by show ¬ (4 : Nat) = 2; decide)⟩, by rw [e9]; exact e_up_s⟩
        refine e_callV hX iX11_addDependency_24 hg2.1 (c_numAdded htr hg2 hrul h4 hXq hu) rfl rfl ⟨by decide, by decide, by decide, by decide⟩ (Nat.le_of_ble_eq_true rfl) (fun _ _ h => h.elim) (fun v8 ph8 hv8 => ?_)
        obtain ⟨rfl, hg3, hx3⟩ := hv8
        exact e_iret hX hQ iX11_addDependency_27 rfl (by decide) (by decide) ⟨((if_pos h2).trans (if_pos h1)).trans (if_pos h4), rfl, by rw [hix]; exact hg3, hx2.trans hx3⟩
      · refine e_callV hX iX11_addDependency_10 hg.1 (c_needRoomX htr hg h4) rfl rfl ⟨by decide, by decide, by decide, by decide⟩ (Nat.le_of_ble_eq_true rfl) (fun E9 ph9 hv9 => ?_) (fun _ _ h => h.elim)
        obtain ⟨rfl, e9⟩ := hv9
        subst ph9
        exact e_out hX hQ hT (by decide) (by decide) (hg.oX 2 (((if_pos h2).trans (if_pos h1)).trans (if_neg h4)) rfl)
    · refine e_callS hX iX11_addDependency_6 (c_needSWX htr hc' (fun ⟨s', hs', e, hb⟩ => h1 (by subst e; rw [setB_t.mpr ⟨s', hs', rfl⟩, hix, ix_n (by omega), hb]; rfl))) rfl rfl ⟨by decide, by decide, by decide, by decide⟩ (Nat.le_of_ble_eq_true rfl) (fun E9 ph9 hv9 => ?_) (fun _ _ h => h.elim)
      obtain ⟨rfl, e9⟩ := hv9
      subst ph9
      exact e_out hX hQ hT (by decide) (by decide) (hg.oX 1 ((if_pos h2).trans (if_neg h1)) rfl)
  · refine e_callS hX iX11_addDependency_1 (c_needColX htr (colB_f h2)) rfl rfl ⟨by decide, by decide, by decide, by decide⟩ (Nat.le_of_ble_eq_true rfl) (fun E9 ph9 hv9 => ?_) (fun _ _ h => h.elim)
    obtain ⟨rfl, e9⟩ := hv9
    subst ph9
    exact e_out hX hQ hT (by decide) (by decide) (hg.oX 0 (if_neg h2) rfl)
end GMT
