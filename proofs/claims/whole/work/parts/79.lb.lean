/-! the law's body from its first instruction -/
theorem GP.wid {θ : e_T} {p p2 : e_PH} {g : Nat} {X : Nat → Prop} {σ : SG} (h : GP θ p g (fun _ => False) σ) (hk : kept p p2 (fun _ => False)) (hX : ∀ a, X a → p a = none) (hX2 : ∀ a, X a → p2 a ≠ none) (hE : p2 θ.2.2.2.2 = none) : GP θ p2 g X σ := by
  have h2 := h.keep hk (fun _ q => q.elim)
  obtain ⟨κ, te, be, ue, r, wr, b, wb, u, h⟩ := h
  have no : ∀ {a : Nat} {c : va_E}, p a = some c → ¬ X a := fun ha q => by rw [hX _ q] at ha; cases ha
  have noE : ¬ X θ.2.2.2.2 := fun q => hX2 _ q hE
  have ed : ∀ {a e n : Nat} {r : Nat → Nat}, lst θ p a e n r → ¬ X e := fun hl => by
    rcases hl.hed with e | ⟨N, f, hq⟩
    · rw [e]; exact noE
    · exact no hq
  obtain ⟨gO, ⟨gT, gTr⟩, ⟨gB, gBr⟩, ⟨gU, gUr⟩, gX, ⟨⟨a1, b1, f1, h4, h5⟩, ⟨a2, f2, h6, h7⟩, a3, f3, h8, h9⟩, ⟨⟨f, gq0, gq1⟩, gq2⟩, gd, gok, gav⟩ := h
  have hg2 : GI θ p2 g (fun _ => False) σ κ te be ue r wr b wb u := by
    have h0 : GI θ p g (fun _ => False) σ κ te be ue r wr b wb u := ⟨gO, ⟨gT, gTr⟩, ⟨gB, gBr⟩, ⟨gU, gUr⟩, gX, ⟨⟨a1, b1, f1, h4, h5⟩, ⟨a2, f2, h6, h7⟩, a3, f3, h8, h9⟩, ⟨⟨f, gq0, gq1⟩, gq2⟩, gd, gok, gav⟩
    exact h0.keep hk (fun _ q => q.elim)
  refine ⟨κ, te, be, ue, r, wr, b, wb, u, hg2.1, hg2.2.1, hg2.2.2.1, hg2.2.2.2.1, hg2.2.2.2.2.1, hg2.2.2.2.2.2.1, hg2.2.2.2.2.2.2.1, gd, gok, hX2, no gO, fun i hi => ?_, ⟨ed gT, ed gB, ed gU⟩, fun i hi => ⟨no (gTr i hi).1, no (gTr i hi).2⟩, fun i hi => ⟨no (gBr i hi).1, no (gBr i hi).2⟩, fun i hi => no (gUr i hi).2⟩
  match i, hi with
  | 0, _ => exact no gT.hp
  | 1, _ => exact no gB.hp
  | 2, _ => exact no gU.hp
  | 3, _ => exact no gX
  | 4, _ => exact no h4
  | 5, _ => exact no h5
  | 6, _ => exact no h6
  | 7, _ => exact no h7
  | 8, _ => exact no h8
  | 9, _ => exact no h9
  | 10, _ => exact no gq0
  | 11, _ => exact no (gq2 0 (by decide))
  | 12, _ => exact no (gq2 1 (by decide))
  | 13, _ => exact no (gq2 2 (by decide))
  | 14, _ => exact no (gq2 3 (by decide))
  | 15, _ => exact no (gq2 4 (by decide))
  | i + 16, hi => exact absurd hi (by omega)
theorem kept.none {p p2 : e_PH} {a : Nat} (h : kept p p2 (fun _ => False)) (ha : p2 a = Option.none) : p a = Option.none := by
  cases e : p a with
  | none => rfl
  | some c => rw [h a c e (fun q => q)] at ha; cases ha
theorem LI.new {θ : e_T} {p1 p2 p3 p4 p5 : e_PH} {g mo o od : Nat} {μ : Nat → Nat} {σ : SG} {c2 : va_E} {t : Int32} (hg : GP θ p1 g (fun _ => False) σ) (h1 : p1 mo = none) (e2 : p2 = e_up p1 mo c2) (hm : MP θ p3 mo μ σ t) (hμ : ∀ j, j < 14 → p2 (μ j) = none) (hk : kept p2 p3 (fun a => a = mo)) (h3 : p3 o = none) (e4 : p4 = e_up p3 o (e_L θ 1 (fun _ => 0))) (h4 : p4 od = none) (e5 : p5 = e_up p4 od (e_D θ 1 (fun _ => 0))) (hE : p5 θ.2.2.2.2 = none) : LI θ p5 g mo μ o od σ := by
  have k12 : kept p1 p2 (fun _ => False) := by rw [e2]; exact kept.up (Or.inr h1)
  have k13 : kept p1 p3 (fun _ => False) := fun a c ha hn => hk a c (k12 a c ha hn) (fun e => by
    have e' : a = mo := e
    rw [e', h1] at ha; cases ha)
  have k34 : kept p3 p4 (fun _ => False) := by rw [e4]; exact kept.up (Or.inr h3)
  have k45 : kept p4 p5 (fun _ => False) := by rw [e5]; exact kept.up (Or.inr h4)
  have k35 := k34.trans k45
  have ho : p5 o = some (e_L θ 1 (fun _ => 0)) := k45 _ _ (by rw [e4]; exact e_up_s) (fun q => q)
  have hd : p5 od = some (e_D θ 1 (fun _ => 0)) := by rw [e5]; exact e_up_s
  have hm5 : MP θ p5 mo μ σ t := hm.kx (fun b c _ hc => k35 b c hc (fun q => q))
  refine ⟨hg.wid (k13.trans k35) (fun a ha => ?_) (fun a ha => ?_) hE, ⟨t, hm5⟩, ⟨_, ho⟩, _, hd⟩
  · rcases ha with (rfl | ⟨j, hj, rfl⟩) | rfl | rfl
    · exact h1
    · exact k12.none (hμ j hj)
    · exact k13.none h3
    · exact (k13.trans k34).none h4
  · rcases ha with ha | rfl | rfl
    · obtain ⟨s, F, hm2, -⟩ := hm5
      rcases ha with rfl | ⟨j, hj, rfl⟩
      · rw [hm2.1]; exact fun q => by cases q
      · rw [hm2.2.1 j hj]; exact fun q => by cases q
    · rw [ho]; exact fun q => by cases q
    · rw [hd]; exact fun q => by cases q
section XLB
variable {θ : e_T} {x : e_X} {nm : String} {rt : Option FieldType} {l : Launch} {b L : Nat} {xs : Nat → Int32}
theorem law_body (htr : l.stackTraces = false) (hX : e_in cL_law RL nm 9 rt room_1 l θ x) (hN : e_nc x) (hS : e_scr θ x b L xs) (hL : L ≤ 3072) (fin : ∀ ph k n, k ≤ 603072 → n ≤ 7182442 → EJ θ x 2949 [] [] ph k n) : EJ θ x 0 [(0, .ref b)] [] (fun _ => none) 0 0 := by
  refine e_newo hX iL_law_0 (Nat.le_of_ble_eq_true rfl) (Nat.le_of_ble_eq_true rfl) (fun g hg => ?_)
  refine e_dup hX iL_law_3 rfl ?_
  refine e_callI hX iL_law_4 (m_init (X := fun _ => False) htr e_up_s (fun _ h => h.elim) (fun h => h)) rfl rfl ⟨Nat.le_of_ble_eq_true rfl, Nat.le_of_ble_eq_true rfl, Nat.le_of_ble_eq_true rfl, Nat.le_of_ble_eq_true rfl⟩ (Nat.le_of_ble_eq_true rfl) (fun _ _ h => h.elim) (fun v1 p1 h1 => ?_)
  obtain ⟨rfl, hg1, -⟩ := h1
  refine e_astore_n hX 1 iL_law_7 rfl (by decide) ?_
  refine e_newo hX iL_law_8 (Nat.le_of_ble_eq_true rfl) (Nat.le_of_ble_eq_true rfl) (fun mo hmo => ?_)
  refine e_dup hX iL_law_11 rfl ?_
  refine e_callI hX iL_law_12 (w_init htr e_up_s) rfl rfl ⟨Nat.le_of_ble_eq_true rfl, Nat.le_of_ble_eq_true rfl, Nat.le_of_ble_eq_true rfl, Nat.le_of_ble_eq_true rfl⟩ (Nat.le_of_ble_eq_true rfl) (fun _ _ h => h.elim) (fun v3 p3 h3 => ?_)
  obtain ⟨rfl, ⟨μ, hm3, hμ⟩, hk3⟩ := h3
  refine e_astore_n hX 2 iL_law_15 rfl (by decide) ?_
  refine e_iconst (v := 1) hX iL_law_16 (by decide) ?_
  refine e_newL hX 1 iL_law_17 ac_long rfl (by decide) (Nat.le_of_ble_eq_true rfl) (Nat.le_of_ble_eq_true rfl) (fun o ho => ?_)
  refine e_astore_n hX 3 iL_law_19 rfl (by decide) ?_
  refine e_iconst (v := 1) hX iL_law_20 (by decide) ?_
  refine e_newD hX 1 iL_law_21 ac_double rfl (by decide) (Nat.le_of_ble_eq_true rfl) (Nat.le_of_ble_eq_true rfl) (fun od hod => ?_)
  refine e_astore hX iL_law_23 (by decide) ?_
  refine e_iconst (v := 0) hX iL_law_25 (by decide) ?_
  refine e_istore hX iL_law_26 (by decide) ?_
  refine e_loc [0, 1, 2, 3, 4, 5] ?_
  refine e_wid (k' := 100 + 340 * 0) (n' := 1000 + 2000 * 0) (Nat.le_of_ble_eq_true rfl) (Nat.le_of_ble_eq_true rfl) ?_
  refine e_noE hX (fun hE => ?_)
  have hI := LI.new hg1 hmo rfl hm3 hμ hk3 ho rfl hod rfl hE
  exact law_loop htr hX hN hS hL fin 514 0 _ s_new (by omega) (by omega) hI
end XLB
