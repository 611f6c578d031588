def s_mis (σ : SG) (P : Nat) (D F : Int32) : SG := mkS (gN σ) (gV σ) (gI σ) (gM σ) (gW σ) (gK σ) (gR σ) (gJ σ) P D F (gQ σ)
def s_prf (σ : SG) (c b : Nat) (y : Int32) : SG := mkS (gN σ) (gV σ) (gI σ) (gM σ) (gW σ) (gK σ) (gR σ) (gJ σ) (gP σ) (gD σ) (gF σ) (fun j => if j = c then upd (gQ σ c) b y else gQ σ j)
theorem GI.gset {θ : e_T} {ph : e_PH} {g : Nat} {X : Nat → Prop} {σ : SG} {κ : Nat → Nat} {te be ue : Nat} {r wr b wb u : Nat → Nat} (hg : GI θ ph g X σ κ te be ue r wr b wb u) {P : Nat} {D F : Int32} (hP : P ≤ 12) : GI θ (e_up ph g (gobj κ (s_mis σ P D F))) g X (s_mis σ P D F) κ te be ue r wr b wb u ∧ kx ph (e_up ph g (gobj κ (s_mis σ P D F))) X := by
  have hk : kept ph (e_up ph g (gobj κ (s_mis σ P D F))) (fun a => a = g) := kept.refl.up2 (Or.inl rfl)
  have hg0 := hg
  have ha := hg.2.2.2.2.2.2.2.2.2
  have no : ∀ a c, ph a = some c → (∀ fs, c ≠ e_O 0 fs) → e_up ph g (gobj κ (s_mis σ P D F)) a = some c := fun a c hc hn => hk a c hc (fun e => by subst e; rw [hg0.1] at hc; exact hn _ (Option.some.inj hc).symm)
  obtain ⟨gO, ⟨gT, gTr⟩, ⟨gB, gBr⟩, ⟨gU, gUr⟩, gX, ⟨⟨a1, b1, f1, h4, h5⟩, ⟨a2, f2, h6, h7⟩, a3, f3, h8, h9⟩, ⟨⟨f9, gq0, gq1⟩, gq2⟩, gd, gok, gav⟩ := hg
  have cr : ∀ {q w : Nat} {v : Nat → Int32} {id : Int32}, rowAt θ ph q w v id → rowAt θ (e_up ph g (gobj κ (s_mis σ P D F))) q w v id := fun hr => ⟨no _ _ hr.1 (fun fs => e_OO (by decide)), no _ _ hr.2 (fun fs => e_IO)⟩
  have cl : ∀ {a ed n : Nat} {r : Nat → Nat}, lst θ ph a ed n r → lst θ (e_up ph g (gobj κ (s_mis σ P D F))) a ed n r := fun hl => hl.keep2 hk (fun b fs hb e => by subst e; rw [hg0.1] at hb; exact e_OO (by decide) (Option.some.inj hb)) (fun b N f hb e => by subst e; rw [hg0.1] at hb; exact e_OR (Option.some.inj hb))
  have hkx : kx ph (e_up ph g (gobj κ (s_mis σ P D F))) X := fun a c hxa hc => hk a c hc (fun e => by subst e; exact ha.2.1 hxa)
  exact ⟨⟨e_up_s, ⟨cl gT, fun i hi => cr (gTr i hi)⟩, ⟨cl gB, fun i hi => cr (gBr i hi)⟩, ⟨cl gU, fun i hi => ⟨(gUr i hi).1, no _ _ (gUr i hi).2 (fun fs => e_OO (by omega))⟩⟩, no _ _ gX (fun fs => e_OO (by decide)), ⟨⟨a1, b1, f1, no _ _ h4 (fun fs => e_OO (by decide)), no _ _ h5 (fun fs => e_IO)⟩, ⟨a2, f2, no _ _ h6 (fun fs => e_OO (by decide)), no _ _ h7 (fun fs => e_IO)⟩, a3, f3, no _ _ h8 (fun fs => e_OO (by decide)), no _ _ h9 (fun fs => e_IO)⟩, ⟨⟨f9, no _ _ gq0 (fun fs => e_OII.symm), gq1⟩, fun j hj => no _ _ (gq2 j hj) (fun fs => e_IO)⟩, gd, ⟨gok.1, gok.2.1, gok.2.2.1, hP, gok.2.2.2.2⟩, hkx.in gav.1, gav.2⟩, hkx⟩
theorem GI.prof {θ : e_T} {ph : e_PH} {g : Nat} {X : Nat → Prop} {σ : SG} {κ : Nat → Nat} {te be ue : Nat} {r wr b wb u : Nat → Nat} (hg : GI θ ph g X σ κ te be ue r wr b wb u) {c bk t : Nat} (hc : c < 5) (ht : t ≤ 12) : GI θ (e_up ph (κ (11 + c)) (e_I θ 11 (upd (gQ σ c) bk (nI t)))) g X (s_prf σ c bk (nI t)) κ te be ue r wr b wb u ∧ kx ph (e_up ph (κ (11 + c)) (e_I θ 11 (upd (gQ σ c) bk (nI t)))) X := by
  have hk : kept ph (e_up ph (κ (11 + c)) (e_I θ 11 (upd (gQ σ c) bk (nI t)))) (fun a => a = κ (11 + c)) := kept.refl.up2 (Or.inl rfl)
  have h0 := hg.2.2.2.2.2.2.1.2 c hc
  have ha := hg.2.2.2.2.2.2.2.2.2
  generalize hp : e_up ph (κ (11 + c)) (e_I θ 11 (upd (gQ σ c) bk (nI t))) = p at hk
  have no : ∀ a c, ph a = some c → (∀ fs, c ≠ e_I θ 11 fs) → p a = some c := fun a c hc hn => hk a c hc (fun e => by subst e; rw [h0] at hc; exact hn _ (Option.some.inj hc).symm)
  have cr : ∀ {q w : Nat} {v : Nat → Int32} {id : Int32}, rowAt θ ph q w v id → rowAt θ p q w v id := fun hr => ⟨no _ _ hr.1 (fun fs => e_IO.symm), no _ _ hr.2 (fun fs => e_II12 (by decide))⟩
  have cl : ∀ {a ed n : Nat} {r : Nat → Nat}, lst θ ph a ed n r → lst θ p a ed n r := fun hl => hl.keep2 hk (fun b fs hb e => by subst e; rw [h0] at hb; exact e_IO (Option.some.inj hb)) (fun b N f hb e => by subst e; rw [h0] at hb; exact e_IR (Option.some.inj hb))
  have hkx : kx ph p X := fun a c2 hxa hc2 => hk a c2 hc2 (fun e => by subst e; exact ha.2.2.1 (11 + c) (by omega) hxa)
  obtain ⟨gO, ⟨gT, gTr⟩, ⟨gB, gBr⟩, ⟨gU, gUr⟩, gX, ⟨⟨a1, b1, f1, h4, h5⟩, ⟨a2, f2, h6, h7⟩, a3, f3, h8, h9⟩, ⟨⟨f9, gq0, gq1⟩, gq2⟩, gd, gok, gav⟩ := hg
  refine ⟨⟨no _ _ gO (fun fs => e_IO.symm), ⟨cl gT, fun i hi => cr (gTr i hi)⟩, ⟨cl gB, fun i hi => cr (gBr i hi)⟩, ⟨cl gU, fun i hi => ⟨(gUr i hi).1, no _ _ (gUr i hi).2 (fun fs => e_IO.symm)⟩⟩, no _ _ gX (fun fs => e_IO.symm), ⟨⟨a1, b1, f1, no _ _ h4 (fun fs => e_IO.symm), no _ _ h5 (fun fs => e_II12 (by decide))⟩, ⟨a2, f2, no _ _ h6 (fun fs => e_IO.symm), no _ _ h7 (fun fs => e_II12 (by decide))⟩, a3, f3, no _ _ h8 (fun fs => e_IO.symm), no _ _ h9 (fun fs => e_II12 (by decide))⟩, ⟨⟨f9, no _ _ gq0 (fun fs => e_III), gq1⟩, fun j hj => ?_⟩, gd, ⟨gok.1, gok.2.1, gok.2.2.1, gok.2.2.2.1, gok.2.2.2.2.1, gok.2.2.2.2.2.1, fun j hj b2 hb2 => ?_, gok.2.2.2.2.2.2.2⟩, hkx.in gav.1, gav.2⟩, hkx⟩
  · show p (κ (11 + j)) = some (e_I θ 11 (if j = c then upd (gQ σ c) bk (nI t) else gQ σ j))
    by_cases e : j = c
    · subst e; rw [if_pos rfl, ← hp]; exact e_up_s
    · rw [if_neg e]; exact hk _ _ (gq2 j hj) (fun e2 => e (gd.2.2.2.2.1 j hj c hc e2))
  · show ∃ t', t' ≤ 12 ∧ (if j = c then upd (gQ σ c) bk (nI t) else gQ σ j) b2 = nI t'
    by_cases e : j = c
    · rw [if_pos e]
      by_cases e2 : b2 = bk
      · subst e2; rw [upd_s]; exact ⟨t, ht, rfl⟩
      · rw [upd_n e2]; exact gok.2.2.2.2.2.2.1 c hc b2 hb2
    · rw [if_neg e]; exact gok.2.2.2.2.2.2.1 j hj b2 hb2
def svQ (σ : SG) (c b : Nat) : Nat → Nat → Int32 := fun c' b' => if (c' < c ∨ (c' = c ∧ b' < b)) ∧ b' < 11 then nI (bktN σ c' b') else gQ σ c' b'
theorem svQ_step {σ : SG} {c b : Nat} (hb : b < 11) : svQ σ c (b + 1) = fun j => if j = c then upd (svQ σ c b c) b (nI (bktN σ c b)) else svQ σ c b j := by
  funext c' b'
  by_cases e : c' = c
  · subst e
    rw [if_pos rfl]
    by_cases e2 : b' = b
    · subst e2
      rw [upd_s]
      exact if_pos ⟨Or.inr ⟨rfl, Nat.lt_succ_self _⟩, hb⟩
    · rw [upd_n e2]
      unfold svQ
      by_cases h : (c' < c' ∨ (c' = c' ∧ b' < b)) ∧ b' < 11
      · rw [if_pos h, if_pos (by omega)]
      · rw [if_neg h, if_neg (by omega)]
  · rw [if_neg e]
    unfold svQ
    by_cases h : (c' < c ∨ (c' = c ∧ b' < b)) ∧ b' < 11
    · rw [if_pos h, if_pos (by omega)]
    · rw [if_neg h, if_neg (by omega)]
theorem svQ_next {σ : SG} {c : Nat} : svQ σ c 11 = svQ σ (c + 1) 0 := by
  funext c' b'
  unfold svQ
  by_cases h : (c' < c ∨ (c' = c ∧ b' < 11)) ∧ b' < 11
  · rw [if_pos h, if_pos (by omega)]
  · rw [if_neg h, if_neg (by omega)]
theorem svQ_0 {σ : SG} : svQ σ 0 0 = gQ σ := by
  funext c' b'
  exact if_neg (by omega)
def s_q (σ : SG) (Q : Nat → Nat → Int32) : SG := mkS (gN σ) (gV σ) (gI σ) (gM σ) (gW σ) (gK σ) (gR σ) (gJ σ) (gP σ) (gD σ) (gF σ) Q
def s_save (σ : SG) : SG := mkS (gN σ) (gV σ) (gI σ) (gM σ) (gW σ) (gK σ) (gR σ) (gJ σ) (gN σ) (gD σ) (gF σ) (svQ σ 5 0)
def k_save (σ : SG) : Nat := if gN σ = 0 then 1 else 0
def rpD (m : Nat) : Nat → SG → SG
  | 0, σ => σ
  | i + 1, σ => rpD m i (if m.testBit i = true then s_rem σ i else σ)
section GMR
variable {l : Launch} {θ : e_T} {ph : e_PH} {g : Nat} {X : Nat → Prop} {σ : SG}
theorem m_saveProfile (htr : l.stackTraces = false) (hg : GP θ ph g X σ) : MC yX11_saveProfile cX11_saveProfile 3 (some .int) 4 1 6 l θ [.ref g] ph (oP θ ph g X (k_save σ) (some (.int (nI (gN σ)))) (s_save σ)) (oX θ ph g X (k_save σ) [xS] σ) := by
  obtain ⟨κ, te, be, ue, r, wr, b, wb, u, hg⟩ := hg
  have hn := hg.2.2.2.2.2.2.2.2.1.1
  refine MC.of htr (by decide) (Nat.le_of_ble_eq_true rfl) ?_
  intro x hX hQ hT
  refine e_aload_n hX 0 iX11_saveProfile_0 rfl rfl ?_
  refine e_get hX iX11_saveProfile_1 hg.1 rfl ?_
  refine e_callV hX iX11_saveProfile_4 hg.2.1.1.hp (c_isEmpty htr hg.2.1.1) rfl rfl ⟨by decide, by decide, by decide, by decide⟩ (Nat.le_of_ble_eq_true rfl) (fun _ _ h => h.elim) (fun v9 ph9 hv9 => ?_)
  obtain ⟨rfl, e9⟩ := hv9
  subst ph9
  refine e_if_eq hX iX11_saveProfile_7 (fun c7 => ?_) (fun c7 => ?_)
  · have h0 : ¬ gN σ = 0 := of_decide_eq_false (b2i_0.mp c7)
    have outer : ∀ (q c : Nat) (p : e_PH), 5 - c < q → c ≤ 5 → GI θ p g X (s_q σ (svQ σ c 0)) κ te be ue r wr b wb u → kx ph p X → EJ θ x 23 [(0, .ref g), (1, .int (nI c))] [] p 0 0 := by
      intro q
      induction q with
      | zero => intro c p hq; omega
      | succ q ih =>
        intro c p hq hc hgp hxp
        refine e_iload_n hX 1 iX11_saveProfile_23 rfl rfl ?_
        refine e_iconst (v := 5) hX iX11_saveProfile_24 (by decide) ?_
        refine e_icmp_ge hX iX11_saveProfile_25 (fun c25 => ?_) (fun c25 => ?_)
        · have hin := nI_same hc (by decide) c25
          subst hin
          refine e_aload_n hX 0 iX11_saveProfile_62 rfl rfl ?_
          refine e_aload_n hX 0 iX11_saveProfile_63 rfl rfl ?_
          refine e_get hX iX11_saveProfile_64 hgp.1 rfl ?_
          refine e_callV hX iX11_saveProfile_67 (lst.hp hgp.2.1.1) (c_size htr hgp.2.1.1) rfl rfl ⟨by decide, by decide, by decide, by decide⟩ (Nat.le_of_ble_eq_true rfl) (fun _ _ h => h.elim) (fun v9 ph9 hv9 => ?_)
          obtain ⟨rfl, e9⟩ := hv9
          subst ph9
          refine e_put hX iX11_saveProfile_70 hgp.1 rfl (Nat.le_of_ble_eq_true rfl) rfl rfl ?_
          obtain ⟨hg3, hx3⟩ := hgp.gset (P := gN σ) (D := gD σ) (F := gF σ) hn
          have hg3' : GI θ (e_up p g (gobj κ (s_save σ))) g X (s_save σ) κ te be ue r wr b wb u := hg3
          have hx3' : kx p (e_up p g (gobj κ (s_save σ))) X := hx3
          refine e_aload_n hX 0 iX11_saveProfile_73 rfl rfl ?_
          refine e_get hX iX11_saveProfile_74 (ph := e_up p g (gobj κ (s_save σ))) hg3'.1 rfl ?_
          exact e_iret hX hQ iX11_saveProfile_77 rfl (by decide) (by decide) (hg3'.oP (hxp.trans hx3') (if_neg h0) rfl)
        · have hin := nI_less hc (by decide) c25
          have inner : ∀ (q' bk : Nat) (p' : e_PH), 11 - bk < q' → bk ≤ 11 → GI θ p' g X (s_q σ (svQ σ c bk)) κ te be ue r wr b wb u → kx ph p' X → EJ θ x 30 [(0, .ref g), (1, .int (nI c)), (2, .int (nI bk))] [] p' 0 0 := by
            intro q'
            induction q' with
            | zero => intro bk p' hq'; omega
            | succ q' ih' =>
              intro bk p' hq' hb hg' hx'
              refine e_iload_n hX 2 iX11_saveProfile_30 rfl rfl ?_
              refine e_bipush (v := 11) hX iX11_saveProfile_31 (by decide) ?_
              refine e_icmp_ge hX iX11_saveProfile_33 (fun c33 => ?_) (fun c33 => ?_)
              · have hbn := nI_same hb (by decide) c33
                subst hbn
                refine e_iinc hX iX11_saveProfile_56 rfl (by first | exact nI_inc _ | rfl) (by decide) ?_
                refine e_goto hX iX11_saveProfile_59 ?_
                refine e_loc [0, 1] ?_
                exact ih (c + 1) p' (by omega) (by omega) (by rw [← svQ_next]; exact hg') hx'
              · have hbn := nI_less hb (by decide) c33
                obtain ⟨⟨f9, gq0, gq1⟩, gq2⟩ := hg'.2.2.2.2.2.2.1
                refine e_aload_n hX 0 iX11_saveProfile_36 rfl rfl ?_
                refine e_get hX iX11_saveProfile_37 hg'.1 rfl ?_
                refine e_iload_n hX 1 iX11_saveProfile_40 rfl rfl ?_
                refine e_aald2 hX c iX11_saveProfile_41 gq0 rfl hin (by decide) (gq1 c hin) ?_
                refine e_iload_n hX 2 iX11_saveProfile_42 rfl rfl ?_
                refine e_aload_n hX 0 iX11_saveProfile_43 rfl rfl ?_
                refine e_iload_n hX 1 iX11_saveProfile_44 rfl rfl ?_
                refine e_iload_n hX 2 iX11_saveProfile_45 rfl rfl ?_
                refine e_callV hX iX11_saveProfile_46 hg'.1 (c_inBucket htr hg' hin bk) rfl rfl ⟨by decide, by decide, by decide, by decide⟩ (Nat.le_of_ble_eq_true rfl) (fun _ _ h => h.elim) (fun v9 ph9 hv9 => ?_)
                obtain ⟨rfl, e9⟩ := hv9
                subst ph9
                refine e_iast hX bk iX11_saveProfile_49 (gq2 c hin) rfl hbn (by decide) ?_
                obtain ⟨hg4, hx4⟩ := hg'.prof (c := c) (bk := bk) (t := bktN σ c bk) hin (Nat.le_trans (cntB_le _ _) hn)
                refine e_iinc hX iX11_saveProfile_50 rfl (by first | exact nI_inc _ | rfl) (by decide) ?_
                refine e_goto hX iX11_saveProfile_53 ?_
                refine e_loc [0, 1, 2] ?_
                refine ih' (bk + 1) _ (by omega) (by omega) ?_ (hx'.trans hx4)
                rw [svQ_step hbn]
                exact hg4
          refine e_iconst (v := 0) hX iX11_saveProfile_28 (by decide) ?_
          refine e_istore_n hX 2 iX11_saveProfile_29 rfl (by decide) ?_
          refine e_loc [0, 1, 2] ?_
          exact inner 12 0 p (by omega) (by omega) hgp hxp
    refine e_iconst (v := 0) hX iX11_saveProfile_21 (by decide) ?_
    refine e_istore_n hX 1 iX11_saveProfile_22 rfl (by decide) ?_
    refine e_loc [0, 1] ?_
    exact outer 6 0 ph (by omega) (by omega) (by rw [svQ_0]; exact hg) kx.refl
  · have h0 : gN σ = 0 := of_decide_eq_true (b2i_n0.mp c7)
    exact e_throwW hX hQ hT iX11_saveProfile_10 ⟨by decide, Nat.le_of_ble_eq_true rfl, by decide, by decide⟩ (by decide) (by decide) (hg.oX 0 (if_pos h0) rfl)
theorem m_repair (htr : l.stackTraces = false) (hg : GP θ ph g X σ) : MC yX11_repair cX11_repair 3 (some .int) 16 0 0 l θ [.ref g] ph (oP θ ph g X 0 (some (.int (nI (a_few σ)))) (rpD (bstN σ) (gN σ) σ)) (fun _ _ => False) := by
  obtain ⟨κ, te, be, ue, r, wr, b, wb, u, hg⟩ := hg
  have hn := hg.2.2.2.2.2.2.2.2.1.1
  refine MC.of htr (by decide) (Nat.le_of_ble_eq_true rfl) ?_
  intro x hX hQ hT
  refine e_aload_n hX 0 iX11_repair_0 rfl rfl ?_
  refine e_callV hX iX11_repair_1 hg.1 (c_bestRepair htr hg) rfl rfl ⟨by decide, by decide, by decide, by decide⟩ (Nat.le_of_ble_eq_true rfl) (fun _ _ h => h.elim) (fun v9 ph9 hv9 => ?_)
  obtain ⟨rfl, hg2, hx⟩ := hv9
  have loop : ∀ (i : Nat) (σ' : SG) (p : e_PH) (y : Int32) (r wr : Nat → Nat), i ≤ 12 → y = nI i - 1 → i ≤ gN σ' → rpD (bstN σ) i σ' = rpD (bstN σ) (gN σ) σ → GI θ p g X σ' κ te be ue r wr b wb u → kx ph p X → EJ θ x 15 [(0, .ref g), (1, .int (nI (bstN σ))), (2, .int y)] [] p 0 0 := by
    intro i
    induction i with
    | zero =>
      intro σ' p y r wr hi hy hle heq hgp hxp
      subst hy
      refine e_iload_n hX 2 iX11_repair_15 rfl rfl ?_
      refine e_if_lt hX iX11_repair_16 (fun c16 => ?_) (fun c16 => ?_)
      · refine e_iload_n hX 1 iX11_repair_42 rfl rfl ?_
        refine e_callS hX iX11_repair_43 (c_bitCount htr (bstN_lt hn)) rfl rfl ⟨by decide, by decide, by decide, by decide⟩ (Nat.le_of_ble_eq_true rfl) (fun _ _ h => h.elim) (fun v9 ph9 hv9 => ?_)
        obtain ⟨rfl, e9⟩ := hv9
        subst ph9
        exact e_iret hX hQ iX11_repair_46 rfl (by decide) (by decide) (by rw [← heq]; exact hgp.oP hxp rfl rfl)
      · exact absurd (by decide) c16
    | succ i ih =>
      intro σ' p y r wr hi hy hle heq hgp hxp
      rw [nI_pred] at hy
      subst hy
      refine e_noE hX (fun hE => ?_)
      refine e_iload_n hX 2 iX11_repair_15 rfl rfl ?_
      refine e_if_lt hX iX11_repair_16 (fun c16 => ?_) (fun c16 => ?_)
      · exact absurd c16 (nI_pos (by omega))
      · refine e_iload_n hX 2 iX11_repair_19 rfl rfl ?_
        refine e_iload_n hX 1 iX11_repair_20 rfl rfl ?_
        refine e_callS hX iX11_repair_21 (c_isIn htr i (nI (bstN σ))) rfl rfl ⟨by decide, by decide, by decide, by decide⟩ (Nat.le_of_ble_eq_true rfl) (fun _ _ h => h.elim) (fun v9 ph9 hv9 => ?_)
        obtain ⟨rfl, e9⟩ := hv9
        subst ph9
        rw [sb_n _ (show i < 32 by omega)]
        have dec : nI i + Int32.ofInt (-1) = nI i - 1 := by rw [Int32.sub_eq_add_neg]; rfl
        refine e_if_eq hX iX11_repair_24 (fun c24 => ?_) (fun c24 => ?_)
        · refine e_iinc hX iX11_repair_36 rfl dec (by decide) ?_
          refine e_goto hX iX11_repair_39 ?_
          refine e_loc [0, 1, 2] ?_
          refine ih σ' p _ r wr (by omega) rfl (by omega) ?_ hgp hxp
          rw [← heq]
          show _ = rpD (bstN σ) i (if (bstN σ).testBit i = true then s_rem σ' i else σ')
          rw [if_neg (by rw [b2i_0.mp c24]; decide)]
        · refine e_aload_n hX 0 iX11_repair_27 rfl rfl ?_
          refine e_get hX iX11_repair_28 hgp.1 rfl ?_
          refine e_iload_n hX 2 iX11_repair_31 rfl rfl ?_
          refine e_callV hX iX11_repair_32 hgp.2.1.1.hp (c_remove htr hgp.2.1.1 (show i < gN σ' by omega) hgp.tobs) rfl rfl ⟨by decide, by decide, by decide, by decide⟩ (Nat.le_of_ble_eq_true rfl) (fun _ _ h => h.elim) (fun v8 ph8 hv8 => ?_)
          obtain ⟨rfl, e1, e2⟩ := hv8
          obtain ⟨hg3, hx3⟩ := hgp.remove hE (show i < gN σ' by omega) e1 e2
          refine e_pop hX iX11_repair_35 rfl ?_
          refine e_iinc hX iX11_repair_36 rfl dec (by decide) ?_
          refine e_goto hX iX11_repair_39 ?_
          refine e_loc [0, 1, 2] ?_
          refine ih (s_rem σ' i) _ _ _ _ (by omega) rfl (by show i ≤ gN σ' - 1; omega) ?_ hg3 (hxp.trans hx3)
          rw [← heq]
          show _ = rpD (bstN σ) i (if (bstN σ).testBit i = true then s_rem σ' i else σ')
          rw [if_pos (b2i_n0.mp c24)]
  refine e_istore_n hX 1 iX11_repair_4 rfl (by decide) ?_
  refine e_aload_n hX 0 iX11_repair_5 rfl rfl ?_
  refine e_get hX iX11_repair_6 hg2.1 rfl ?_
  refine e_callV hX iX11_repair_9 (lst.hp hg2.2.1.1) (c_size htr hg2.2.1.1) rfl rfl ⟨by decide, by decide, by decide, by decide⟩ (Nat.le_of_ble_eq_true rfl) (fun _ _ h => h.elim) (fun v9 ph9 hv9 => ?_)
  obtain ⟨rfl, e9⟩ := hv9
  subst ph9
  refine e_iconst (v := 1) hX iX11_repair_12 (by decide) ?_
  refine e_isub hX iX11_repair_13 ?_
  refine e_istore_n hX 2 iX11_repair_14 rfl (by decide) ?_
  refine e_loc [0, 1, 2] ?_
  exact loop (gN σ) σ _ _ r wr hn rfl (Nat.le_refl _) rfl hg2 hx
end GMR
