def cat {α : Type} (n : Nat) (f g : Nat → α) : Nat → α := fun j => if j < n then f j else g (j - n)
theorem cat_l {α : Type} {n j : Nat} {f g : Nat → α} (h : j < n) : cat n f g j = f j := if_pos h
theorem cat_r {α : Type} {n j : Nat} {f g : Nat → α} (h : ¬ j < n) : cat n f g j = g (j - n) := if_neg h
def s_mv (σ : SG) (i : Nat) : SG := mkS (gN σ + i) (cat (gN σ) (gV σ) (gW σ)) (cat (gN σ) (gI σ) (fun j => gD σ + nI j)) (gM σ - i) (fun j => gW σ (j + i)) (gK σ) (gR σ) (gJ σ) (gP σ) (gD σ + nI i) (gF σ) (gQ σ)
def s_com (σ : SG) : SG := mkS (gN σ + gM σ) (cat (gN σ) (gV σ) (gW σ)) (cat (gN σ) (gI σ) (fun j => gD σ + nI j)) 0 (gW σ) (gK σ) (gR σ) (gJ σ) (gP σ) (gD σ + nI (gM σ)) (gF σ) (gQ σ)
def CM (θ : e_T) (p : e_PH) (g : Nat) (σ : SG) (κ : Nat → Nat) (be ue : Nat) (r wr b wb u : Nat → Nat) (i te : Nat) : Prop :=
  p g = some (gobj κ (s_mv σ i)) ∧ (∀ j, j < gN σ + i → rowAt θ p (cat (gN σ) r b j) (cat (gN σ) wr wb j) (cat (gN σ) (gV σ) (gW σ) j) (cat (gN σ) (gI σ) (fun j => gD σ + nI j) j)) ∧ (∀ j, i ≤ j → j < gM σ → rowAt θ p (b j) (wb j) (gW σ j) (-1)) ∧ rls p (gK σ) u (gR σ) ∧
  p (κ 3) = some (e_O 6 [.int (gJ σ).1, .int (gJ σ).2.1, .int (gJ σ).2.2.1, .int (b2i (gJ σ).2.2.2)]) ∧ jnk θ p κ ∧ ((∃ f, p (κ 10) = some (e_II θ 5 f) ∧ ∀ j, j < 5 → f j = some (κ (11 + j))) ∧ ∀ j, j < 5 → p (κ (11 + j)) = some (e_I θ 11 (gQ σ j))) ∧
  lst θ p (κ 0) te (gN σ + i) (cat (gN σ) r b) ∧ lst θ p (κ 1) be (gM σ) b ∧ lst θ p (κ 2) ue (gK σ) u
section GCM
variable {θ : e_T} {p : e_PH} {g : Nat} {X : Nat → Prop} {σ : SG} {κ : Nat → Nat} {te be ue : Nat} {r wr b wb u : Nat → Nat}
theorem rowAt.w {p : e_PH} {q w w' : Nat} {v v' : Nat → Int32} {id id' : Int32} (h : rowAt θ p q w v id) (h2 : rowAt θ p q w' v' id') : w = w' := by
  have := h.1.symm.trans h2.1
  unfold e_O at this
  cases this
  rfl
theorem CM.start (hg : GI θ p g X σ κ te be ue r wr b wb u) : CM θ p g σ κ be ue r wr b wb u 0 te := by
  obtain ⟨gO, ⟨gT, gTr⟩, ⟨gB, gBr⟩, ⟨gU, gUr⟩, gX, gj, gq, -⟩ := hg
  refine ⟨?_, fun j hj => ?_, fun j _ hj => gBr j hj, gUr, gX, gj, gq, gT.congr (fun i hi => cat_l hi), gB, gU⟩
  · show p g = some (e_O 0 [.ref (κ 0), .ref (κ 1), .ref (κ 2), .ref (κ 3), .ref (κ 4), .ref (κ 6), .ref (κ 8), .ref (κ 10), .int (nI (gP σ)), .int (gD σ + nI 0), .int (gF σ)])
    rw [show gD σ + nI 0 = gD σ from Int32.add_zero _]
    exact gO
  · have hj' : j < gN σ := hj
    rw [cat_l hj', cat_l hj', cat_l hj', cat_l hj']
    exact gTr j hj'
/-- a row gets its id, and the next id goes on -/
theorem CM.ids (hd : dsts θ σ κ te be ue wr wb u) {i te' : Nat} (hc : CM θ p g σ κ be ue r wr b wb u i te') (hi : i < gM σ) {p2 : e_PH} (hp : p2 = e_up (e_up p (b i) (e_O 2 [.ref (wb i), .int (gD σ + nI i)])) g (gobj κ (s_mv σ (i + 1)))) : p2 g = some (gobj κ (s_mv σ (i + 1))) ∧ (∀ j, j < gN σ + (i + 1) → rowAt θ p2 (cat (gN σ) r b j) (cat (gN σ) wr wb j) (cat (gN σ) (gV σ) (gW σ) j) (cat (gN σ) (gI σ) (fun j => gD σ + nI j) j)) ∧ (∀ j, i + 1 ≤ j → j < gM σ → rowAt θ p2 (b j) (wb j) (gW σ j) (-1)) ∧ rls p2 (gK σ) u (gR σ) ∧
  p2 (κ 3) = some (e_O 6 [.int (gJ σ).1, .int (gJ σ).2.1, .int (gJ σ).2.2.1, .int (b2i (gJ σ).2.2.2)]) ∧ jnk θ p2 κ ∧ ((∃ f, p2 (κ 10) = some (e_II θ 5 f) ∧ ∀ j, j < 5 → f j = some (κ (11 + j))) ∧ ∀ j, j < 5 → p2 (κ (11 + j)) = some (e_I θ 11 (gQ σ j))) ∧
  lst θ p2 (κ 0) te' (gN σ + i) (cat (gN σ) r b) ∧ lst θ p2 (κ 1) be (gM σ) b ∧ lst θ p2 (κ 2) ue (gK σ) u := by
  obtain ⟨h1, h2, h3, h4, h5, ⟨⟨a1, b1, f1, j4, j5⟩, ⟨a2, f2, j6, j7⟩, a3, f3, j8, j9⟩, ⟨⟨f9, q0, q1⟩, q2⟩, l1, l2, l3⟩ := hc
  have hbi := h3 i (Nat.le_refl _) hi
  have hgb : g ≠ b i := e_ne2 h1 hbi.1 (e_OO (by decide))
  have hk : kept p p2 (fun a => a = b i ∨ a = g) := by rw [hp]; exact (kept.refl.up2 (Or.inl (Or.inl rfl))).up2 (Or.inl (Or.inr rfl))
  have hb2 : p2 (b i) = some (e_O 2 [.ref (wb i), .int (gD σ + nI i)]) := by rw [hp, e_up_n (fun e => hgb e.symm)]; exact e_up_s
  have no : ∀ a c, p a = some c → (∀ fs, c ≠ e_O 0 fs) → (∀ fs, c ≠ e_O 2 fs) → p2 a = some c := fun a c hc hn hn2 => hk a c hc (fun e => by
    rcases e with e | e
    · subst e; rw [hbi.1] at hc; exact hn2 _ (Option.some.inj hc).symm
    · subst e; rw [h1] at hc; exact hn _ (Option.some.inj hc).symm)
  have nr : ∀ {q w : Nat} {v : Nat → Int32} {id : Int32}, rowAt θ p q w v id → w ≠ wb i → rowAt θ p2 q w v id := fun hr hw => ⟨hk _ _ hr.1 (fun e => by
    rcases e with e | e
    · subst e; exact hw (hr.w hbi)
    · subst e; have := hr.1; rw [h1] at this; exact e_OO (by decide) (Option.some.inj this)), no _ _ hr.2 (fun fs => e_IO) (fun fs => e_IO)⟩
  have cl : ∀ {a ed n : Nat} {r : Nat → Nat}, lst θ p a ed n r → lst θ p2 a ed n r := fun hl => hl.keep2 hk (fun b' fs hb e => by
    rcases e with e | e
    · subst e; rw [hbi.1] at hb; exact e_OO (by decide) (Option.some.inj hb)
    · subst e; rw [h1] at hb; exact e_OO (by decide) (Option.some.inj hb)) (fun b' N f hb e => by
    rcases e with e | e
    · subst e; rw [hbi.1] at hb; exact e_OR (Option.some.inj hb)
    · subst e; rw [h1] at hb; exact e_OR (Option.some.inj hb))
  refine ⟨by rw [hp]; exact e_up_s, fun j hj => ?_, fun j hj hjm => nr (h3 j (by omega) hjm) (fun e => by have := hd.2.2.2.2.2.2.1 j hjm i hi e; omega), fun j hj => ⟨(h4 j hj).1, no _ _ (h4 j hj).2 (fun fs => e_OO (by omega)) (fun fs => e_OO (by omega))⟩, no _ _ h5 (fun fs => e_OO (by decide)) (fun fs => e_OO (by decide)), ⟨⟨a1, b1, f1, no _ _ j4 (fun fs => e_OO (by decide)) (fun fs => e_OO (by decide)), no _ _ j5 (fun fs => e_IO) (fun fs => e_IO)⟩, ⟨a2, f2, no _ _ j6 (fun fs => e_OO (by decide)) (fun fs => e_OO (by decide)), no _ _ j7 (fun fs => e_IO) (fun fs => e_IO)⟩, a3, f3, no _ _ j8 (fun fs => e_OO (by decide)) (fun fs => e_OO (by decide)), no _ _ j9 (fun fs => e_IO) (fun fs => e_IO)⟩, ⟨⟨f9, no _ _ q0 (fun fs => e_OII.symm) (fun fs => e_OII.symm), q1⟩, fun j hj => no _ _ (q2 j hj) (fun fs => e_IO) (fun fs => e_IO)⟩, cl l1, cl l2, cl l3⟩
  by_cases e : j = gN σ + i
  · subst e
    rw [cat_r (by omega), cat_r (by omega), cat_r (by omega), cat_r (by omega), show gN σ + i - gN σ = i by omega]
    exact ⟨hb2, no _ _ hbi.2 (fun fs => e_IO) (fun fs => e_IO)⟩
  · refine nr (h2 j (by omega)) (fun e2 => ?_)
    by_cases c : j < gN σ
    · rw [cat_l c] at e2; exact hd.2.2.2.2.2.2.2.1 j c i hi e2
    · rw [cat_r c] at e2
      have := hd.2.2.2.2.2.2.1 (j - gN σ) (by omega) i hi e2
      omega
/-- the row comes into the table -/
theorem CM.next {p2 p3 : e_PH} {i te' te2 : Nat} (hd : dsts θ σ κ te be ue wr wb u) (hE : p2 θ.2.2.2.2 = none) (hE3 : p3 θ.2.2.2.2 = none)
    (hc : p2 g = some (gobj κ (s_mv σ (i + 1))) ∧ (∀ j, j < gN σ + (i + 1) → rowAt θ p2 (cat (gN σ) r b j) (cat (gN σ) wr wb j) (cat (gN σ) (gV σ) (gW σ) j) (cat (gN σ) (gI σ) (fun j => gD σ + nI j) j)) ∧ (∀ j, i + 1 ≤ j → j < gM σ → rowAt θ p2 (b j) (wb j) (gW σ j) (-1)) ∧ rls p2 (gK σ) u (gR σ) ∧
  p2 (κ 3) = some (e_O 6 [.int (gJ σ).1, .int (gJ σ).2.1, .int (gJ σ).2.2.1, .int (b2i (gJ σ).2.2.2)]) ∧ jnk θ p2 κ ∧ ((∃ f, p2 (κ 10) = some (e_II θ 5 f) ∧ ∀ j, j < 5 → f j = some (κ (11 + j))) ∧ ∀ j, j < 5 → p2 (κ (11 + j)) = some (e_I θ 11 (gQ σ j))) ∧
  lst θ p2 (κ 0) te' (gN σ + i) (cat (gN σ) r b) ∧ lst θ p2 (κ 1) be (gM σ) b ∧ lst θ p2 (κ 2) ue (gK σ) u)
    (ht : (te' = be → te' = θ.2.2.2.2) ∧ (te' = ue → te' = θ.2.2.2.2) ∧ te' ≠ κ 10 ∧ ¬ X te') (hX : ∀ a, X a → p2 a ≠ none) (hX0 : ¬ X (κ 0))
    (e1 : lst θ p3 (κ 0) te2 (gN σ + i + 1) (va_up (cat (gN σ) r b) (gN σ + i) (b i))) (e2 : te2 = te' ∨ p2 te2 = none) (e3 : kept p2 p3 (lS θ p2 (κ 0) te')) :
    CM θ p3 g σ κ be ue r wr b wb u (i + 1) te2 ∧ ((te2 = be → te2 = θ.2.2.2.2) ∧ (te2 = ue → te2 = θ.2.2.2.2) ∧ te2 ≠ κ 10 ∧ ¬ X te2) ∧ kx p2 p3 X := by
  obtain ⟨h1, h2, h3, h4, h5, ⟨⟨a1, b1, f1, j4, j5⟩, ⟨a2, f2, j6, j7⟩, a3, f3, j8, j9⟩, ⟨⟨f9, q0, q1⟩, q2⟩, l1, l2, l3⟩ := hc
  have c1 : ∀ a c, p2 a = some c → ¬ lkind θ c → p3 a = some c := fun a c ha hn => e3 a c ha (fun hs => hn (lS.kind l1 ha hs))
  have cr : ∀ {q w : Nat} {v : Nat → Int32} {id : Int32}, rowAt θ p2 q w v id → rowAt θ p3 q w v id := fun hr => ⟨c1 _ _ hr.1 (lkind.no_O (by decide)), c1 _ _ hr.2 lkind.no_I⟩
  refine ⟨⟨c1 _ _ h1 (lkind.no_O (by decide)), fun j hj => cr (h2 j hj), fun j hj hjm => cr (h3 j hj hjm), fun j hj => ⟨(h4 j hj).1, c1 _ _ (h4 j hj).2 (lkind.no_O (by omega))⟩, c1 _ _ h5 (lkind.no_O (by decide)), ⟨⟨a1, b1, f1, c1 _ _ j4 (lkind.no_O (by decide)), c1 _ _ j5 lkind.no_I⟩, ⟨a2, f2, c1 _ _ j6 (lkind.no_O (by decide)), c1 _ _ j7 lkind.no_I⟩, a3, f3, c1 _ _ j8 (lkind.no_O (by decide)), c1 _ _ j9 lkind.no_I⟩, ⟨⟨f9, e3 _ _ q0 (lS.no10 l1 q0 ht.2.2.1), q1⟩, fun j hj => c1 _ _ (q2 j hj) lkind.no_I⟩, ?_, l1.other l2 hE e3 (fun h => hd.1.1 h.symm) ht.1, l1.other l3 hE e3 (fun h => hd.1.2.1 h.symm) ht.2.1⟩, ⟨lst.edn (n := 0) (r := b) e1 (Nat.succ_ne_zero _) hE3 l2 e2 ht.1, lst.edn (n := 0) (r := b) e1 (Nat.succ_ne_zero _) hE3 l3 e2 ht.2.1, ?_, ?_⟩, lS.kx e3 hX0 ht.2.2.2⟩
  · refine e1.congr (fun j hj => ?_)
    by_cases e : j = gN σ + i
    · subst e; rw [va_up_s, cat_r (by omega), show gN σ + i - gN σ = i by omega]
    · rw [va_up_n e]
  · rcases e2 with h | h
    · rw [h]; exact ht.2.2.1
    · exact fun e => by rw [e, q0] at h; cases h
  · rcases e2 with h | h
    · rw [h]; exact ht.2.2.2
    · exact fun hx => hX _ hx h
theorem CM.done (hd : dsts θ σ κ te be ue wr wb u) (ho : okS σ) (hle : gN σ + gM σ ≤ 12) {ph : e_PH} (ha : avd ph X g σ κ te be ue r wr b wb u) {te2 : Nat} (hc : CM θ p g σ κ be ue r wr b wb u (gM σ) te2) (hE : p θ.2.2.2.2 = none) (ht : (te2 = be → te2 = θ.2.2.2.2) ∧ (te2 = ue → te2 = θ.2.2.2.2) ∧ te2 ≠ κ 10 ∧ ¬ X te2) (hX : ∀ a, X a → p a ≠ none) {p2 : e_PH} (e1 : lst θ p2 (κ 1) be 0 b) (e2 : kept p p2 (lS θ p (κ 1) be)) : GI θ p2 g X (s_com σ) κ te2 be ue (cat (gN σ) r b) (cat (gN σ) wr wb) b wb u ∧ kx p p2 X := by
  obtain ⟨h1, h2, h3, h4, h5, h6, h7, l1, l2, l3⟩ := hc
  have hkx : kx p p2 X := lS.kx e2 (ha.2.2.1 1 (by omega)) ha.2.2.2.1.2.1
  have gr : GR θ p2 g (s_com σ) κ (cat (gN σ) r b) (cat (gN σ) wr wb) b wb u := GR.lkeep (σ := s_com σ) ⟨h1, h2, fun i hi => absurd hi (Nat.not_lt_zero i), h4, h5, h6, h7⟩ e2 (fun a c hc hs => lS.kind l2 hc hs) (lS.no10 l2 h7.1.choose_spec.1 hd.2.2.1.2.1)
  have inj : ∀ i, i < gN σ + gM σ → ∀ j, j < gN σ + gM σ → cat (gN σ) wr wb i = cat (gN σ) wr wb j → i = j := fun i hi j hj e => by
    by_cases ci : i < gN σ <;> by_cases cj : j < gN σ
    · rw [cat_l ci, cat_l cj] at e; exact hd.2.2.2.2.2.1 i ci j cj e
    · rw [cat_l ci, cat_r cj] at e; exact absurd e (hd.2.2.2.2.2.2.2.1 i ci _ (by omega))
    · rw [cat_r ci, cat_l cj] at e; exact absurd e.symm (hd.2.2.2.2.2.2.2.1 j cj _ (by omega))
    · rw [cat_r ci, cat_r cj] at e; have := hd.2.2.2.2.2.2.1 _ (by omega) _ (by omega) e; omega
  refine ⟨GI.mk (σ := s_com σ) gr (l2.other l1 hE e2 (fun h => hd.1.1 h) (fun h => by rw [h]; exact ht.1 h.symm)) e1 (l2.other l3 hE e2 (fun h => hd.1.2.2 h.symm) (fun h => hd.2.1.2.2 h))
    ⟨hd.1, ⟨ht.1, ht.2.1, hd.2.1.2.2⟩, ⟨ht.2.2.1, hd.2.2.1.2⟩, hd.2.2.2.1, hd.2.2.2.2.1, inj, fun i hi => absurd hi (Nat.not_lt_zero i), fun i _ j hj => absurd hj (Nat.not_lt_zero j), hd.2.2.2.2.2.2.2.2⟩
    ⟨hle, Nat.zero_le _, ho.2.2.1, ho.2.2.2.1, fun i hi c hc => ?_, fun i hi => absurd hi (Nat.not_lt_zero i), ho.2.2.2.2.2.2⟩
    ⟨hkx.in hX, ha.2.1, ha.2.2.1, ⟨ht.2.2.2, ha.2.2.2.1.2⟩, fun i hi => ?_, fun i hi => absurd hi (Nat.not_lt_zero i), ha.2.2.2.2.2.2⟩, hkx⟩
  · have hi' : i < gN σ + gM σ := hi
    show okV (cat (gN σ) (gV σ) (gW σ) i c)
    by_cases ci : i < gN σ
    · rw [cat_l ci]; exact ho.2.2.2.2.1 i ci c hc
    · rw [cat_r ci]; exact ho.2.2.2.2.2.1 _ (by omega) c hc
  · have hi' : i < gN σ + gM σ := hi
    by_cases ci : i < gN σ
    · rw [cat_l ci, cat_l ci]; exact ha.2.2.2.2.1 i ci
    · rw [cat_r ci, cat_r ci]; exact ha.2.2.2.2.2.1 _ (by omega)
end GCM
def k_com (σ : SG) : Nat := if gM σ = 0 then 1 else if 12 < gN σ + gM σ then 1 else if rjI σ < gM σ then 2 else 0
def s_commit (σ : SG) : SG := if gM σ = 0 then σ else if 12 < gN σ + gM σ then σ else if rjI σ < gM σ then s_rej σ else s_com σ
section GCN
variable {l : Launch} {θ : e_T} {ph : e_PH} {g : Nat} {X : Nat → Prop} {σ : SG}
theorem m_commit (htr : l.stackTraces = false) (hg : GP θ ph g X σ) : MC yX11_commit cX11_commit 3 (some .int) 6 10 120 l θ [.ref g] ph (oP θ ph g X (k_com σ) (some (.int (nI (gN σ + gM σ)))) (s_commit σ)) (oX θ ph g X (k_com σ) [xS, xU] (s_commit σ)) := by
  obtain ⟨κ, te, be, ue, r, wr, b, wb, u, hg⟩ := hg
  have hn := hg.2.2.2.2.2.2.2.2.1.1
  have hm := hg.2.2.2.2.2.2.2.2.1.2.1
  refine MC.of htr (by decide) (Nat.le_of_ble_eq_true rfl) ?_
  intro x hX hQ hT
  have hd := hg.2.2.2.2.2.2.2.1
  have ho := hg.2.2.2.2.2.2.2.2.1
  have ha := hg.2.2.2.2.2.2.2.2.2
  refine e_aload_n hX 0 iX11_commit_0 rfl rfl ?_
  refine e_get hX iX11_commit_1 hg.1 rfl ?_
  refine e_callV hX iX11_commit_4 hg.2.2.1.1.hp (c_isEmpty htr hg.2.2.1.1) rfl rfl ⟨by decide, by decide, by decide, by decide⟩ (Nat.le_of_ble_eq_true rfl) (fun _ _ h => h.elim) (fun v9 ph9 hv9 => ?_)
  obtain ⟨rfl, e9⟩ := hv9
  subst ph9
  refine e_if_eq hX iX11_commit_7 (fun c7 => ?_) (fun c7 => ?_)
  · have h0 : ¬ gM σ = 0 := of_decide_eq_false (b2i_0.mp c7)
    refine e_aload_n hX 0 iX11_commit_20 rfl rfl ?_
    refine e_get hX iX11_commit_21 hg.1 rfl ?_
    refine e_callV hX iX11_commit_24 (lst.hp hg.2.1.1) (c_size htr hg.2.1.1) rfl rfl ⟨by decide, by decide, by decide, by decide⟩ (Nat.le_of_ble_eq_true rfl) (fun _ _ h => h.elim) (fun v9 ph9 hv9 => ?_)
    obtain ⟨rfl, e9⟩ := hv9
    subst ph9
    refine e_aload_n hX 0 iX11_commit_27 rfl rfl ?_
    refine e_get hX iX11_commit_28 hg.1 rfl ?_
    refine e_callV hX iX11_commit_31 (lst.hp hg.2.2.1.1) (c_size htr hg.2.2.1.1) rfl rfl ⟨by decide, by decide, by decide, by decide⟩ (Nat.le_of_ble_eq_true rfl) (fun _ _ h => h.elim) (fun v9 ph9 hv9 => ?_)
    obtain ⟨rfl, e9⟩ := hv9
    subst ph9
    refine e_iadd hX iX11_commit_34 ?_
    rw [nI_add]
    refine e_bipush (v := 12) hX iX11_commit_35 (by decide) ?_
    refine e_icmp_le hX iX11_commit_37 (fun c37 => ?_) (fun c37 => ?_)
    · have h1 : ¬ 12 < gN σ + gM σ := fun h => absurd c37 (nI_ge h (by omega))
      refine e_aload_n hX 0 iX11_commit_50 rfl rfl ?_
      refine e_callV hX iX11_commit_51 hg.1 (c_batchRej htr hg) rfl rfl ⟨by decide, by decide, by decide, by decide⟩ (Nat.le_of_ble_eq_true rfl) (fun _ _ h => h.elim) (fun v8 ph8 hv8 => ?_)
      rcases hv8 with ⟨h2, rfl, e8⟩ | ⟨h2, rfl, e8⟩
      · subst ph8
        have hk0 : k_com σ = 0 := by unfold k_com; rw [if_neg h0, if_neg h1, if_neg h2]
        have hs0 : s_commit σ = s_com σ := by unfold s_commit; rw [if_neg h0, if_neg h1, if_neg h2]
        refine e_if_eq hX iX11_commit_54 (fun c54 => ?_) (fun c54 => ?_)
        · have loop : ∀ (z i : Nat) (p : e_PH) (te' : Nat), gM σ - i < z → i ≤ gM σ → CM θ p g σ κ be ue r wr b wb u i te' → ((te' = be → te' = θ.2.2.2.2) ∧ (te' = ue → te' = θ.2.2.2.2) ∧ te' ≠ κ 10 ∧ ¬ X te') → kx ph p X → EJ θ x 69 [(0, .ref g), (1, .int (nI i))] [] p i (15 * i) := by
            intro z
            induction z with
            | zero => intro i p te' hz; omega
            | succ z ih =>
              intro i p te' hz hi hc ht hx
              have hl1 := hc.2.2.2.2.2.2.2.1
              have hl2 := hc.2.2.2.2.2.2.2.2.1
              refine e_noE hX (fun hE => ?_)
              refine e_iload_n hX 1 iX11_commit_69 rfl rfl ?_
              refine e_aload_n hX 0 iX11_commit_70 rfl rfl ?_
              refine e_get hX iX11_commit_71 hc.1 rfl ?_
              refine e_callV hX iX11_commit_74 (lst.hp hl2) (c_size htr hl2) rfl rfl ⟨by decide, by decide, by show _ ≤ 10; omega, by show _ ≤ 120; omega⟩ (Nat.le_of_ble_eq_true rfl) (fun _ _ h => h.elim) (fun v9 ph9 hv9 => ?_)
              obtain ⟨rfl, e9⟩ := hv9
              subst ph9
              refine e_icmp_ge hX iX11_commit_77 (fun c77 => ?_) (fun c77 => ?_)
              · have hin := nI_same hi (by omega) c77
                refine e_aload_n hX 0 iX11_commit_125 rfl rfl ?_
                refine e_get hX iX11_commit_126 hc.1 rfl ?_
                refine e_callV hX iX11_commit_129 hl2.hp (c_clear htr hl2) rfl rfl ⟨by decide, by decide, by show _ ≤ 10; omega, by show _ ≤ 120; omega⟩ (Nat.le_of_ble_eq_true rfl) (fun _ _ h => h.elim) (fun v7 ph7 hv7 => ?_)
                obtain ⟨rfl, e1, e2⟩ := hv7
                rw [hin] at hc
                obtain ⟨hg3, hx3⟩ := hc.done hd ho (by omega) ha hE ht (hx.in ha.1) e1 e2
                refine e_aload_n hX 0 iX11_commit_132 rfl rfl ?_
                refine e_get hX iX11_commit_133 hg3.1 rfl ?_
                refine e_callV hX iX11_commit_136 (lst.hp hg3.2.1.1) (c_size htr hg3.2.1.1) rfl rfl ⟨by decide, by decide, by show _ ≤ 10; omega, by show _ ≤ 120; omega⟩ (Nat.le_of_ble_eq_true rfl) (fun _ _ h => h.elim) (fun v9 ph9 hv9 => ?_)
                obtain ⟨rfl, e9⟩ := hv9
                subst ph9
                exact e_iret hX hQ iX11_commit_139 rfl (by omega) (by omega) (by rw [hk0, hs0]; exact hg3.oP (hx.trans hx3) rfl rfl)
              · have hin := nI_less hi (by omega) c77
                have hbi := hc.2.2.1 i (Nat.le_refl _) hin
                have hgb : g ≠ b i := e_ne2 hc.1 hbi.1 (e_OO (by decide))
                refine e_aload_n hX 0 iX11_commit_80 rfl rfl ?_
                refine e_get hX iX11_commit_81 hc.1 rfl ?_
                refine e_iload_n hX 1 iX11_commit_84 rfl rfl ?_
                refine e_callV hX iX11_commit_85 (lst.hp hl2) (c_lget (i := i) htr hl2 hin) rfl rfl ⟨by decide, by decide, by show _ ≤ 10; omega, by show _ ≤ 120; omega⟩ (Nat.le_of_ble_eq_true rfl) (fun _ _ h => h.elim) (fun v9 ph9 hv9 => ?_)
                obtain ⟨rfl, e9⟩ := hv9
                subst ph9
                refine e_castS hX iX11_commit_88 klRX11_79 (rowAt.hp hbi) rfl ?_
                refine e_astore_n hX 2 iX11_commit_91 rfl (by decide) ?_
                refine e_aload_n hX 2 iX11_commit_92 rfl rfl ?_
                refine e_aload_n hX 0 iX11_commit_93 rfl rfl ?_
                refine e_get hX iX11_commit_94 hc.1 rfl ?_
                refine e_put hX iX11_commit_97 hbi.1 rfl (Nat.le_of_ble_eq_true rfl) rfl rfl ?_
                refine e_aload_n hX 0 iX11_commit_100 rfl rfl ?_
                refine e_dup hX iX11_commit_101 rfl ?_
                refine e_get hX iX11_commit_102 (e_up_o hc.1 hgb) rfl ?_
                refine e_iconst (v := 1) hX iX11_commit_105 (by decide) ?_
                refine e_iadd hX iX11_commit_106 ?_
                refine e_put hX iX11_commit_107 (e_up_o hc.1 hgb) rfl (Nat.le_of_ble_eq_true rfl) rfl rfl ?_
                have hD : gD σ + nI i + 1 = gD σ + nI (i + 1) := by rw [Int32.add_assoc]; exact congrArg _ (nI_1 i)
                generalize hp2 : e_up (e_up p (b i) _) g _ = p2
                have hp2' : p2 = e_up (e_up p (b i) (e_O 2 [.ref (wb i), .int (gD σ + nI i)])) g (gobj κ (s_mv σ (i + 1))) := by
                  rw [← hp2]
                  show _ = e_up _ g (e_O 0 [.ref (κ 0), .ref (κ 1), .ref (κ 2), .ref (κ 3), .ref (κ 4), .ref (κ 6), .ref (κ 8), .ref (κ 10), .int (nI (gP σ)), .int (gD σ + nI (i + 1)), .int (gF σ)])
                  rw [← hD]
                  rfl
                have hids := hc.ids hd hin hp2'
                have hx2 : kx p p2 X := fun a c hxa hca => by
                  rw [hp2', e_up_n (fun e => by subst e; exact ha.2.1 hxa), e_up_n (fun e => by subst e; exact (ha.2.2.2.2.2.1 i hin).1 hxa)]
                  exact hca
                refine e_noE hX (fun hE2 => ?_)
                have hl1' := hids.2.2.2.2.2.2.2.1
                have hnew := hids.2.1 (gN σ + i) (by omega)
                rw [cat_r (show ¬ gN σ + i < gN σ by omega), show gN σ + i - gN σ = i by omega] at hnew
                refine e_aload_n hX 0 iX11_commit_110 rfl rfl ?_
                refine e_get hX iX11_commit_111 hids.1 rfl ?_
                refine e_aload_n hX 2 iX11_commit_114 rfl rfl ?_
                refine e_callV hX iX11_commit_115 hl1'.hp (c_add htr hl1' (by omega) (fun j hj => (hids.2.1 j (by omega)).obs) hnew.obs) rfl rfl ⟨by decide, by decide, by show _ ≤ 10; omega, by show _ ≤ 120; omega⟩ (Nat.le_of_ble_eq_true rfl) (fun _ _ h => h.elim) (fun v6 ph6 hv6 => ?_)
                obtain ⟨rfl, te2, e1, e2, e3⟩ := hv6
                refine e_noE hX (fun hE3 => ?_)
                obtain ⟨hc3, ht3, hx3⟩ := CM.next hd hE2 hE3 hids ht ((hx.trans hx2).in ha.1) (ha.2.2.1 0 (by omega)) e1 e2 e3
                refine e_pop hX iX11_commit_118 rfl ?_
                refine e_iinc hX iX11_commit_119 rfl (by first | exact nI_inc _ | rfl) (by decide) ?_
                refine e_goto hX iX11_commit_122 ?_
                refine e_loc [0, 1] ?_
                refine e_wid (k' := i + 1) (n' := 15 * (i + 1)) (by omega) (by omega) ?_
                exact ih (i + 1) _ te2 (by omega) (by omega) hc3 ht3 ((hx.trans hx2).trans hx3)
          refine e_iconst (v := 0) hX iX11_commit_67 (by decide) ?_
          refine e_istore_n hX 1 iX11_commit_68 rfl (by decide) ?_
          refine e_loc [0, 1] ?_
          exact loop (gM σ + 1) 0 ph te (by omega) (by omega) (CM.start hg) ⟨hd.2.1.1, hd.2.1.2.1, hd.2.2.1.1, ha.2.2.2.1.1⟩ kx.refl
        · exact absurd rfl c54
      · refine e_if_eq hX iX11_commit_54 (fun c54 => ?_) (fun c54 => ?_)
        · exact absurd c54 (by decide)
        · obtain ⟨hg3, hx3⟩ := hg.rej (i := rjI σ) (q := rjQ σ (rjI σ)) (o := rjW σ) (by omega)
          subst ph8
          have hk0 : k_com σ = 2 := by unfold k_com; rw [if_neg h0, if_neg h1, if_pos h2]
          have hs0 : s_commit σ = s_rej σ := by unfold s_commit; rw [if_neg h0, if_neg h1, if_pos h2]
          exact e_throw hX iX11_commit_57 ⟨by decide, Nat.le_of_ble_eq_true rfl, by decide, by decide⟩ (e_out hX hQ hT (by decide) (by decide) (by rw [hk0, hs0]; exact ⟨by decide, rfl, hg3.gp, hx3⟩))
    · have h1 : 12 < gN σ + gM σ := by
        rcases Nat.lt_or_ge 12 (gN σ + gM σ) with h | h
        · exact h
        · exact absurd (nI_le h (by decide)) c37
      have hk0 : k_com σ = 1 := by unfold k_com; rw [if_neg h0, if_pos h1]
      have hs0 : s_commit σ = σ := by unfold s_commit; rw [if_neg h0, if_pos h1]
      exact e_throw hX iX11_commit_40 ⟨by decide, Nat.le_of_ble_eq_true rfl, by decide, by decide⟩ (e_out hX hQ hT (by decide) (by decide) (by rw [hs0]; exact hg.oX 0 hk0 rfl))
  · have h0 : gM σ = 0 := of_decide_eq_true (b2i_n0.mp c7)
    have hk0 : k_com σ = 1 := by unfold k_com; rw [if_pos h0]
    have hs0 : s_commit σ = σ := by unfold s_commit; rw [if_pos h0]
    exact e_throw hX iX11_commit_10 ⟨by decide, Nat.le_of_ble_eq_true rfl, by decide, by decide⟩ (e_out hX hQ hT (by decide) (by decide) (by rw [hs0]; exact hg.oX 0 hk0 rfl))
end GCN
