/-- rows n, values v, ids; staged m, values w; rules k, R; the rejection; (rows of the profile, next id, factor); the profile -/
abbrev SG : Type := Nat × (Nat → Nat → Int32) × (Nat → Int32) × Nat × (Nat → Nat → Int32) × Nat × (Nat → RU) × (Int32 × Int32 × Int32 × Bool) × (Nat × Int32 × Int32) × (Nat → Nat → Int32)
def gN (σ : SG) : Nat := σ.1
def gV (σ : SG) : Nat → Nat → Int32 := σ.2.1
def gI (σ : SG) : Nat → Int32 := σ.2.2.1
def gM (σ : SG) : Nat := σ.2.2.2.1
def gW (σ : SG) : Nat → Nat → Int32 := σ.2.2.2.2.1
def gK (σ : SG) : Nat := σ.2.2.2.2.2.1
def gR (σ : SG) : Nat → RU := σ.2.2.2.2.2.2.1
def gJ (σ : SG) : Int32 × Int32 × Int32 × Bool := σ.2.2.2.2.2.2.2.1
def gP (σ : SG) : Nat := σ.2.2.2.2.2.2.2.2.1.1
def gD (σ : SG) : Int32 := σ.2.2.2.2.2.2.2.2.1.2.1
def gF (σ : SG) : Int32 := σ.2.2.2.2.2.2.2.2.1.2.2
def gQ (σ : SG) : Nat → Nat → Int32 := σ.2.2.2.2.2.2.2.2.2
def okV (x : Int32) : Prop := (-99 ≤ x ∧ x ≤ 99) ∨ x = 100
def okS (σ : SG) : Prop := gN σ ≤ 12 ∧ gM σ ≤ 6 ∧ gK σ ≤ 10 ∧ gP σ ≤ 12 ∧ (∀ i, i < gN σ → ∀ c, c < 5 → okV (gV σ i c)) ∧ (∀ i, i < gM σ → ∀ c, c < 5 → okV (gW σ i c)) ∧ (∀ j, j < 5 → ∀ b, b < 11 → ∃ t, t ≤ 12 ∧ gQ σ j b = nI t) ∧ ((gJ σ).1 = -1 → (gJ σ).2.2.1 = -1)
/-- the three helpers' cells, whatever they hold -/
def jnk (θ : e_T) (ph : e_PH) (κ : Nat → Nat) : Prop :=
  (∃ a b f, ph (κ 4) = some (e_O 3 [.ref (κ 5), .int a, .int b]) ∧ ph (κ 5) = some (e_I θ 12 f)) ∧
  (∃ a f, ph (κ 6) = some (e_O 4 [.ref (κ 7), .int a]) ∧ ph (κ 7) = some (e_I θ 12 f)) ∧
  ∃ a f, ph (κ 8) = some (e_O 5 [.ref (κ 9), .int a]) ∧ ph (κ 9) = some (e_I θ 12 f)
def dsts (θ : e_T) (σ : SG) (κ : Nat → Nat) (te be ue : Nat) (wr wb u : Nat → Nat) : Prop :=
  (κ 0 ≠ κ 1 ∧ κ 0 ≠ κ 2 ∧ κ 1 ≠ κ 2) ∧ ((te = be → te = θ.2.2.2.2) ∧ (te = ue → te = θ.2.2.2.2) ∧ (be = ue → be = θ.2.2.2.2)) ∧ (te ≠ κ 10 ∧ be ≠ κ 10 ∧ ue ≠ κ 10) ∧
  (κ 5 ≠ κ 7 ∧ κ 5 ≠ κ 9 ∧ κ 7 ≠ κ 9) ∧ (∀ i, i < 5 → ∀ j, j < 5 → κ (11 + i) = κ (11 + j) → i = j) ∧
  (∀ i, i < gN σ → ∀ j, j < gN σ → wr i = wr j → i = j) ∧ (∀ i, i < gM σ → ∀ j, j < gM σ → wb i = wb j → i = j) ∧ (∀ i, i < gN σ → ∀ j, j < gM σ → wr i ≠ wb j) ∧
  ∀ i, i < gK σ → ∀ j, j < gK σ → u i = u j → i = j
def avd (ph : e_PH) (X : Nat → Prop) (g : Nat) (σ : SG) (κ : Nat → Nat) (te be ue : Nat) (r wr b wb u : Nat → Nat) : Prop :=
  (∀ a, X a → ph a ≠ none) ∧ ¬ X g ∧ (∀ i, i < 16 → ¬ X (κ i)) ∧ (¬ X te ∧ ¬ X be ∧ ¬ X ue) ∧ (∀ i, i < gN σ → ¬ X (r i) ∧ ¬ X (wr i)) ∧ (∀ i, i < gM σ → ¬ X (b i) ∧ ¬ X (wb i)) ∧ ∀ i, i < gK σ → ¬ X (u i)
def gobj (κ : Nat → Nat) (σ : SG) : va_E := e_O 0 [.ref (κ 0), .ref (κ 1), .ref (κ 2), .ref (κ 3), .ref (κ 4), .ref (κ 6), .ref (κ 8), .ref (κ 10), .int (nI (gP σ)), .int (gD σ), .int (gF σ)]
def GI (θ : e_T) (ph : e_PH) (g : Nat) (X : Nat → Prop) (σ : SG) (κ : Nat → Nat) (te be ue : Nat) (r wr b wb u : Nat → Nat) : Prop :=
  ph g = some (gobj κ σ) ∧
  (lst θ ph (κ 0) te (gN σ) r ∧ ∀ i, i < gN σ → rowAt θ ph (r i) (wr i) (gV σ i) (gI σ i)) ∧
  (lst θ ph (κ 1) be (gM σ) b ∧ ∀ i, i < gM σ → rowAt θ ph (b i) (wb i) (gW σ i) (-1)) ∧
  (lst θ ph (κ 2) ue (gK σ) u ∧ rls ph (gK σ) u (gR σ)) ∧
  ph (κ 3) = some (e_O 6 [.int (gJ σ).1, .int (gJ σ).2.1, .int (gJ σ).2.2.1, .int (b2i (gJ σ).2.2.2)]) ∧
  jnk θ ph κ ∧
  ((∃ f, ph (κ 10) = some (e_II θ 5 f) ∧ ∀ j, j < 5 → f j = some (κ (11 + j))) ∧ ∀ j, j < 5 → ph (κ (11 + j)) = some (e_I θ 11 (gQ σ j))) ∧
  dsts θ σ κ te be ue wr wb u ∧ okS σ ∧ avd ph X g σ κ te be ue r wr b wb u
/-- the gate at g holds σ, beside X -/
def GP (θ : e_T) (ph : e_PH) (g : Nat) (X : Nat → Prop) (σ : SG) : Prop := ∃ κ te be ue r wr b wb u, GI θ ph g X σ κ te be ue r wr b wb u
/-- X is as it was -/
def kx (ph p : e_PH) (X : Nat → Prop) : Prop := ∀ b c, X b → ph b = some c → p b = some c
theorem kx.refl {ph : e_PH} {X : Nat → Prop} : kx ph ph X := fun _ _ _ h => h
theorem kx.trans {ph p q : e_PH} {X : Nat → Prop} (h1 : kx ph p X) (h2 : kx p q X) : kx ph q X := fun b c hb h => h2 b c hb (h1 b c hb h)
theorem kx.in {ph p : e_PH} {X : Nat → Prop} (h : kx ph p X) (hx : ∀ a, X a → ph a ≠ none) : ∀ a, X a → p a ≠ none := fun a ha => by
  cases e : ph a with
  | none => exact absurd e (hx a ha)
  | some c => rw [h a c ha e]; exact fun q => by cases q
def jkind (θ : e_T) (c : va_E) : Prop := (∃ f, c = e_I θ 12 f) ∨ (∃ fs, c = e_O 3 fs) ∨ (∃ fs, c = e_O 4 fs) ∨ ∃ fs, c = e_O 5 fs
theorem jkind.no_O {θ : e_T} {ci : Nat} {fs : List Value} (h3 : ci ≠ 3) (h4 : ci ≠ 4) (h5 : ci ≠ 5) : ¬ jkind θ (e_O ci fs) := fun h => by
  rcases h with ⟨f, h⟩ | ⟨f, h⟩ | ⟨f, h⟩ | ⟨f, h⟩
  · exact e_IO h.symm
  · exact e_OO h3 h
  · exact e_OO h4 h
  · exact e_OO h5 h
theorem jkind.no_I {θ : e_T} {N : Nat} {f : Nat → Int32} (hN : N ≠ 12) : ¬ jkind θ (e_I θ N f) := fun h => by
  rcases h with ⟨f, h⟩ | ⟨f, h⟩ | ⟨f, h⟩ | ⟨f, h⟩
  · exact e_II12 hN h
  · exact e_IO h
  · exact e_IO h
  · exact e_IO h
theorem jkind.no_R {θ : e_T} {N : Nat} {f : Nat → Option Nat} : ¬ jkind θ (e_R θ N f) := fun h => by
  rcases h with ⟨f, h⟩ | ⟨f, h⟩ | ⟨f, h⟩ | ⟨f, h⟩
  · exact e_RI h
  · exact e_OR h.symm
  · exact e_OR h.symm
  · exact e_OR h.symm
theorem e_III {θ : e_T} {N M : Nat} {f : Nat → Option Nat} {g : Nat → Int32} : e_II θ N f ≠ e_I θ M g := fun h => by unfold e_II e_I at h; injection h with h; injection h with _ h; injection h with _ h; cases h
theorem e_OII {θ : e_T} {ci N : Nat} {fs : List Value} {f : Nat → Option Nat} : e_O ci fs ≠ e_II θ N f := fun h => by unfold e_O e_II at h; cases h
theorem jkind.no_II {θ : e_T} {N : Nat} {f : Nat → Option Nat} : ¬ jkind θ (e_II θ N f) := fun h => by
  rcases h with ⟨f, h⟩ | ⟨f, h⟩ | ⟨f, h⟩ | ⟨f, h⟩
  · exact e_III h
  · exact e_OII h.symm
  · exact e_OII h.symm
  · exact e_OII h.symm
/-- the helpers may change -/
theorem GI.junk {θ : e_T} {ph p : e_PH} {g : Nat} {X : Nat → Prop} {σ : SG} {κ : Nat → Nat} {te be ue : Nat} {r wr b wb u : Nat → Nat} (h : GI θ ph g X σ κ te be ue r wr b wb u) {S : Nat → Prop} (hk : kept ph p S) (hS : ∀ a, S a → ∃ j, 4 ≤ j ∧ j < 10 ∧ a = κ j) (hj : jnk θ p κ) : GI θ p g X σ κ te be ue r wr b wb u ∧ kx ph p X := by
  obtain ⟨gO, ⟨gT, gTr⟩, ⟨gB, gBr⟩, ⟨gU, gUr⟩, gX, gj, ⟨⟨f, gq0, gq1⟩, gq2⟩, gd, gok, gav⟩ := h
  have hS2 : ∀ a c, ph a = some c → S a → jkind θ c := fun a c ha hs => by
    obtain ⟨j, j1, j2, rfl⟩ := hS a hs
    obtain ⟨⟨a1, b1, f1, h4, h5⟩, ⟨a2, f2, h6, h7⟩, a3, f3, h8, h9⟩ := gj
    match j, j1, j2 with
    | 4, _, _ => rw [h4] at ha; exact Or.inr (Or.inl ⟨_, (Option.some.inj ha).symm⟩)
    | 5, _, _ => rw [h5] at ha; exact Or.inl ⟨_, (Option.some.inj ha).symm⟩
    | 6, _, _ => rw [h6] at ha; exact Or.inr (Or.inr (Or.inl ⟨_, (Option.some.inj ha).symm⟩))
    | 7, _, _ => rw [h7] at ha; exact Or.inl ⟨_, (Option.some.inj ha).symm⟩
    | 8, _, _ => rw [h8] at ha; exact Or.inr (Or.inr (Or.inr ⟨_, (Option.some.inj ha).symm⟩))
    | 9, _, _ => rw [h9] at ha; exact Or.inl ⟨_, (Option.some.inj ha).symm⟩
  have c1 : ∀ a c, ph a = some c → ¬ jkind θ c → p a = some c := fun a c ha hn => hk a c ha (fun hs => hn (hS2 a c ha hs))
  have cl : ∀ {a ed n : Nat} {r : Nat → Nat}, lst θ ph a ed n r → lst θ p a ed n r := fun hl => hl.keep2 hk (fun b fs hb hs => jkind.no_O (by decide) (by decide) (by decide) (hS2 _ _ hb hs)) (fun b N f hb hs => jkind.no_R (hS2 _ _ hb hs))
  have cr : ∀ {q w : Nat} {v : Nat → Int32} {id : Int32}, rowAt θ ph q w v id → rowAt θ p q w v id := fun hr => ⟨c1 _ _ hr.1 (jkind.no_O (by decide) (by decide) (by decide)), c1 _ _ hr.2 (jkind.no_I (by decide))⟩
  have kxp : kx ph p X := fun a c ha hc => hk a c hc (fun hs => by
    obtain ⟨j, j1, j2, rfl⟩ := hS a hs
    exact gav.2.2.1 j (by omega) ha)
  exact ⟨⟨c1 _ _ gO (jkind.no_O (by decide) (by decide) (by decide)), ⟨cl gT, fun i hi => cr (gTr i hi)⟩, ⟨cl gB, fun i hi => cr (gBr i hi)⟩, ⟨cl gU, fun i hi => ⟨(gUr i hi).1, c1 _ _ (gUr i hi).2 (jkind.no_O (by omega) (by omega) (by omega))⟩⟩, c1 _ _ gX (jkind.no_O (by decide) (by decide) (by decide)), hj, ⟨⟨f, c1 _ _ gq0 jkind.no_II, gq1⟩, fun j hj => c1 _ _ (gq2 j hj) (jkind.no_I (by decide))⟩, gd, gok, kxp.in gav.1, gav.2⟩, kxp⟩
theorem GI.find {θ : e_T} {ph p : e_PH} {g : Nat} {X : Nat → Prop} {σ : SG} {κ : Nat → Nat} {te be ue : Nat} {r wr b wb u : Nat → Nat} (h : GI θ ph g X σ κ te be ue r wr b wb u) (hk : kept ph p (prS (κ 4) (κ 5))) {n B : Nat} {M : Nat → Nat} (hc : cfl θ p (κ 4) (κ 5) n B M) : GI θ p g X σ κ te be ue r wr b wb u ∧ kx ph p X := by
  obtain ⟨-, ⟨a2, f2, h6, h7⟩, a3, f3, h8, h9⟩ := h.2.2.2.2.2.1
  obtain ⟨⟨a1, b1, f1, h4, h5⟩, -⟩ := h.2.2.2.2.2.1
  have hd := h.2.2.2.2.2.2.2.1.2.2.2.1
  have no : ∀ a, a ≠ κ 5 → (∀ fs c, ph a = some c → c ≠ e_O 3 fs) → ∀ c, ph a = some c → p a = some c := fun a h1 h2 c hc => hk a c hc (fun hs => by
    rcases hs with hs | hs
    · subst hs; exact h2 _ _ h4 rfl
    · exact h1 hs)
  refine h.junk hk (fun a hs => ?_) ⟨⟨_, _, _, hc.1, hc.2.1.choose_spec.1⟩, ⟨a2, f2, ?_, ?_⟩, a3, f3, ?_, ?_⟩
  · rcases hs with hs | hs
    · exact ⟨4, by omega, by omega, hs⟩
    · exact ⟨5, by omega, by omega, hs⟩
  · exact no _ (e_ne2 h6 h5 (fun e => e_IO e.symm)) (fun fs c hc => by rw [h6] at hc; cases hc; exact e_OO (by decide)) _ h6
  · exact no _ (fun e => hd.1 e.symm) (fun fs c hc => by rw [h7] at hc; cases hc; exact e_IO) _ h7
  · exact no _ (e_ne2 h8 h5 (fun e => e_IO e.symm)) (fun fs c hc => by rw [h8] at hc; cases hc; exact e_OO (by decide)) _ h8
  · exact no _ (fun e => hd.2.1 e.symm) (fun fs c hc => by rw [h9] at hc; cases hc; exact e_IO) _ h9
theorem GI.divide {θ : e_T} {ph p : e_PH} {g : Nat} {X : Nat → Prop} {σ : SG} {κ : Nat → Nat} {te be ue : Nat} {r wr b wb u : Nat → Nat} (h : GI θ ph g X σ κ te be ue r wr b wb u) (hk : kept ph p (prS (κ 6) (κ 7))) {a0 : Int32} {f0 : Nat → Int32} (hc : p (κ 6) = some (e_O 4 [.ref (κ 7), .int a0])) (hc2 : p (κ 7) = some (e_I θ 12 f0)) : GI θ p g X σ κ te be ue r wr b wb u ∧ kx ph p X := by
  obtain ⟨⟨a1, b1, f1, h4, h5⟩, ⟨a2, f2, h6, h7⟩, a3, f3, h8, h9⟩ := h.2.2.2.2.2.1
  have hd := h.2.2.2.2.2.2.2.1.2.2.2.1
  have no : ∀ a, a ≠ κ 7 → (∀ fs c, ph a = some c → c ≠ e_O 4 fs) → ∀ c, ph a = some c → p a = some c := fun a h1 h2 c hc => hk a c hc (fun hs => by
    rcases hs with hs | hs
    · subst hs; exact h2 _ _ h6 rfl
    · exact h1 hs)
  refine h.junk hk (fun a hs => ?_) ⟨⟨a1, b1, f1, ?_, ?_⟩, ⟨_, _, hc, hc2⟩, a3, f3, ?_, ?_⟩
  · rcases hs with hs | hs
    · exact ⟨6, by omega, by omega, hs⟩
    · exact ⟨7, by omega, by omega, hs⟩
  · exact no _ (e_ne2 h4 h7 (fun e => e_IO e.symm)) (fun fs c hc => by rw [h4] at hc; cases hc; exact e_OO (by decide)) _ h4
  · exact no _ hd.1 (fun fs c hc => by rw [h5] at hc; cases hc; exact e_IO) _ h5
  · exact no _ (e_ne2 h8 h7 (fun e => e_IO e.symm)) (fun fs c hc => by rw [h8] at hc; cases hc; exact e_OO (by decide)) _ h8
  · exact no _ (fun e => hd.2.2 e.symm) (fun fs c hc => by rw [h9] at hc; cases hc; exact e_IO) _ h9
theorem GI.nums {θ : e_T} {ph p : e_PH} {g : Nat} {X : Nat → Prop} {σ : SG} {κ : Nat → Nat} {te be ue : Nat} {r wr b wb u : Nat → Nat} (h : GI θ ph g X σ κ te be ue r wr b wb u) (hk : kept ph p (prS (κ 8) (κ 9))) {a0 : Int32} {f0 : Nat → Int32} (hc : p (κ 8) = some (e_O 5 [.ref (κ 9), .int a0])) (hc2 : p (κ 9) = some (e_I θ 12 f0)) : GI θ p g X σ κ te be ue r wr b wb u ∧ kx ph p X := by
  obtain ⟨⟨a1, b1, f1, h4, h5⟩, ⟨a2, f2, h6, h7⟩, a3, f3, h8, h9⟩ := h.2.2.2.2.2.1
  have hd := h.2.2.2.2.2.2.2.1.2.2.2.1
  have no : ∀ a, a ≠ κ 9 → (∀ fs c, ph a = some c → c ≠ e_O 5 fs) → ∀ c, ph a = some c → p a = some c := fun a h1 h2 c hc => hk a c hc (fun hs => by
    rcases hs with hs | hs
    · subst hs; exact h2 _ _ h8 rfl
    · exact h1 hs)
  refine h.junk hk (fun a hs => ?_) ⟨⟨a1, b1, f1, ?_, ?_⟩, ⟨a2, f2, ?_, ?_⟩, _, _, hc, hc2⟩
  · rcases hs with hs | hs
    · exact ⟨8, by omega, by omega, hs⟩
    · exact ⟨9, by omega, by omega, hs⟩
  · exact no _ (e_ne2 h4 h9 (fun e => e_IO e.symm)) (fun fs c hc => by rw [h4] at hc; cases hc; exact e_OO (by decide)) _ h4
  · exact no _ hd.2.1 (fun fs c hc => by rw [h5] at hc; cases hc; exact e_IO) _ h5
  · exact no _ (e_ne2 h6 h9 (fun e => e_IO e.symm)) (fun fs c hc => by rw [h6] at hc; cases hc; exact e_OO (by decide)) _ h6
  · exact no _ hd.2.2 (fun fs c hc => by rw [h7] at hc; cases hc; exact e_IO) _ h7
/-- something else changes -/
theorem GI.keep {θ : e_T} {ph p : e_PH} {g : Nat} {X : Nat → Prop} {σ : SG} {κ : Nat → Nat} {te be ue : Nat} {r wr b wb u : Nat → Nat} (h : GI θ ph g X σ κ te be ue r wr b wb u) (hk : kept ph p X) (hX : ∀ a, X a → p a ≠ none) : GI θ p g X σ κ te be ue r wr b wb u := by
  obtain ⟨gO, ⟨gT, gTr⟩, ⟨gB, gBr⟩, ⟨gU, gUr⟩, gX, ⟨⟨a1, b1, f1, h4, h5⟩, ⟨a2, f2, h6, h7⟩, a3, f3, h8, h9⟩, ⟨⟨f, gq0, gq1⟩, gq2⟩, gd, gok, gav⟩ := h
  obtain ⟨v0, v1, v2, ⟨v3, v4, v5⟩, v6, v7, v8⟩ := gav
  exact ⟨hk _ _ gO v1, ⟨gT.keep hk (v2 0 (by omega)) (fun _ => v3), fun i hi => ⟨hk _ _ (gTr i hi).1 (v6 i hi).1, hk _ _ (gTr i hi).2 (v6 i hi).2⟩⟩, ⟨gB.keep hk (v2 1 (by omega)) (fun _ => v4), fun i hi => ⟨hk _ _ (gBr i hi).1 (v7 i hi).1, hk _ _ (gBr i hi).2 (v7 i hi).2⟩⟩, ⟨gU.keep hk (v2 2 (by omega)) (fun _ => v5), fun i hi => ⟨(gUr i hi).1, hk _ _ (gUr i hi).2 (v8 i hi)⟩⟩, hk _ _ gX (v2 3 (by omega)), ⟨⟨a1, b1, f1, hk _ _ h4 (v2 4 (by omega)), hk _ _ h5 (v2 5 (by omega))⟩, ⟨a2, f2, hk _ _ h6 (v2 6 (by omega)), hk _ _ h7 (v2 7 (by omega))⟩, a3, f3, hk _ _ h8 (v2 8 (by omega)), hk _ _ h9 (v2 9 (by omega))⟩, ⟨⟨f, hk _ _ gq0 (v2 10 (by omega)), gq1⟩, fun j hj => hk _ _ (gq2 j hj) (v2 (11 + j) (by omega))⟩, gd, gok, hX, v1, v2, ⟨v3, v4, v5⟩, v6, v7, v8⟩
theorem GP.keep {θ : e_T} {ph p : e_PH} {g : Nat} {X : Nat → Prop} {σ : SG} (h : GP θ ph g X σ) (hk : kept ph p X) (hX : ∀ a, X a → p a ≠ none) : GP θ p g X σ := by
  obtain ⟨κ, te, be, ue, r, wr, b, wb, u, h⟩ := h
  exact ⟨κ, te, be, ue, r, wr, b, wb, u, h.keep hk hX⟩
theorem GI.rws {θ : e_T} {ph : e_PH} {g : Nat} {X : Nat → Prop} {σ : SG} {κ : Nat → Nat} {te be ue : Nat} {r wr b wb u : Nat → Nat} (h : GI θ ph g X σ κ te be ue r wr b wb u) : rws θ ph (gN σ) r (gV σ) := fun i hi => ⟨_, _, h.2.1.2 i hi⟩
section EN2
variable {θ : e_T} {x : e_X} {pc nx tgt : Nat} {lv : List (Nat × Value)} {st : List Value} {ph : e_PH} {k n : Nat} {cc : ByteArray} {own nm : String} {nL : Nat} {ret : Option FieldType} {R : Room} {l : Launch} {off : Int}
/-- the empty row of ArrayList is none of the law's cells -/
theorem e_noE (hX : e_in cc own nm nL ret R l θ x) (kk : ph θ.2.2.2.2 = none → EJ θ x pc lv st ph k n) : EJ θ x pc lv st ph k n := by
  obtain ⟨p, l', e, R', s, m, args, below, meth, c, Q, nL'⟩ := x
  obtain ⟨rfl, rfl, rfl, hx, hb, hml, hown, hts, hG, hb0, hlk, htr, hr, hnm⟩ := hX
  intro H ls locs L f hP hD hk hS hl
  have hE : ph θ.2.2.2.2 = none := by
    cases h : ph θ.2.2.2.2 with
    | none => rfl
    | some c =>
      obtain ⟨q, hq⟩ := hk.get h
      obtain ⟨cell, t1, t2, t3, t4, t5, t6, t7⟩ := hG.2.2.2.2.2.1
      exact absurd (hD.2 q _ hq) t7
  exact kk hE H ls locs L f hP hD hk hS hl
end EN2
