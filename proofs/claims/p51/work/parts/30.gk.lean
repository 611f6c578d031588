/-- the facts of the gate beside its lists -/
def GR (θ : e_T) (ph : e_PH) (g : Nat) (σ : SG) (κ : Nat → Nat) (r wr b wb u : Nat → Nat) : Prop :=
  ph g = some (gobj κ σ) ∧ (∀ i, i < gN σ → rowAt θ ph (r i) (wr i) (gV σ i) (gI σ i)) ∧ (∀ i, i < gM σ → rowAt θ ph (b i) (wb i) (gW σ i) (-1)) ∧ rls ph (gK σ) u (gR σ) ∧
  ph (κ 3) = some (e_O 6 [.int (gJ σ).1, .int (gJ σ).2.1, .int (gJ σ).2.2.1, .int (b2i (gJ σ).2.2.2)]) ∧ jnk θ ph κ ∧
  ((∃ f, ph (κ 10) = some (e_II θ 5 f) ∧ ∀ j, j < 5 → f j = some (κ (11 + j))) ∧ ∀ j, j < 5 → ph (κ (11 + j)) = some (e_I θ 11 (gQ σ j)))
theorem GI.mk {θ : e_T} {ph : e_PH} {g : Nat} {X : Nat → Prop} {σ : SG} {κ : Nat → Nat} {te be ue : Nat} {r wr b wb u : Nat → Nat} (h : GR θ ph g σ κ r wr b wb u) (h1 : lst θ ph (κ 0) te (gN σ) r) (h2 : lst θ ph (κ 1) be (gM σ) b) (h3 : lst θ ph (κ 2) ue (gK σ) u) (hd : dsts θ σ κ te be ue wr wb u) (ho : okS σ) (ha : avd ph X g σ κ te be ue r wr b wb u) : GI θ ph g X σ κ te be ue r wr b wb u := ⟨h.1, ⟨h1, h.2.1⟩, ⟨h2, h.2.2.1⟩, ⟨h3, h.2.2.2.1⟩, h.2.2.2.2.1, h.2.2.2.2.2.1, h.2.2.2.2.2.2, hd, ho, ha⟩
theorem GI.gr {θ : e_T} {ph : e_PH} {g : Nat} {X : Nat → Prop} {σ : SG} {κ : Nat → Nat} {te be ue : Nat} {r wr b wb u : Nat → Nat} (h : GI θ ph g X σ κ te be ue r wr b wb u) : GR θ ph g σ κ r wr b wb u := ⟨h.1, h.2.1.2, h.2.2.1.2, h.2.2.2.1.2, h.2.2.2.2.1, h.2.2.2.2.2.1, h.2.2.2.2.2.2.1⟩
def lkind (θ : e_T) (c : va_E) : Prop := (∃ fs, c = e_O 1 fs) ∨ ∃ N f, c = e_R θ N f
theorem lkind.no_O {θ : e_T} {ci : Nat} {fs : List Value} (h : ci ≠ 1) : ¬ lkind θ (e_O ci fs) := fun q => by
  rcases q with ⟨f, q⟩ | ⟨N, f, q⟩
  · exact e_OO h q
  · exact e_OR q
theorem lkind.no_I {θ : e_T} {N : Nat} {f : Nat → Int32} : ¬ lkind θ (e_I θ N f) := fun q => by
  rcases q with ⟨f, q⟩ | ⟨N, f, q⟩
  · exact e_IO q
  · exact e_IR q
/-- only cells of lists change -/
theorem GR.lkeep {θ : e_T} {ph p : e_PH} {g : Nat} {σ : SG} {κ : Nat → Nat} {r wr b wb u : Nat → Nat} (h : GR θ ph g σ κ r wr b wb u) {S : Nat → Prop} (hk : kept ph p S) (hS : ∀ a c, ph a = some c → S a → lkind θ c) (h10 : ¬ S (κ 10)) : GR θ p g σ κ r wr b wb u := by
  obtain ⟨h1, h2, h3, h4, h5, ⟨⟨a1, b1, f1, j4, j5⟩, ⟨a2, f2, j6, j7⟩, a3, f3, j8, j9⟩, ⟨f, h6, h7⟩, h8⟩ := h
  have c1 : ∀ a c, ph a = some c → ¬ lkind θ c → p a = some c := fun a c ha hn => hk a c ha (fun hs => hn (hS a c ha hs))
  have cr : ∀ {q w : Nat} {v : Nat → Int32} {id : Int32}, rowAt θ ph q w v id → rowAt θ p q w v id := fun hr => ⟨c1 _ _ hr.1 (lkind.no_O (by decide)), c1 _ _ hr.2 lkind.no_I⟩
  exact ⟨c1 _ _ h1 (lkind.no_O (by decide)), fun i hi => cr (h2 i hi), fun i hi => cr (h3 i hi), fun i hi => ⟨(h4 i hi).1, c1 _ _ (h4 i hi).2 (lkind.no_O (by omega))⟩, c1 _ _ h5 (lkind.no_O (by decide)), ⟨⟨a1, b1, f1, c1 _ _ j4 (lkind.no_O (by decide)), c1 _ _ j5 lkind.no_I⟩, ⟨a2, f2, c1 _ _ j6 (lkind.no_O (by decide)), c1 _ _ j7 lkind.no_I⟩, a3, f3, c1 _ _ j8 (lkind.no_O (by decide)), c1 _ _ j9 lkind.no_I⟩, ⟨f, hk _ _ h6 h10, h7⟩, fun j hj => c1 _ _ (h8 j hj) lkind.no_I⟩
theorem lS.kind {θ : e_T} {ph : e_PH} {a ed n : Nat} {r : Nat → Nat} (hl : lst θ ph a ed n r) {x : Nat} {c : va_E} (hx : ph x = some c) (h : lS θ ph a ed x) : lkind θ c := by
  rcases h with h | ⟨-, N, f, h⟩
  · subst h
    rw [hl.hp] at hx
    exact Or.inl ⟨_, (Option.some.inj hx).symm⟩
  · rw [h] at hx
    exact Or.inr ⟨N, f, (Option.some.inj hx).symm⟩
/-- another list stays as it is -/
theorem lst.other {θ : e_T} {ph p : e_PH} {a ed n a2 ed2 n2 : Nat} {r r2 : Nat → Nat} (hl : lst θ ph a ed n r) (h2 : lst θ ph a2 ed2 n2 r2) (hE : ph θ.2.2.2.2 = none) (hk : kept ph p (lS θ ph a ed)) (h1 : a2 ≠ a) (h3 : ed = ed2 → ed = θ.2.2.2.2) : lst θ p a2 ed2 n2 r2 := by
  refine h2.keep hk (fun q => ?_) (fun hne q => ?_)
  · rcases q with q | ⟨-, N, f, q⟩
    · exact h1 q
    · rw [h2.hp] at q; exact e_OR (Option.some.inj q)
  · rcases q with q | ⟨q, N, f, q2⟩
    · subst q
      rcases h2.hed with e | ⟨N, f, e⟩
      · rw [e, hE] at hne; exact hne rfl
      · rw [hl.hp] at e; exact e_OR (Option.some.inj e)
    · subst q
      rw [h3 rfl, hE] at q2; cases q2
theorem lS.no10 {θ : e_T} {ph : e_PH} {a ed n k10 : Nat} {r : Nat → Nat} {f : Nat → Option Nat} (hl : lst θ ph a ed n r) (h : ph k10 = some (e_II θ 5 f)) (h2 : ed ≠ k10) : ¬ lS θ ph a ed k10 := fun q => by
  rcases q with q | ⟨q, -⟩
  · subst q; rw [hl.hp] at h; exact e_OII (Option.some.inj h)
  · exact h2 q.symm
/-- X stays as it is -/
theorem lS.kx {θ : e_T} {ph p : e_PH} {a ed : Nat} {X : Nat → Prop} (hk : kept ph p (lS θ ph a ed)) (h1 : ¬ X a) (h2 : ¬ X ed) : kx ph p X := fun b c hb hc => hk b c hc (fun q => by
  rcases q with q | ⟨q, -⟩
  · subst q; exact h1 hb
  · subst q; exact h2 hb)
theorem lst.edp {θ : e_T} {ph : e_PH} {a ed n : Nat} {r : Nat → Nat} (hl : lst θ ph a ed n r) (hn : n ≠ 0) (hE : ph θ.2.2.2.2 = none) : ed ≠ θ.2.2.2.2 := fun e => by
  obtain ⟨m, -, -, h | ⟨N, f, h, -⟩⟩ := hl
  · exact hn h.1
  · rw [e, hE] at h; cases h
/-- where a grown list's row may lie -/
theorem lst.edn {θ : e_T} {ph p : e_PH} {a ed ed' n n' a2 ed2 n2 : Nat} {r r' r2 : Nat → Nat} (h1 : lst θ p a ed' n' r') (hn : n' ≠ 0) (hE : p θ.2.2.2.2 = none) (h2 : lst θ ph a2 ed2 n2 r2) (hor : ed' = ed ∨ ph ed' = none) (h3 : ed = ed2 → ed = θ.2.2.2.2) : ed' = ed2 → ed' = θ.2.2.2.2 := fun e => by
  have h4 := h1.edp hn hE
  rcases hor with h | h
  · rw [h]; exact h3 (h.symm.trans e)
  · subst e
    rcases h2.hed with e | ⟨N, f, e⟩
    · exact e
    · rw [e] at h; cases h
