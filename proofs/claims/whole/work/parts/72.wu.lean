/-! what a call of the class leaves, with its answer in the law's array -/
theorem ox1 {k : Nat} {a E : String} (hk : k ≠ 0) (h : ([a] : List String)[k - 1]? = some E) : k = 1 ∧ a = E := by
  match k, hk, h with
  | 1, _, h => exact ⟨rfl, Option.some.inj h⟩
theorem ox2 {k : Nat} {a b E : String} (hk : k ≠ 0) (h : ([a, b] : List String)[k - 1]? = some E) : (k = 1 ∧ a = E) ∨ (k = 2 ∧ b = E) := by
  match k, hk, h with
  | 1, _, h => exact Or.inl ⟨rfl, Option.some.inj h⟩
  | 2, _, h => exact Or.inr ⟨rfl, Option.some.inj h⟩
theorem ox3 {k : Nat} {a b c E : String} (hk : k ≠ 0) (h : ([a, b, c] : List String)[k - 1]? = some E) : (k = 1 ∧ a = E) ∨ (k = 2 ∧ b = E) ∨ (k = 3 ∧ c = E) := by
  match k, hk, h with
  | 1, _, h => exact Or.inl ⟨rfl, Option.some.inj h⟩
  | 2, _, h => exact Or.inr (Or.inl ⟨rfl, Option.some.inj h⟩)
  | 3, _, h => exact Or.inr (Or.inr ⟨rfl, Option.some.inj h⟩)
def bL (b : Bool) : Int64 := if b = true then 1 else 0
theorem bL_t {b : Bool} (h : b = true) : (1 : Int64) = bL b := by rw [h]; rfl
theorem bL_f {b : Bool} (h : b = false) : (0 : Int64) = bL b := by rw [h]; rfl
/-- k: the place of what was thrown; the answer a where nothing was -/
def uP (θ : e_T) (ph : e_PH) (g : Nat) (X : Nat → Prop) (o k : Nat) (a : Int64) (σ1 σ2 : SG) : Option Value → e_PH → Prop := fun z p => z = some (.int (nI k)) ∧ GP θ p g X (if k = 0 then σ1 else σ2) ∧ (∃ f, p o = some (e_L θ 1 f) ∧ (k = 0 → f 0 = a)) ∧ kx ph p (fun b => X b ∧ b ≠ o)
def uD (θ : e_T) (ph : e_PH) (g : Nat) (X : Nat → Prop) (o k : Nat) (a : UInt64) (σ : SG) : Option Value → e_PH → Prop := fun z p => z = some (.int (nI k)) ∧ GP θ p g X σ ∧ (∃ f, p o = some (e_D θ 1 f) ∧ (k = 0 → f 0 = a)) ∧ kx ph p (fun b => X b ∧ b ≠ o)
theorem GP.one {θ : e_T} {p : e_PH} {g o : Nat} {X : Nat → Prop} {σ : SG} {c : va_E} (hg : GP θ p g X σ) (hXo : X o) : GP θ (e_up p o c) g X σ := hg.keep (kept.up (Or.inl hXo)) (fun a ha => by
  by_cases e : a = o
  · subst e; rw [e_up_s]; exact fun q => by cases q
  · rw [e_up_n e]; exact hg.xne a ha)
theorem kx.one {ph p : e_PH} {X : Nat → Prop} {o : Nat} {c : va_E} (hx : kx ph p X) : kx ph (e_up p o c) (fun b => X b ∧ b ≠ o) := fun b c2 hb h => by
  rw [e_up_n hb.2]
  exact hx b c2 hb.1 h
theorem uP.ok {θ : e_T} {ph p : e_PH} {g : Nat} {X : Nat → Prop} {o k : Nat} {a v : Int64} {σ1 σ2 : SG} {f0 : Nat → Int64} (hg : GP θ p g X σ1) (hx : kx ph p X) (hXo : X o) (ho : p o = some (e_L θ 1 f0)) (hk : k = 0) (hv : v = a) : uP θ ph g X o k a σ1 σ2 (some (.int 0)) (e_up p o (e_L θ 1 (vp_updL f0 0 v))) := by
  subst hk
  subst hv
  exact ⟨rfl, by rw [if_pos rfl]; exact hg.one hXo, ⟨_, e_up_s, fun _ => if_pos rfl⟩, hx.one⟩
theorem uP.thr {θ : e_T} {ph p : e_PH} {g : Nat} {X : Nat → Prop} {o k : Nat} {a : Int64} {σ1 σ2 : SG} {f0 : Nat → Int64} {z : Option Value} (hg : GP θ p g X σ2) (hx : kx ph p X) (ho : ph o = some (e_L θ 1 f0)) (hXo : X o) (hk : ¬ k = 0) (hz : z = some (.int (nI k))) : uP θ ph g X o k a σ1 σ2 z p :=
  ⟨hz, by rw [if_neg hk]; exact hg, ⟨f0, hx _ _ hXo ho, fun e => absurd e hk⟩, fun b c hb h => hx b c hb.1 h⟩
theorem uD.ok {θ : e_T} {ph p : e_PH} {g : Nat} {X : Nat → Prop} {o k : Nat} {a v : UInt64} {σ : SG} {f0 : Nat → UInt64} (hg : GP θ p g X σ) (hx : kx ph p X) (hXo : X o) (ho : p o = some (e_D θ 1 f0)) (hk : k = 0) (hv : v = a) : uD θ ph g X o k a σ (some (.int 0)) (e_up p o (e_D θ 1 (vf_upd f0 0 v))) := by
  subst hk
  subst hv
  exact ⟨rfl, hg.one hXo, ⟨_, e_up_s, fun _ => if_pos rfl⟩, hx.one⟩
theorem uD.thr {θ : e_T} {ph p : e_PH} {g : Nat} {X : Nat → Prop} {o k : Nat} {a : UInt64} {σ : SG} {f0 : Nat → UInt64} {z : Option Value} (hg : GP θ p g X σ) (hx : kx ph p X) (ho : ph o = some (e_D θ 1 f0)) (hXo : X o) (hk : ¬ k = 0) (hz : z = some (.int (nI k))) : uD θ ph g X o k a σ z p :=
  ⟨hz, hg, ⟨f0, hx _ _ hXo ho, fun e => absurd e hk⟩, fun b c hb h => hx b c hb.1 h⟩
