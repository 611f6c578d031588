/-- the size of its arrays; 7 and 8 are of booleans -/
def msz : Nat → Nat
  | 0 => 12
  | 1 => 90
  | 2 => 30
  | 3 => 10
  | 4 => 10
  | 5 => 10
  | 6 => 10
  | 7 => 10
  | 8 => 10
  | 9 => 12
  | 10 => 12
  | 11 => 12
  | _ => 55
def mcell (θ : e_T) (j : Nat) (f : Nat → Int32) : va_E := if j = 7 ∨ j = 8 then e_Z θ 10 f else e_I θ (msz j) f
def mobj (μ : Nat → Nat) (s : Nat → Int32) : va_E := e_O 12 [.int (s 0), .int (s 1), .int (s 2), .int (s 3), .ref (μ 0), .ref (μ 1), .ref (μ 2), .int (s 7), .ref (μ 3), .ref (μ 4), .ref (μ 5), .ref (μ 6), .ref (μ 7), .ref (μ 8), .int (s 14), .int (s 15), .int (s 16), .int (s 17), .ref (μ 9), .ref (μ 10), .int (s 20), .ref (μ 11), .int (s 22), .int (s 23), .ref (μ 12), .ref (μ 13)]
def MI (θ : e_T) (ph : e_PH) (mo : Nat) (μ : Nat → Nat) (s : Nat → Int32) (F : Nat → Nat → Int32) : Prop := ph mo = some (mobj μ s) ∧ (∀ j, j < 14 → ph (μ j) = some (mcell θ j (F j))) ∧ ∀ i, i < 14 → ∀ j, j < 14 → μ i = μ j → i = j
def mS (mo : Nat) (μ : Nat → Nat) : Nat → Prop := fun a => a = mo ∨ ∃ j, j < 14 ∧ a = μ j
def updF (F : Nat → Nat → Int32) (j : Nat) (f : Nat → Int32) : Nat → Nat → Int32 := fun i => if i = j then f else F i
/-- row i of the values -/
def vF (F : Nat → Nat → Int32) (i : Nat) : Nat → Int32 := fun c => F 1 (5 * i + c)
def mrule (F : Nat → Nat → Int32) (r : Nat) (ρ : RU) : Prop := F 3 r = nI ρ.1 ∧ F 4 r = nI ρ.2.1 ∧ F 5 r = ρ.2.2.1 ∧ F 6 r = ρ.2.2.2.1 ∧ ruleOk ρ.1 ρ.2.1 ρ.2.2.1
/-- the cells hold σ -/
def MR (σ : SG) (s : Nat → Int32) (F : Nat → Nat → Int32) : Prop :=
  (s 1 = nI (gN σ) ∧ s 2 = gD σ ∧ s 3 = nI (gM σ) ∧ s 7 = nI (gK σ) ∧ s 22 = gF σ ∧ s 23 = nI (gP σ) ∧ ∃ b, s 17 = b2i b) ∧
  (s 14 = (gJ σ).1 ∧ ((gJ σ).1 ≠ -1 → s 15 = (gJ σ).2.1 ∧ s 16 = (gJ σ).2.2.1 ∧ s 17 = b2i (gJ σ).2.2.2)) ∧
  (∀ i, i < gN σ → F 0 i = gI σ i ∧ ∀ c, c < 5 → vF F i c = gV σ i c) ∧ (∀ i, i < gM σ → ∀ c, c < 5 → F 2 (5 * i + c) = gW σ i c) ∧
  (∀ r, r < gK σ → mrule F r (gR σ r) ∧ F 7 r = b2i (stR (gR σ r)) ∧ F 8 r = b2i (drR (gR σ r))) ∧ (∀ r, gK σ ≤ r → F 8 r = 0) ∧
  (∀ j, j < 5 → ∀ b, b < 11 → F 12 (11 * j + b) = gQ σ j b) ∧ okS σ
def MP (θ : e_T) (ph : e_PH) (mo : Nat) (μ : Nat → Nat) (σ : SG) (t : Int32) : Prop := ∃ s F, MI θ ph mo μ s F ∧ MR σ s F ∧ s 0 = t
