/-- the staged rows stand behind the table's -/
def MV (σ : SG) (F : Nat → Nat → Int32) : Prop := ∀ j, j < gN σ + gM σ → ∀ c, c < 5 → vF F j c = cat (gN σ) (gV σ) (gW σ) j c
def rejS (s : Nat → Int32) (idx r : Nat) (o : Int32 × Bool) : Nat → Int32 := upd (upd (upd (upd s 14 (nI idx)) 15 (nI r)) 17 (b2i o.2)) 16 o.1
