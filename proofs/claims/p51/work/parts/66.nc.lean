def ixN (x : Int32) : Nat := x.toNatClampNeg
theorem bktN_le {σ : SG} {c b : Nat} : bktN σ c b ≤ gN σ := cntB_le _ _
section MONC
variable {l : Launch} {θ : e_T} {ph : e_PH} {mo : Nat} {μ : Nat → Nat} {σ : SG} {t : Int32} {s : Nat → Int32} {F : Nat → Nat → Int32}
theorem abs0 : ∀ x, x < 145 → ∀ y, y < 145 → ixN (absI (nI x - nI y)) < 145 ∧ absI (nI x - nI y) = nI (ixN (absI (nI x - nI y))) := by decide +kernel
theorem mul_145 {a b : Nat} (ha : a ≤ 12) (hb : b ≤ 12) : a * b < 145 := Nat.lt_succ_of_le (Nat.mul_le_mul ha hb)
theorem sumI_nat {f : Nat → Int32} : ∀ n, (∀ i, i < n → ∃ t, t < 145 ∧ f i = nI t) → ∃ S, S ≤ 145 * n ∧ sumI f n = nI S
  | 0, _ => ⟨0, Nat.le_refl _, rfl⟩
  | n + 1, h => by
    obtain ⟨S, h1, h2⟩ := sumI_nat (f := f) n (fun i hi => h i (by omega))
    obtain ⟨t, h3, h4⟩ := h n (by omega)
    refine ⟨S + t, by omega, ?_⟩
    show sumI f n + f n = _
    rw [h2, h4, nI_add]
theorem drf_pos {σ : SG} (ok : okS σ) {c : Nat} (hc : c < 5) (hn0 : ¬ gN σ = 0) (hp0 : ¬ gP σ = 0) : (-1 : Int32) < drfN σ c := by
  obtain ⟨S, h1, h2⟩ := sumI_nat (f := drfB σ c) 11 (fun b hb => by
    obtain ⟨q, hq, e⟩ := ok.2.2.2.2.2.2.1 c hc b hb
    have hb2 : bktN σ c b ≤ 12 := Nat.le_trans bktN_le ok.1
    have := abs0 (bktN σ c b * gP σ) (mul_145 hb2 ok.2.2.2.1) (q * gN σ) (mul_145 hq ok.1)
    unfold drfB
    rw [e, pk_mul, pk_mul]
    exact ⟨_, this⟩)
  have hd : 2 * gN σ * gP σ ≤ 2 * 12 * 12 := Nat.mul_le_mul (Nat.mul_le_mul (Nat.le_refl 2) ok.1) ok.2.2.2.1
  have hd0 : 0 < 2 * gN σ * gP σ := Nat.mul_pos (Nat.mul_pos (by decide) (by omega)) (by omega)
  have e : drfN σ c = nI (1000 * S / (2 * gN σ * gP σ)) := by
    unfold drfN
    rw [h2, show (1000 : Int32) = nI 1000 from rfl, show (2 : Int32) = nI 2 from rfl, pk_mul, pk_mul, pk_mul, pk_div (by omega) hd0 (by omega)]
  have hlt : 1000 * S / (2 * gN σ * gP σ) < 2 ^ 31 := Nat.lt_of_le_of_lt (Nat.div_le_self _ _) (by omega)
  rw [e]
  exact Int32.lt_of_lt_of_le (by decide) (nI_pos' hlt)
theorem mst_s {d : Nat → Int32} {c : Nat} : mstG d (c + 1) = if (mstG d c).2 < d c then (c, d c) else mstG d c := rfl
theorem mst_1 {d : Nat → Int32} (h0 : (-1 : Int32) < d 0) : mstG d (0 + 1) = (0, d 0) := if_pos h0
theorem mst_2 {d : Nat → Int32} (h0 : (-1 : Int32) < d 0) : ∀ c, (mstG d (c + 1)).2 = d (mstG d (c + 1)).1
  | 0 => by rw [mst_1 h0]
  | c + 1 => by
    rw [mst_s (c := c + 1)]
    split
    · rfl
    · exact mst_2 h0 c
end MONC
