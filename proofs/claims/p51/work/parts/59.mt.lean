section MOT
variable {l : Launch} {θ : e_T} {ph : e_PH} {mo : Nat} {μ : Nat → Nat} {σ : SG} {t : Int32} {s : Nat → Int32} {F : Nat → Nat → Int32}
def repM (n B : Nat) (M : Nat → Nat) (k : Nat) : Bool := subN B k && allB n (fun i => k.testBit (n - 1 - i) || subN (M i) k)
theorem and_pow {k j : Nat} (hk : k < 2 ^ 12) (hj : j < 12) : nI k &&& nI (2 ^ j) = 0 ↔ k.testBit j = false := by
  have e : k &&& 2 ^ j = if k.testBit j = true then 2 ^ j else 0 := by
    apply Nat.eq_of_testBit_eq
    intro i
    rw [Nat.testBit_and, tb_pow]
    by_cases h : j = i
    · subst h
      rw [decide_eq_true rfl, Bool.and_true]
      cases h2 : k.testBit j
      · rw [if_neg (by decide), Nat.zero_testBit]
      · rw [if_pos rfl, tb_pow, decide_eq_true rfl]
    · rw [decide_eq_false h, Bool.and_false]
      cases h2 : k.testBit j
      · rw [if_neg (by decide), Nat.zero_testBit]
      · rw [if_pos rfl, tb_pow, decide_eq_false h]
  rw [nI_and, e]
  have hp : 2 ^ j < 2 ^ 12 := pow_lt12 hj
  have hp0 := Nat.two_pow_pos j
  cases h : k.testBit j
  · rw [if_neg (by decide)]; exact ⟨fun _ => rfl, fun _ => rfl⟩
  · rw [if_pos rfl]; exact ⟨fun e => absurd e (nI_ne0 hp0 (by omega)), fun e => by cases e⟩
end MOT
