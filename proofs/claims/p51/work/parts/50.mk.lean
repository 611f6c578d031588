theorem srtG_n {f0 : Nat → Int32} {P : Nat → Bool} {y : Nat → Int32} : ∀ n, (srtG f0 P y n).1 = cntB n P
  | 0 => rfl
  | n + 1 => by
    have h := srtG_n (f0 := f0) (P := P) (y := y) n
    unfold srtG
    by_cases c : P n = true
    · rw [if_pos c, cntB_s1 c]; show _ + 1 = _; rw [h]
    · rw [if_neg c, cntB_s0 (by simpa using c)]; exact h
