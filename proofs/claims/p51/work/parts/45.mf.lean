theorem MR.stage {σ : SG} {s : Nat → Int32} {F : Nat → Nat → Int32} (hr : MR σ s F) (hm : gM σ < 6) {y : Nat → Int32} (hy : ∀ c, c < 5 → okV (y c)) {s' : Nat → Int32} {f : Nat → Int32} (h3 : s' 3 = nI (gM σ + 1)) (hs : ∀ j, j ≠ 3 → s' j = s j) (hf : ∀ j, j < 5 * gM σ → f j = F 2 j) (hf2 : ∀ c, c < 5 → f (5 * gM σ + c) = y c) : MR (s_stg σ y) s' (updF F 2 f) := by
  obtain ⟨⟨a1, a2, a3, a4, a5, a6, b, a7⟩, ⟨b1, b2⟩, c1, c2, c3, c4, c5, ok⟩ := hr
  refine ⟨⟨by rw [hs 1 (by decide)]; exact a1, by rw [hs 2 (by decide)]; exact a2, h3, by rw [hs 7 (by decide)]; exact a4, by rw [hs 22 (by decide)]; exact a5, by rw [hs 23 (by decide)]; exact a6, b, by rw [hs 17 (by decide)]; exact a7⟩, ⟨by rw [hs 14 (by decide)]; exact b1, fun h => by rw [hs 15 (by decide), hs 16 (by decide), hs 17 (by decide)]; exact b2 h⟩, c1, fun i hi c hc => ?_, c3, c4, c5, ⟨ok.1, by show gM σ + 1 ≤ 6; omega, ok.2.2.1, ok.2.2.2.1, ok.2.2.2.2.1, fun i hi c hc => ?_, ok.2.2.2.2.2.2⟩⟩
  · have hi' : i < gM σ + 1 := hi
    show f (5 * i + c) = (if i = gM σ then y else gW σ i) c
    by_cases e : i = gM σ
    · subst e; rw [if_pos rfl]; exact hf2 c hc
    · rw [if_neg e, hf _ (by omega)]; exact c2 i (by omega) c hc
  · have hi' : i < gM σ + 1 := hi
    show okV ((if i = gM σ then y else gW σ i) c)
    by_cases e : i = gM σ
    · rw [if_pos e]; exact hy c hc
    · rw [if_neg e]; exact ok.2.2.2.2.2.1 i (by omega) c hc
