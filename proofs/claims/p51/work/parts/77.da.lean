/-! p51, mathematics: dependencies, minimal sets, keys, errors -/
theorem clos_t {σ : SG} {s c : Nat} (hc : c < 5) : (a_clos σ s).testBit c = (s.testBit c || detB σ s c) := by
  unfold a_clos
  rw [Nat.testBit_or, maskN_t, decide_eq_true hc, Bool.true_and]
theorem clos_lt {σ : SG} {s : Nat} (hs : s < 32) : a_clos σ s < 2 ^ 5 := Nat.or_lt_two_pow hs (maskN_lt 5)
theorem clos_sup {σ : SG} {s : Nat} (hs : s < 32) : nI (a_clos σ s) &&& nI s = nI s := by
  rw [nI_and, show a_clos σ s &&& s = s from by
    refine Nat.eq_of_testBit_eq (fun i => ?_)
    unfold a_clos
    rw [Nat.testBit_and, Nat.testBit_or]
    cases s.testBit i
    · rw [Bool.and_false]
    · rfl]
theorem key_det {σ : SG} {s c : Nat} (hk : keyB (nI s) (gN σ) (gV σ) = true) (h : s.testBit c = false) : detB σ s c = true := by
  unfold detB
  rw [h]
  refine and_tt rfl (allB_t.mpr (fun k hk2 => allB_t.mpr (fun i hi => ?_)))
  have := allB_t.mp (allB_t.mp hk k hk2) i hi
  rw [this]; rfl
theorem key_31 {σ : SG} {s : Nat} (hs : s < 32) (hk : keyB (nI s) (gN σ) (gV σ) = true) : a_clos σ s = 31 := tb_ext (n := 5) (clos_lt hs) (by decide) (fun i hi => by
  rw [clos_t hi, show (31 : Nat).testBit i = true from (by decide : ∀ i, i < 5 → (31 : Nat).testBit i = true) i hi]
  cases h : s.testBit i
  · rw [key_det hk h]; rfl
  · rfl)
theorem mxN_ge {f : Nat → Nat} {i : Nat} : ∀ {n : Nat}, i < n → f i ≤ mxN n f
  | 0, h => absurd h (Nat.not_lt_zero i)
  | n + 1, h => by
    unfold mxN
    by_cases e : i = n
    · subst e
      by_cases c : mxN i f < f i
      · rw [if_pos c]; exact Nat.le_refl _
      · rw [if_neg c]; omega
    · have := mxN_ge (f := f) (i := i) (n := n) (by omega)
      by_cases c : mxN n f < f n
      · rw [if_pos c]; omega
      · rw [if_neg c]; exact this
theorem sumN_z {f : Nat → Nat} : ∀ {n : Nat}, sumN n f = 0 ↔ ∀ k, k < n → f k = 0
  | 0 => ⟨fun _ k h => absurd h (Nat.not_lt_zero k), fun _ => rfl⟩
  | n + 1 => by
    show sumN n f + f n = 0 ↔ _
    constructor
    · intro h k hk
      by_cases e : k = n
      · subst e; omega
      · exact (sumN_z (n := n)).mp (by omega) k (by omega)
    · intro h
      rw [(sumN_z (n := n)).mpr (fun k hk => h k (by omega)), h n (by omega)]
theorem fix_eq {s : Int32} {c n : Nat} {v : Nat → Nat → Int32} (h : fixB s c n v = true) {i j : Nat} (hi : i < n) (hj : j < n) (he : eqIn s (v i) (v j) = true) : v i c = v j c := by
  have half : ∀ {i j : Nat}, i < n → j < i → eqIn s (v i) (v j) = true → v i c = v j c := fun {i j} hi hj he => by
    have := allB_t.mp (allB_t.mp h i hi) j hj
    rw [he] at this
    exact of_decide_eq_true (by simpa using this)
  rcases Nat.lt_trichotomy i j with e | e | e
  · exact (half hj e (eqIn_sym he)).symm
  · rw [e]
  · exact half hi e he
theorem err_z {s : Int32} {c n : Nat} {v : Nat → Nat → Int32} : errN s c n v = 0 ↔ fixB s c n v = true := by
  unfold errN
  rw [sumN_z]
  constructor
  · intro h
    refine fixB_tt (fun m i hm hmi hi he => ?_)
    have hmm : fst s v m = m := by rw [← he]; exact fst_fst
    have h1 := h m hm
    rw [if_pos hmm] at h1
    rcases Decidable.em (v i c = v m c) with h2 | h2
    · exact h2
    · exfalso
      have lt : ∀ q, q < n → fst s v q = m → eqcN s c n v q < memN s n v m := fun q hq hf => by
        have step : ∀ w, w < n → fst s v w = m → ¬ v w c = v q c → eqcN s c n v q < memN s n v m := fun w hw hfw hne =>
          cntB_lt (k := w) (by rw [decide_eq_false hne, Bool.and_false]) (decide_eq_true hfw) hw (fun j _ hj => by
            rw [Bool.and_eq_true] at hj
            exact decide_eq_true ((fst_eq.mpr hj.1).trans hf))
        by_cases h3 : v i c = v q c
        · exact step m hm hmm (fun e => h2 (h3.trans e.symm))
        · exact step i hi he h3
      have pos : 0 < memN s n v m := by
        have := lt m hm hmm
        omega
      have le : mostN s c n v m ≤ memN s n v m - 1 := mxN_le (fun q hq => by
        by_cases hf : fst s v q = m
        · rw [if_pos hf]; have := lt q hq hf; omega
        · rw [if_neg hf]; exact Nat.zero_le _)
      omega
  · intro h k hk
    by_cases hf : fst s v k = k
    · rw [if_pos hf]
      have h1 : memN s n v k ≤ eqcN s c n v k := cntB_mono (fun i hi hm => by
        have e1 : eqIn s (v i) (v k) = true := fst_eq.mp ((of_decide_eq_true hm).trans hf.symm)
        exact and_tt e1 (decide_eq_true (fix_eq h hi hk e1)))
      have h2 : eqcN s c n v k ≤ mostN s c n v k := by
        have := mxN_ge (f := fun i => if fst s v i = k then eqcN s c n v i else 0) (i := k) hk
        have e2 : (if fst s v k = k then eqcN s c n v k else 0) = eqcN s c n v k := if_pos hf
        rw [← e2]
        exact this
      omega
    · rw [if_neg hf]
theorem err_det {σ : SG} {s c : Nat} (h : s.testBit c = false) : (errN (nI s) c (gN σ) (gV σ) = 0) ↔ detB σ s c = true := by
  unfold detB
  rw [h, err_z]
  exact ⟨fun e => e, fun e => e⟩
theorem det_in {σ : SG} {s c : Nat} (h : s.testBit c = true) : detB σ s c = false := by
  unfold detB
  rw [h]; rfl
theorem det_up {σ : SG} {s t c : Nat} (hs : s < 32) (ht : t < 32) (h : detB σ t c = true) (hsub : ∀ j, t.testBit j = true → s.testBit j = true) (hc : s.testBit c = false) : detB σ s c = true := by
  unfold detB at h ⊢
  rw [Bool.and_eq_true] at h
  rw [hc]
  refine and_tt rfl (allB_t.mpr (fun k hk => allB_t.mpr (fun i hi => ?_)))
  cases e : eqIn (nI s) (gV σ k) (gV σ i)
  · rfl
  · have e2 : eqIn (nI t) (gV σ k) (gV σ i) = true := eqIn_t.mpr (fun q hq hb => eqIn_t.mp e q hq (by
      rw [sb_n _ (show q < 32 by omega)] at hb ⊢
      exact hsub q hb))
    rw [decide_eq_true (fix_eq h.2 hk (by omega) e2)]; rfl
/-- the q-th of some sets, and its place in the order -/
theorem sio_at {f : Nat → Bool} {q : Nat} (hq : q < cntB 32 f) : sioK f q < 192 ∧ hitB f (sioK f q) = true ∧ cntB (sioK f q) (hitB f) = q := by
  rw [← cnt_192] at hq
  obtain ⟨k, h1, h2, h3⟩ := cnt_at hq
  have L := lowG_n (P := fun k => hitB f k && decide (cntB k (hitB f) = q)) 192 0
  have hlt : sioK f q < 192 := by
    rcases Nat.lt_or_ge (sioK f q) 192 with h | h
    · exact h
    · exfalso
      have := L.2.2.2 k (Nat.zero_le k) (by unfold sioK at h; omega)
      rw [h2, decide_eq_true h3] at this; cases this
  have h4 := L.2.2.1 (by unfold sioK at hlt; omega)
  rw [Bool.and_eq_true] at h4
  exact ⟨hlt, h4.1, of_decide_eq_true h4.2⟩
theorem hit_s {f : Nat → Bool} {k : Nat} (hk : k < 192) (h : hitB f k = true) : k % 32 < 32 ∧ f (k % 32) = true ∧ k = 32 * popN (k % 32) + k % 32 := by
  unfold hitB at h
  rw [Bool.and_eq_true] at h
  have := of_decide_eq_true h.1
  exact ⟨Nat.mod_lt _ (by decide), h.2, by omega⟩
theorem sio_v {f : Nat → Bool} {q : Nat} (hq : q < cntB 32 f) : sioN f q = nI (sioK f q % 32) := if_pos (sio_at hq).1
theorem sio_lt {f : Nat → Bool} {q q' : Nat} (hq' : q' < cntB 32 f) (h : q < q') : sioK f q < sioK f q' := by
  have h1 := sio_at (show q < cntB 32 f by omega)
  have h2 := sio_at hq'
  rcases Nat.lt_or_ge (sioK f q) (sioK f q') with e | e
  · exact e
  · have := cntB_mono2 (f := hitB f) e
    omega
theorem sio_all {f : Nat → Bool} {m : Nat} (hm : m < 32) (h : f m = true) : ∃ q, q < cntB 32 f ∧ sioK f q % 32 = m := by
  have hp := pop_le5 m hm
  have hk : 32 * popN m + m < 192 := by omega
  have hh : hitB f (32 * popN m + m) = true := by
    unfold hitB
    rw [show (32 * popN m + m) % 32 = m by omega, show (32 * popN m + m) / 32 = popN m by omega, h, decide_eq_true rfl]; rfl
  refine ⟨cntB (32 * popN m + m) (hitB f), ?_, ?_⟩
  · rw [← cnt_192]
    have h1 := cntB_s1 hh
    have h2 := cntB_mono2 (f := hitB f) (show 32 * popN m + m + 1 ≤ 192 by omega)
    omega
  · have : sioK f (cntB (32 * popN m + m) (hitB f)) = 32 * popN m + m := lowG_u hk (by rw [hh, decide_eq_true rfl]; rfl) (fun j hj => by
      cases e : hitB f j
      · rfl
      · rw [decide_eq_false (fun q => ?_)]; rfl
        have h1 := cntB_s1 e
        have h2 := cntB_mono2 (f := hitB f) (show j + 1 ≤ 32 * popN m + m by omega)
        omega)
    rw [this]; omega
theorem drop_b : ∀ m, m < 32 → ∀ b, b < 5 → m.testBit b = true → nI m &&& ((1 <<< (nI b &&& 31)) ^^^ (-1)) = nI (m - 2 ^ b) ∧ m - 2 ^ b < m ∧ subN (m - 2 ^ b) m = true := by decide +kernel
theorem min_no {σ : SG} {c m b : Nat} (hm : m < 32) (hb : b < 5) (h : isMinB σ c m = true) (ht : m.testBit b = true) : detB σ (m - 2 ^ b) c = false := by
  obtain ⟨-, h1, h2⟩ := drop_b m hm b hb ht
  unfold isMinB at h
  rw [Bool.and_eq_true] at h
  have := allB_t.mp h.2 _ h1
  rw [h2] at this
  simpa using this
theorem min_det {σ : SG} {c m : Nat} (h : isMinB σ c m = true) : detB σ m c = true := by
  unfold isMinB at h
  rw [Bool.and_eq_true] at h
  exact h.1
/-- whether some minimal set, of the first q, is in s -/
def lessB (σ : SG) (s c q : Nat) : Bool := anyB q (fun i => decide (nI (sioK (fun j => (minM σ c).testBit j) i % 32) &&& (nI s ^^^ (-1)) = 0) && decide (b2i (s.testBit c) = 0))
theorem less_all {σ : SG} {s c : Nat} (hs : s < 32) : lessB σ s c (pop32 (minM σ c)) = detB σ s c := by
  rw [Bool.eq_iff_iff]
  unfold lessB
  rw [anyB_t]
  constructor
  · rintro ⟨q, hq, h⟩
    rw [Bool.and_eq_true, decide_eq_true_eq, decide_eq_true_eq, b2i_0] at h
    have h1 := sio_at (f := fun j => (minM σ c).testBit j) hq
    obtain ⟨h2, h3, -⟩ := hit_s h1.1 h1.2.1
    rw [minM_t h2] at h3
    exact det_up hs h2 (min_det h3) ((nI_nota _ _ (by omega)).mp h.1) h.2
  · intro h
    have hc : s.testBit c = false := by
      cases e : s.testBit c
      · rfl
      · rw [det_in e] at h; cases h
    obtain ⟨m, h1, h2, h3⟩ := min_ex (f := fun t => detB σ t c) 32 s hs hs h
    obtain ⟨q, h4, h5⟩ := sio_all (f := fun j => (minM σ c).testBit j) (m := m) (by omega) (by rw [minM_t (by omega)]; exact h3)
    refine ⟨q, h4, ?_⟩
    rw [h5, decide_eq_true ((nI_nota _ _ (by omega)).mpr ((subN_t (show m < 2 ^ 12 by omega)).mp h2)), hc]
    rfl
theorem sk_no {σ : SG} (h : keyM σ = 0) : keyB (nI 31) (gN σ) (gV σ) = false := by
  rw [← keyM_t (by decide), h]; rfl
theorem sk_at {σ : SG} (h : ¬ keyM σ = 0) : ∃ m, m < 32 ∧ a_sk σ = nI m ∧ keyB (nI m) (gN σ) (gV σ) = true := by
  have hq : 0 < cntB 32 (fun i => (keyM σ).testBit i) := by
    rcases Nat.eq_zero_or_pos (cntB 32 (fun i => (keyM σ).testBit i)) with e | e
    · exfalso
      refine h (Nat.eq_of_testBit_eq (fun i => ?_))
      rw [Nat.zero_testBit]
      by_cases hi : i < 32
      · cases e2 : (keyM σ).testBit i
        · rfl
        · have : cntB 32 (fun _ => false) < cntB 32 (fun i => (keyM σ).testBit i) := cntB_lt (k := i) rfl e2 hi (fun _ _ q => by cases q)
          omega
      · unfold keyM; rw [maskN_t, decide_eq_false hi]; rfl
    · exact e
  have h1 := sio_at hq
  obtain ⟨h2, h3, -⟩ := hit_s h1.1 h1.2.1
  exact ⟨_, h2, sio_v hq, by rw [← keyM_t h2]; exact h3⟩
theorem sumN_le {f : Nat → Nat} {b : Nat} : ∀ {n : Nat}, (∀ k, k < n → f k ≤ b) → sumN n f ≤ n * b
  | 0, _ => Nat.zero_le _
  | n + 1, h => by
    have h1 := sumN_le (f := f) (b := b) (n := n) (fun k hk => h k (by omega))
    have h2 := h n (by omega)
    show sumN n f + f n ≤ (n + 1) * b
    rw [Nat.succ_mul]
    omega
theorem err_lt {s : Int32} {c n : Nat} {v : Nat → Nat → Int32} (hn : n ≤ 12) : errN s c n v < 2 ^ 31 := by
  have : errN s c n v ≤ n * 12 := sumN_le (fun k _ => by
    by_cases e : fst s v k = k
    · rw [if_pos e]
      have : memN s n v k ≤ n := memN_le
      omega
    · rw [if_neg e]; exact Nat.zero_le _)
  have : n * 12 ≤ 12 * 12 := Nat.mul_le_mul_right 12 hn
  omega
