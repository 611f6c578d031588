section EMN
variable {θ : e_T} {x : e_X} {pc nx tgt : Nat} {lv : List (Nat × Value)} {st : List Value} {ph : e_PH} {k n : Nat} {cc : ByteArray} {own nm : String} {nL : Nat} {ret : Option FieldType} {R : Room} {l : Launch} {off : Int}
theorem mna_lk {L rs : List Nat} {f : Nat → va_E} {q : Nat} {c e : va_E} (hk : e_lk ph L f) (hq : q ∉ L ++ rs) (hr : ∀ a, a ∈ rs → a ∉ L) : e_lk (fun a => if a = q then some c else if a ∈ rs then some e else ph a) (q :: (L ++ rs)) (va_up (vr_up f rs e) q c) := by
  intro b e'
  show (if b = q then some c else if b ∈ rs then some e else ph b) = some e' ↔ _
  by_cases h : b = q
  · subst h
    rw [if_pos rfl, va_up_s]
    exact ⟨fun z => ⟨List.mem_cons_self, Option.some.inj z⟩, fun z => by rw [z.2]⟩
  · rw [if_neg h, va_up_n h]
    by_cases h2 : b ∈ rs
    · rw [if_pos h2, vr_up_in h2]
      exact ⟨fun z => ⟨List.mem_cons_of_mem _ (List.mem_append_right _ h2), Option.some.inj z⟩, fun z => by rw [z.2]⟩
    · rw [if_neg h2, vr_up_ne h2, hk b e']
      constructor
      · exact fun z => ⟨List.mem_cons_of_mem _ (List.mem_append_left _ z.1), z.2⟩
      · intro z
        rcases List.mem_cons.mp z.1 with z1 | z1
        · exact absurd z1 h
        · rcases List.mem_append.mp z1 with z1 | z1
          · exact ⟨z1, z.2⟩
          · exact absurd z1 h2
theorem e_mna (hX : e_in cc own nm nL ret R l θ x) {idx : Nat} (hd : e_at cc pc (.multianewarray idx 2) 4 nx) (hw : e_w (.classLink own idx ("[" ++ (FieldType.array .int).toString))) (hw2 : e_w (.arrayClass .int)) (hR1 : k + 6 ≤ R.cells) (hR2 : n + 60 ≤ R.slots) (kk : ∀ (q : Nat) (r : Nat → Nat) (p : e_PH) (f : Nat → Option Nat), ph q = none → (∀ i, i < 5 → ph (r i) = none) → (∀ i, i < 5 → ∀ j, j < 5 → r i = r j → i = j) → p q = some (e_II θ 5 f) → (∀ i, i < 5 → f i = some (r i)) → (∀ i, i < 5 → p (r i) = some (e_I θ 11 (fun _ => 0))) → kept ph p (fun _ => False) → EJ θ x nx lv (.ref q :: st) p (k + 6) (n + 60)) : EJ θ x pc lv (.int (nI 11) :: .int (nI 5) :: st) ph k n := by
  obtain ⟨p, l', e, R', s, m, args, below, meth, c, Q, nL'⟩ := x
  obtain ⟨rfl, rfl, rfl, hx, hb, hml, hown, hts, hG, hb0, hlk, htr, hr, hnm⟩ := hX
  obtain ⟨hd, rfl⟩ := hd
  intro H ls locs L f hP hD hk hS hl
  refine va_mna (X := []) (ty := .int) (N' := 5) (K' := 11) (z := (11, .inl (fun _ => 0))) hx hb hown (hts _ hw) hG.2.2.2.2.2.2.2.1 (hts _ hw2) hG.2.2.2.2.2.2.2.2.1 hG.1 (by simpa using hP) (by simpa using hD) hS (fun q h => Nat.le_trans hb0 h) (by decide) (by decide) (by decide) (by decide) (by decide) (by decide) (by decide) (by decide) (by decide) (by omega) (by omega) (fun c => rfl) hd (fun q r cA H1 hinj hfr hK1 hP1 hD1 hS1 => ?_)
  obtain rfl := e_newa_ty (i := 5) hK1 rfl (fun C h => by cases h)
  have hrL : ∀ a, a ∈ (List.range 5).map r → a ∉ L := fun a ha => by
    obtain ⟨i, hi, rfl⟩ := List.mem_map.mp ha
    exact hfr i (List.mem_range.mp hi)
  have hq : q ∉ L ++ (List.range 5).map r := fun h => by
    obtain ⟨j, hj⟩ := va_pl_get (X := []) (f := vr_up f ((List.range 5).map r) (.inl (θ.2.1 0, (11, .inl (fun _ => 0))))) h
    have := hD1.1 0 (j + 1) _ (q, vr_up f ((List.range 5).map r) (.inl (θ.2.1 0, (11, .inl (fun _ => 0)))) q) rfl (by simpa using hj) rfl
    omega
  have el : ∀ (c0 : va_E), ([] ++ [(q, c0)]) ++ va_pl (L ++ (List.range 5).map r) (vr_up f ((List.range 5).map r) (.inl (θ.2.1 0, (11, .inl (fun _ => 0))))) = va_pl (q :: (L ++ (List.range 5).map r)) (va_up (vr_up f ((List.range 5).map r) (.inl (θ.2.1 0, (11, .inl (fun _ => 0))))) q c0) := fun c0 => by
    unfold va_pl
    rw [List.map_cons, va_up_s]
    show (q, c0) :: _ = _
    congr 1
    refine List.map_congr_left (fun a ha => ?_)
    rw [va_up_n (fun e => hq (by rw [← e]; exact ha))]
  rw [el] at hP1 hD1
  have hqL : q ∉ L := fun h => hq (List.mem_append_left _ h)
  have hqr : ∀ i, i < 5 → q ≠ r i := fun i hi e => hq (List.mem_append_right _ (List.mem_map.mpr ⟨i, List.mem_range.mpr hi, e.symm⟩))
  refine kk q r (fun a => if a = q then some (e_II θ 5 (fun i => if i < 5 then some (r i) else none)) else if a ∈ (List.range 5).map r then some (e_I θ 11 (fun _ => 0)) else ph a) _ (hk.none hqL) (fun i hi => hk.none (hfr i hi)) (fun i hi j hj h => hinj i j hi hj h) (if_pos rfl) (fun i hi => if_pos hi) (fun i hi => ?_) (fun b c hb _ => ?_) H1 ls locs _ _ hP1 hD1 (mna_lk hk hq hrL) hS1 hl
  · show (if r i = q then _ else if r i ∈ (List.range 5).map r then _ else _) = _
    rw [if_neg (fun e => hqr i hi e.symm), if_pos (List.mem_map.mpr ⟨i, List.mem_range.mpr hi, rfl⟩)]
  · show (if b = q then _ else if b ∈ (List.range 5).map r then _ else _) = _
    rw [if_neg (fun e => by subst e; exact hqL (hk.mem hb).1), if_neg (fun e => hrL b e (hk.mem hb).1)]
    exact hb
end EMN
def s_new : SG := mkS 0 (fun _ _ => 0) (fun _ => 0) 0 (fun _ _ => 0) 0 (fun _ => (0, 0, 0, 0, false, false)) (-1, -1, -1, false) 0 0 3 (fun _ _ => 0)
section GCT
variable {l : Launch} {θ : e_T} {ph : e_PH} {g : Nat} {X : Nat → Prop}
theorem lst_new {p : e_PH} {a : Nat} {r : Nat → Nat} (h : p a = some (e_O 1 [.int 0, .ref θ.2.2.2.2, .int 0])) : lst θ p a θ.2.2.2.2 0 r := ⟨0, h, by decide, Or.inl ⟨rfl, rfl⟩⟩
theorem up_fr {p p2 : e_PH} {g : Nat} (hk : kept p p2 (fun a => a = g)) (hX : ∀ a, X a → p a ≠ none) (hg : ¬ X g) : kx p p2 X := fun a c ha hc => hk a c hc (fun e => by subst e; exact hg ha)
theorem m_init (htr : l.stackTraces = false) (h0 : ph g = some (e_O 0 [.null, .null, .null, .null, .null, .null, .null, .null, .int 0, .int 0, .int 0])) (hX0 : ∀ a, X a → ph a ≠ none) (hXg : ¬ X g) : MC yX11_init cX11_init 1 none 3 16 126 l θ [.ref g] ph (fun z p => z = none ∧ GP θ p g X s_new ∧ kx ph p X) (fun _ _ => False) := by
  refine MC.of htr (by decide) (Nat.le_of_ble_eq_true rfl) ?_
  intro x hX hQ hT
  refine e_aload_n hX 0 iX11_init_0 rfl rfl ?_
  refine e_obj hX iX11_init_1 mlRX11_1 w_objI w_objC ⟨by decide, Nat.le_of_ble_eq_true rfl⟩ ?_
  refine e_aload_n hX 0 iX11_init_4 rfl rfl ?_
  refine e_newo hX iX11_init_5 (by decide) (by decide) (fun q0 hq0 => ?_)
  refine e_dup hX iX11_init_8 rfl ?_
  refine e_callI hX iX11_init_9 (c_initList htr e_up_s) rfl rfl ⟨by decide, by decide, by decide, by decide⟩ (Nat.le_of_ble_eq_true rfl) (fun _ _ h => h.elim) (fun v9 ph9 hv9 => ?_)
  obtain ⟨rfl, e9⟩ := hv9
  have hk9 : kept ph ph9 (fun a => a = g) := by rw [e9]; exact (kept.refl.up2 (Or.inr hq0)).up2 (Or.inr hq0)
  have hqg0 : g ≠ q0 := e_ne h0 hq0
  have hg9 : ph9 g = some (e_O 0 [.null, .null, .null, .null, .null, .null, .null, .null, .int 0, .int 0, .int 0]) := by rw [e9]; exact e_up_o (e_up_o h0 hqg0) hqg0
  refine e_putF (fs' := [.ref q0, .null, .null, .null, .null, .null, .null, .null, .int 0, .int 0, .int 0]) hX rfl iX11_init_12 hg9 rfl (Nat.le_of_ble_eq_true rfl) rfl rfl ?_
  obtain ⟨p0, hp0⟩ : ∃ p, p = e_up ph9 g (e_O 0 [.ref q0, .null, .null, .null, .null, .null, .null, .null, .int 0, .int 0, .int 0]) := ⟨_, rfl⟩
  have hk0 : kept ph p0 (fun a => a = g) := by rw [hp0]; exact hk9.up2 (Or.inl rfl)
  have hG0 : p0 g = some (e_O 0 [.ref q0, .null, .null, .null, .null, .null, .null, .null, .int 0, .int 0, .int 0]) := by rw [hp0]; exact e_up_s
  have hc0 : p0 q0 = some (e_O 1 [.int 0, .ref θ.2.2.2.2, .int 0]) := by rw [hp0, e_up_n (fun e => hqg0 e.symm), e9]; exact e_up_s
  have hng_hc0 : q0 ≠ g := fun e => hqg0 e.symm
  have hXq0 : ¬ X q0 := fun h => hX0 _ h hq0
  have kx0 : kx ph p0 X := up_fr hk0 hX0 hXg
  have hX1 : ∀ a, X a → p0 a ≠ none := kx0.in hX0
  rw [← hp0]
  refine e_aload_n hX 0 iX11_init_15 rfl rfl ?_
  refine e_newo hX iX11_init_16 (by decide) (by decide) (fun q1 hq1 => ?_)
  refine e_dup hX iX11_init_19 rfl ?_
  refine e_callI hX iX11_init_20 (c_initList htr e_up_s) rfl rfl ⟨by decide, by decide, by decide, by decide⟩ (Nat.le_of_ble_eq_true rfl) (fun _ _ h => h.elim) (fun v9 ph9 hv9 => ?_)
  obtain ⟨rfl, e9⟩ := hv9
  have hk9 : kept p0 ph9 (fun a => a = g) := by rw [e9]; exact (kept.refl.up2 (Or.inr hq1)).up2 (Or.inr hq1)
  have hqg1 : g ≠ q1 := e_ne hG0 hq1
  have hg9 : ph9 g = some (e_O 0 [.ref q0, .null, .null, .null, .null, .null, .null, .null, .int 0, .int 0, .int 0]) := by rw [e9]; exact e_up_o (e_up_o hG0 hqg1) hqg1
  refine e_putF (fs' := [.ref q0, .ref q1, .null, .null, .null, .null, .null, .null, .int 0, .int 0, .int 0]) hX rfl iX11_init_23 hg9 rfl (Nat.le_of_ble_eq_true rfl) rfl rfl ?_
  obtain ⟨p1, hp1⟩ : ∃ p, p = e_up ph9 g (e_O 0 [.ref q0, .ref q1, .null, .null, .null, .null, .null, .null, .int 0, .int 0, .int 0]) := ⟨_, rfl⟩
  have hk1 : kept p0 p1 (fun a => a = g) := by rw [hp1]; exact hk9.up2 (Or.inl rfl)
  have hG1 : p1 g = some (e_O 0 [.ref q0, .ref q1, .null, .null, .null, .null, .null, .null, .int 0, .int 0, .int 0]) := by rw [hp1]; exact e_up_s
  have hc1 : p1 q1 = some (e_O 1 [.int 0, .ref θ.2.2.2.2, .int 0]) := by rw [hp1, e_up_n (fun e => hqg1 e.symm), e9]; exact e_up_s
  have nhc0_1 : q0 ≠ q1 := e_ne hc0 hq1
  replace hc0 := hk1 _ _ hc0 (fun e => hng_hc0 e)
  have hng_hc1 : q1 ≠ g := fun e => hqg1 e.symm
  have hXq1 : ¬ X q1 := fun h => hX1 _ h hq1
  have kx1 : kx p0 p1 X := up_fr hk1 hX1 hXg
  have hX2 : ∀ a, X a → p1 a ≠ none := kx1.in hX1
  rw [← hp1]
  refine e_aload_n hX 0 iX11_init_26 rfl rfl ?_
  refine e_newo hX iX11_init_27 (by decide) (by decide) (fun q2 hq2 => ?_)
  refine e_dup hX iX11_init_30 rfl ?_
  refine e_callI hX iX11_init_31 (c_initList htr e_up_s) rfl rfl ⟨by decide, by decide, by decide, by decide⟩ (Nat.le_of_ble_eq_true rfl) (fun _ _ h => h.elim) (fun v9 ph9 hv9 => ?_)
  obtain ⟨rfl, e9⟩ := hv9
  have hk9 : kept p1 ph9 (fun a => a = g) := by rw [e9]; exact (kept.refl.up2 (Or.inr hq2)).up2 (Or.inr hq2)
  have hqg2 : g ≠ q2 := e_ne hG1 hq2
  have hg9 : ph9 g = some (e_O 0 [.ref q0, .ref q1, .null, .null, .null, .null, .null, .null, .int 0, .int 0, .int 0]) := by rw [e9]; exact e_up_o (e_up_o hG1 hqg2) hqg2
  refine e_putF (fs' := [.ref q0, .ref q1, .ref q2, .null, .null, .null, .null, .null, .int 0, .int 0, .int 0]) hX rfl iX11_init_34 hg9 rfl (Nat.le_of_ble_eq_true rfl) rfl rfl ?_
  obtain ⟨p2, hp2⟩ : ∃ p, p = e_up ph9 g (e_O 0 [.ref q0, .ref q1, .ref q2, .null, .null, .null, .null, .null, .int 0, .int 0, .int 0]) := ⟨_, rfl⟩
  have hk2 : kept p1 p2 (fun a => a = g) := by rw [hp2]; exact hk9.up2 (Or.inl rfl)
  have hG2 : p2 g = some (e_O 0 [.ref q0, .ref q1, .ref q2, .null, .null, .null, .null, .null, .int 0, .int 0, .int 0]) := by rw [hp2]; exact e_up_s
  have hc2 : p2 q2 = some (e_O 1 [.int 0, .ref θ.2.2.2.2, .int 0]) := by rw [hp2, e_up_n (fun e => hqg2 e.symm), e9]; exact e_up_s
  have nhc0_2 : q0 ≠ q2 := e_ne hc0 hq2
  replace hc0 := hk2 _ _ hc0 (fun e => hng_hc0 e)
  have nhc1_2 : q1 ≠ q2 := e_ne hc1 hq2
  replace hc1 := hk2 _ _ hc1 (fun e => hng_hc1 e)
  have hng_hc2 : q2 ≠ g := fun e => hqg2 e.symm
  have hXq2 : ¬ X q2 := fun h => hX2 _ h hq2
  have kx2 : kx p1 p2 X := up_fr hk2 hX2 hXg
  have hX3 : ∀ a, X a → p2 a ≠ none := kx2.in hX2
  rw [← hp2]
  refine e_aload_n hX 0 iX11_init_37 rfl rfl ?_
  refine e_newo hX iX11_init_38 (by decide) (by decide) (fun q3 hq3 => ?_)
  refine e_dup hX iX11_init_41 rfl ?_
  refine e_callI hX iX11_init_42 (c_initRej htr e_up_s) rfl rfl ⟨by decide, by decide, by decide, by decide⟩ (Nat.le_of_ble_eq_true rfl) (fun _ _ h => h.elim) (fun v9 ph9 hv9 => ?_)
  obtain ⟨rfl, e9⟩ := hv9
  have hk9 : kept p2 ph9 (fun a => a = g) := by rw [e9]; exact (kept.refl.up2 (Or.inr hq3)).up2 (Or.inr hq3)
  have hqg3 : g ≠ q3 := e_ne hG2 hq3
  have hg9 : ph9 g = some (e_O 0 [.ref q0, .ref q1, .ref q2, .null, .null, .null, .null, .null, .int 0, .int 0, .int 0]) := by rw [e9]; exact e_up_o (e_up_o hG2 hqg3) hqg3
  refine e_putF (fs' := [.ref q0, .ref q1, .ref q2, .ref q3, .null, .null, .null, .null, .int 0, .int 0, .int 0]) hX rfl iX11_init_45 hg9 rfl (Nat.le_of_ble_eq_true rfl) rfl rfl ?_
  obtain ⟨p3, hp3⟩ : ∃ p, p = e_up ph9 g (e_O 0 [.ref q0, .ref q1, .ref q2, .ref q3, .null, .null, .null, .null, .int 0, .int 0, .int 0]) := ⟨_, rfl⟩
  have hk3 : kept p2 p3 (fun a => a = g) := by rw [hp3]; exact hk9.up2 (Or.inl rfl)
  have hG3 : p3 g = some (e_O 0 [.ref q0, .ref q1, .ref q2, .ref q3, .null, .null, .null, .null, .int 0, .int 0, .int 0]) := by rw [hp3]; exact e_up_s
  have hc3 : p3 q3 = some (e_O 6 [.int (-1), .int (-1), .int (-1), .int 0]) := by rw [hp3, e_up_n (fun e => hqg3 e.symm), e9]; exact e_up_s
  have nhc0_3 : q0 ≠ q3 := e_ne hc0 hq3
  replace hc0 := hk3 _ _ hc0 (fun e => hng_hc0 e)
  have nhc1_3 : q1 ≠ q3 := e_ne hc1 hq3
  replace hc1 := hk3 _ _ hc1 (fun e => hng_hc1 e)
  have nhc2_3 : q2 ≠ q3 := e_ne hc2 hq3
  replace hc2 := hk3 _ _ hc2 (fun e => hng_hc2 e)
  have hng_hc3 : q3 ≠ g := fun e => hqg3 e.symm
  have hXq3 : ¬ X q3 := fun h => hX3 _ h hq3
  have kx3 : kx p2 p3 X := up_fr hk3 hX3 hXg
  have hX4 : ∀ a, X a → p3 a ≠ none := kx3.in hX3
  rw [← hp3]
  refine e_aload_n hX 0 iX11_init_48 rfl rfl ?_
  refine e_newo hX iX11_init_49 (by decide) (by decide) (fun q4 hq4 => ?_)
  refine e_dup hX iX11_init_52 rfl ?_
  refine e_callI hX iX11_init_53 (c_initConf htr e_up_s) rfl rfl ⟨by decide, by decide, by decide, by decide⟩ (Nat.le_of_ble_eq_true rfl) (fun _ _ h => h.elim) (fun v9 ph9 hv9 => ?_)
  obtain ⟨rfl, a4, ha4, e9⟩ := hv9
  have hqa4 : q4 ≠ a4 := fun e => by subst e; rw [e_up_s] at ha4; cases ha4
  have han4 : p3 a4 = none := by rw [e_up_n (fun e => hqa4 e.symm)] at ha4; exact ha4
  have hk9 : kept p3 ph9 (fun a => a = g) := by rw [e9]; exact ((kept.refl.up2 (Or.inr hq4)).up2 (Or.inr han4)).up2 (Or.inr hq4)
  have hqg4 : g ≠ q4 := e_ne hG3 hq4
  have hag4 : g ≠ a4 := e_ne hG3 han4
  have hg9 : ph9 g = some (e_O 0 [.ref q0, .ref q1, .ref q2, .ref q3, .null, .null, .null, .null, .int 0, .int 0, .int 0]) := by rw [e9]; exact e_up_o (e_up_o (e_up_o hG3 hqg4) hag4) hqg4
  refine e_putF (fs' := [.ref q0, .ref q1, .ref q2, .ref q3, .ref q4, .null, .null, .null, .int 0, .int 0, .int 0]) hX rfl iX11_init_56 hg9 rfl (Nat.le_of_ble_eq_true rfl) rfl rfl ?_
  obtain ⟨p4, hp4⟩ : ∃ p, p = e_up ph9 g (e_O 0 [.ref q0, .ref q1, .ref q2, .ref q3, .ref q4, .null, .null, .null, .int 0, .int 0, .int 0]) := ⟨_, rfl⟩
  have hk4 : kept p3 p4 (fun a => a = g) := by rw [hp4]; exact hk9.up2 (Or.inl rfl)
  have hG4 : p4 g = some (e_O 0 [.ref q0, .ref q1, .ref q2, .ref q3, .ref q4, .null, .null, .null, .int 0, .int 0, .int 0]) := by rw [hp4]; exact e_up_s
  have hc4 : p4 q4 = some (e_O 3 [.ref a4, .int 0, .int 0]) := by rw [hp4, e_up_n (fun e => hqg4 e.symm), e9]; exact e_up_s
  have hb4 : p4 a4 = some (e_I θ 12 (fun _ => 0)) := by rw [hp4, e_up_n (fun e => hag4 e.symm), e9]; exact e_up_o e_up_s (fun e => hqa4 e.symm)
  have nhc0_4 : q0 ≠ q4 := e_ne hc0 hq4
  have mhc0_4 : q0 ≠ a4 := e_ne hc0 han4
  replace hc0 := hk4 _ _ hc0 (fun e => hng_hc0 e)
  have nhc1_4 : q1 ≠ q4 := e_ne hc1 hq4
  have mhc1_4 : q1 ≠ a4 := e_ne hc1 han4
  replace hc1 := hk4 _ _ hc1 (fun e => hng_hc1 e)
  have nhc2_4 : q2 ≠ q4 := e_ne hc2 hq4
  have mhc2_4 : q2 ≠ a4 := e_ne hc2 han4
  replace hc2 := hk4 _ _ hc2 (fun e => hng_hc2 e)
  have nhc3_4 : q3 ≠ q4 := e_ne hc3 hq4
  have mhc3_4 : q3 ≠ a4 := e_ne hc3 han4
  replace hc3 := hk4 _ _ hc3 (fun e => hng_hc3 e)
  have hng_hc4 : q4 ≠ g := fun e => hqg4 e.symm
  have hng_hb4 : a4 ≠ g := fun e => hag4 e.symm
  have hXq4 : ¬ X q4 := fun h => hX4 _ h hq4
  have hXa4 : ¬ X a4 := fun h => hX4 _ h han4
  have kx4 : kx p3 p4 X := up_fr hk4 hX4 hXg
  have hX5 : ∀ a, X a → p4 a ≠ none := kx4.in hX4
  rw [← hp4]
  refine e_aload_n hX 0 iX11_init_59 rfl rfl ?_
  refine e_newo hX iX11_init_60 (by decide) (by decide) (fun q5 hq5 => ?_)
  refine e_dup hX iX11_init_63 rfl ?_
  refine e_callI hX iX11_init_64 (c_initPart htr e_up_s) rfl rfl ⟨by decide, by decide, by decide, by decide⟩ (Nat.le_of_ble_eq_true rfl) (fun _ _ h => h.elim) (fun v9 ph9 hv9 => ?_)
  obtain ⟨rfl, a5, ha5, e9⟩ := hv9
  have hqa5 : q5 ≠ a5 := fun e => by subst e; rw [e_up_s] at ha5; cases ha5
  have han5 : p4 a5 = none := by rw [e_up_n (fun e => hqa5 e.symm)] at ha5; exact ha5
  have hk9 : kept p4 ph9 (fun a => a = g) := by rw [e9]; exact ((kept.refl.up2 (Or.inr hq5)).up2 (Or.inr han5)).up2 (Or.inr hq5)
  have hqg5 : g ≠ q5 := e_ne hG4 hq5
  have hag5 : g ≠ a5 := e_ne hG4 han5
  have hg9 : ph9 g = some (e_O 0 [.ref q0, .ref q1, .ref q2, .ref q3, .ref q4, .null, .null, .null, .int 0, .int 0, .int 0]) := by rw [e9]; exact e_up_o (e_up_o (e_up_o hG4 hqg5) hag5) hqg5
  refine e_putF (fs' := [.ref q0, .ref q1, .ref q2, .ref q3, .ref q4, .ref q5, .null, .null, .int 0, .int 0, .int 0]) hX rfl iX11_init_67 hg9 rfl (Nat.le_of_ble_eq_true rfl) rfl rfl ?_
  obtain ⟨p5, hp5⟩ : ∃ p, p = e_up ph9 g (e_O 0 [.ref q0, .ref q1, .ref q2, .ref q3, .ref q4, .ref q5, .null, .null, .int 0, .int 0, .int 0]) := ⟨_, rfl⟩
  have hk5 : kept p4 p5 (fun a => a = g) := by rw [hp5]; exact hk9.up2 (Or.inl rfl)
  have hG5 : p5 g = some (e_O 0 [.ref q0, .ref q1, .ref q2, .ref q3, .ref q4, .ref q5, .null, .null, .int 0, .int 0, .int 0]) := by rw [hp5]; exact e_up_s
  have hc5 : p5 q5 = some (e_O 4 [.ref a5, .int 0]) := by rw [hp5, e_up_n (fun e => hqg5 e.symm), e9]; exact e_up_s
  have hb5 : p5 a5 = some (e_I θ 12 (fun _ => 0)) := by rw [hp5, e_up_n (fun e => hag5 e.symm), e9]; exact e_up_o e_up_s (fun e => hqa5 e.symm)
  have nhc0_5 : q0 ≠ q5 := e_ne hc0 hq5
  have mhc0_5 : q0 ≠ a5 := e_ne hc0 han5
  replace hc0 := hk5 _ _ hc0 (fun e => hng_hc0 e)
  have nhc1_5 : q1 ≠ q5 := e_ne hc1 hq5
  have mhc1_5 : q1 ≠ a5 := e_ne hc1 han5
  replace hc1 := hk5 _ _ hc1 (fun e => hng_hc1 e)
  have nhc2_5 : q2 ≠ q5 := e_ne hc2 hq5
  have mhc2_5 : q2 ≠ a5 := e_ne hc2 han5
  replace hc2 := hk5 _ _ hc2 (fun e => hng_hc2 e)
  have nhc3_5 : q3 ≠ q5 := e_ne hc3 hq5
  have mhc3_5 : q3 ≠ a5 := e_ne hc3 han5
  replace hc3 := hk5 _ _ hc3 (fun e => hng_hc3 e)
  have nhc4_5 : q4 ≠ q5 := e_ne hc4 hq5
  have mhc4_5 : q4 ≠ a5 := e_ne hc4 han5
  replace hc4 := hk5 _ _ hc4 (fun e => hng_hc4 e)
  have nhb4_5 : a4 ≠ q5 := e_ne hb4 hq5
  have mhb4_5 : a4 ≠ a5 := e_ne hb4 han5
  replace hb4 := hk5 _ _ hb4 (fun e => hng_hb4 e)
  have hng_hc5 : q5 ≠ g := fun e => hqg5 e.symm
  have hng_hb5 : a5 ≠ g := fun e => hag5 e.symm
  have hXq5 : ¬ X q5 := fun h => hX5 _ h hq5
  have hXa5 : ¬ X a5 := fun h => hX5 _ h han5
  have kx5 : kx p4 p5 X := up_fr hk5 hX5 hXg
  have hX6 : ∀ a, X a → p5 a ≠ none := kx5.in hX5
  rw [← hp5]
  refine e_aload_n hX 0 iX11_init_70 rfl rfl ?_
  refine e_newo hX iX11_init_71 (by decide) (by decide) (fun q6 hq6 => ?_)
  refine e_dup hX iX11_init_74 rfl ?_
  refine e_callI hX iX11_init_75 (c_initNums htr e_up_s) rfl rfl ⟨by decide, by decide, by decide, by decide⟩ (Nat.le_of_ble_eq_true rfl) (fun _ _ h => h.elim) (fun v9 ph9 hv9 => ?_)
  obtain ⟨rfl, a6, ha6, e9⟩ := hv9
  have hqa6 : q6 ≠ a6 := fun e => by subst e; rw [e_up_s] at ha6; cases ha6
  have han6 : p5 a6 = none := by rw [e_up_n (fun e => hqa6 e.symm)] at ha6; exact ha6
  have hk9 : kept p5 ph9 (fun a => a = g) := by rw [e9]; exact ((kept.refl.up2 (Or.inr hq6)).up2 (Or.inr han6)).up2 (Or.inr hq6)
  have hqg6 : g ≠ q6 := e_ne hG5 hq6
  have hag6 : g ≠ a6 := e_ne hG5 han6
  have hg9 : ph9 g = some (e_O 0 [.ref q0, .ref q1, .ref q2, .ref q3, .ref q4, .ref q5, .null, .null, .int 0, .int 0, .int 0]) := by rw [e9]; exact e_up_o (e_up_o (e_up_o hG5 hqg6) hag6) hqg6
  refine e_putF (fs' := [.ref q0, .ref q1, .ref q2, .ref q3, .ref q4, .ref q5, .ref q6, .null, .int 0, .int 0, .int 0]) hX rfl iX11_init_78 hg9 rfl (Nat.le_of_ble_eq_true rfl) rfl rfl ?_
  obtain ⟨p6, hp6⟩ : ∃ p, p = e_up ph9 g (e_O 0 [.ref q0, .ref q1, .ref q2, .ref q3, .ref q4, .ref q5, .ref q6, .null, .int 0, .int 0, .int 0]) := ⟨_, rfl⟩
  have hk6 : kept p5 p6 (fun a => a = g) := by rw [hp6]; exact hk9.up2 (Or.inl rfl)
  have hG6 : p6 g = some (e_O 0 [.ref q0, .ref q1, .ref q2, .ref q3, .ref q4, .ref q5, .ref q6, .null, .int 0, .int 0, .int 0]) := by rw [hp6]; exact e_up_s
  have hc6 : p6 q6 = some (e_O 5 [.ref a6, .int 0]) := by rw [hp6, e_up_n (fun e => hqg6 e.symm), e9]; exact e_up_s
  have hb6 : p6 a6 = some (e_I θ 12 (fun _ => 0)) := by rw [hp6, e_up_n (fun e => hag6 e.symm), e9]; exact e_up_o e_up_s (fun e => hqa6 e.symm)
  have nhc0_6 : q0 ≠ q6 := e_ne hc0 hq6
  have mhc0_6 : q0 ≠ a6 := e_ne hc0 han6
  replace hc0 := hk6 _ _ hc0 (fun e => hng_hc0 e)
  have nhc1_6 : q1 ≠ q6 := e_ne hc1 hq6
  have mhc1_6 : q1 ≠ a6 := e_ne hc1 han6
  replace hc1 := hk6 _ _ hc1 (fun e => hng_hc1 e)
  have nhc2_6 : q2 ≠ q6 := e_ne hc2 hq6
  have mhc2_6 : q2 ≠ a6 := e_ne hc2 han6
  replace hc2 := hk6 _ _ hc2 (fun e => hng_hc2 e)
  have nhc3_6 : q3 ≠ q6 := e_ne hc3 hq6
  have mhc3_6 : q3 ≠ a6 := e_ne hc3 han6
  replace hc3 := hk6 _ _ hc3 (fun e => hng_hc3 e)
  have nhc4_6 : q4 ≠ q6 := e_ne hc4 hq6
  have mhc4_6 : q4 ≠ a6 := e_ne hc4 han6
  replace hc4 := hk6 _ _ hc4 (fun e => hng_hc4 e)
  have nhb4_6 : a4 ≠ q6 := e_ne hb4 hq6
  have mhb4_6 : a4 ≠ a6 := e_ne hb4 han6
  replace hb4 := hk6 _ _ hb4 (fun e => hng_hb4 e)
  have nhc5_6 : q5 ≠ q6 := e_ne hc5 hq6
  have mhc5_6 : q5 ≠ a6 := e_ne hc5 han6
  replace hc5 := hk6 _ _ hc5 (fun e => hng_hc5 e)
  have nhb5_6 : a5 ≠ q6 := e_ne hb5 hq6
  have mhb5_6 : a5 ≠ a6 := e_ne hb5 han6
  replace hb5 := hk6 _ _ hb5 (fun e => hng_hb5 e)
  have hng_hc6 : q6 ≠ g := fun e => hqg6 e.symm
  have hng_hb6 : a6 ≠ g := fun e => hag6 e.symm
  have hXq6 : ¬ X q6 := fun h => hX6 _ h hq6
  have hXa6 : ¬ X a6 := fun h => hX6 _ h han6
  have kx6 : kx p5 p6 X := up_fr hk6 hX6 hXg
  have hX7 : ∀ a, X a → p6 a ≠ none := kx6.in hX6
  rw [← hp6]
  refine e_aload_n hX 0 iX11_init_81 rfl rfl ?_
  refine e_iconst (v := 5) hX iX11_init_82 (by decide) ?_
  refine e_bipush (v := 11) hX iX11_init_83 (by decide) ?_
  rw [show (11 : Int32) = nI 11 from rfl, show (5 : Int32) = nI 5 from rfl]
  refine e_mna hX iX11_init_85 (by have h := klRX11_50; rw [show ("[" ++ (FieldType.array FieldType.int).toString) = "[[I" from by decide]; exact h) ac_int (by decide) (by decide) (fun q7 rr p7 fI hq7 hrr hinj hc7 hfI hb7 hk7 => ?_)
  have hqg7 : g ≠ q7 := e_ne hG6 hq7
  have hrg : ∀ i, i < 5 → g ≠ rr i := fun i hi => e_ne hG6 (hrr i hi)
  have hG7 := hk7 _ _ hG6 id
  replace hc0 := hk7 _ _ hc0 id
  replace hc1 := hk7 _ _ hc1 id
  replace hc2 := hk7 _ _ hc2 id
  replace hc3 := hk7 _ _ hc3 id
  replace hc4 := hk7 _ _ hc4 id
  replace hb4 := hk7 _ _ hb4 id
  replace hc5 := hk7 _ _ hc5 id
  replace hb5 := hk7 _ _ hb5 id
  replace hc6 := hk7 _ _ hc6 id
  replace hb6 := hk7 _ _ hb6 id
  have hXq7 : ¬ X q7 := fun h => hX7 _ h hq7
  have hXr : ∀ i, i < 5 → ¬ X (rr i) := fun i hi h => hX7 _ h (hrr i hi)
  have kx7 : kx p6 p7 X := fun a c _ hc => hk7 a c hc id
  refine e_putF hX rfl iX11_init_89 hG7 rfl (Nat.le_of_ble_eq_true rfl) rfl rfl ?_
  refine e_aload_n hX 0 iX11_init_92 rfl rfl ?_
  refine e_iconst (v := 3) hX iX11_init_93 (by decide) ?_
  refine e_put hX iX11_init_94 e_up_s rfl (Nat.le_of_ble_eq_true rfl) rfl rfl ?_
  rw [e_up_up]
  refine e_noE hX (fun hE => ?_)
  obtain ⟨κ, hκ⟩ : ∃ κ : Nat → Nat, κ = (fun i => if i = 0 then q0 else if i = 1 then q1 else if i = 2 then q2 else if i = 3 then q3 else if i = 4 then q4 else if i = 5 then a4 else if i = 6 then q5 else if i = 7 then a5 else if i = 8 then q6 else if i = 9 then a6 else if i = 10 then q7 else rr (i - 11)) := ⟨_, rfl⟩
  have z0 : κ 0 = q0 := by rw [hκ]; rfl
  have z1 : κ 1 = q1 := by rw [hκ]; rfl
  have z2 : κ 2 = q2 := by rw [hκ]; rfl
  have z3 : κ 3 = q3 := by rw [hκ]; rfl
  have z4 : κ 4 = q4 := by rw [hκ]; rfl
  have z5 : κ 5 = a4 := by rw [hκ]; rfl
  have z6 : κ 6 = q5 := by rw [hκ]; rfl
  have z7 : κ 7 = a5 := by rw [hκ]; rfl
  have z8 : κ 8 = q6 := by rw [hκ]; rfl
  have z9 : κ 9 = a6 := by rw [hκ]; rfl
  have z10 : κ 10 = q7 := by rw [hκ]; rfl
  have z11 : ∀ j, j < 5 → κ (11 + j) = rr j := fun j hj => by
    rw [hκ]
    match j, hj with
    | 0, _ => rfl
    | 1, _ => rfl
    | 2, _ => rfl
    | 3, _ => rfl
    | 4, _ => rfl
  generalize hP : e_up p7 g _ = P
  have hP' : P = e_up p7 g (gobj κ s_new) := by
    rw [← hP]
    show _ = e_up p7 g (e_O 0 [.ref (κ 0), .ref (κ 1), .ref (κ 2), .ref (κ 3), .ref (κ 4), .ref (κ 6), .ref (κ 8), .ref (κ 10), .int (nI 0), .int 0, .int 3])
    rw [z0, z1, z2, z3, z4, z6, z8, z10]
    rfl
  have hkP : kept p7 P (fun a => a = g) := by rw [hP']; exact kept.refl.up2 (Or.inl rfl)
  replace hc0 := hkP _ _ hc0 (fun e => hng_hc0 e)
  replace hc1 := hkP _ _ hc1 (fun e => hng_hc1 e)
  replace hc2 := hkP _ _ hc2 (fun e => hng_hc2 e)
  replace hc3 := hkP _ _ hc3 (fun e => hng_hc3 e)
  replace hc4 := hkP _ _ hc4 (fun e => hng_hc4 e)
  replace hb4 := hkP _ _ hb4 (fun e => hng_hb4 e)
  replace hc5 := hkP _ _ hc5 (fun e => hng_hc5 e)
  replace hb5 := hkP _ _ hb5 (fun e => hng_hb5 e)
  replace hc6 := hkP _ _ hc6 (fun e => hng_hc6 e)
  replace hb6 := hkP _ _ hb6 (fun e => hng_hb6 e)
  have hc7' := hkP _ _ hc7 (fun e => hqg7 e.symm)
  have hb7' : ∀ i, i < 5 → P (rr i) = some (e_I θ 11 (fun _ => 0)) := fun i hi => hkP _ _ (hb7 i hi) (fun e => hrg i hi e.symm)
  have kxP : kx p7 P X := up_fr hkP (kx7.in hX7) hXg
  have kxA : kx ph P X := kx0.trans (kx1.trans (kx2.trans (kx3.trans (kx4.trans (kx5.trans (kx6.trans (kx7.trans kxP)))))))
  have hPE : P θ.2.2.2.2 = none := by rw [← hP]; exact hE
  have hXE : ¬ X θ.2.2.2.2 := fun h => (kxA.in hX0) _ h hPE
  have hE10 : θ.2.2.2.2 ≠ κ 10 := fun e => by rw [e, z10, hc7'] at hPE; cases hPE
  have hXκ : ∀ i, i < 16 → ¬ X (κ i) := fun i hi => by
    by_cases h : 11 ≤ i
    · obtain ⟨j, rfl⟩ : ∃ j, i = 11 + j := ⟨i - 11, by omega⟩
      rw [z11 j (by omega)]
      exact hXr j (by omega)
    · have hi' : i < 11 := by omega
      match i, hi' with
      | 0, _ => rw [z0]; exact hXq0
      | 1, _ => rw [z1]; exact hXq1
      | 2, _ => rw [z2]; exact hXq2
      | 3, _ => rw [z3]; exact hXq3
      | 4, _ => rw [z4]; exact hXq4
      | 5, _ => rw [z5]; exact hXa4
      | 6, _ => rw [z6]; exact hXq5
      | 7, _ => rw [z7]; exact hXa5
      | 8, _ => rw [z8]; exact hXq6
      | 9, _ => rw [z9]; exact hXa6
      | 10, _ => rw [z10]; exact hXq7
  have hGI : GI θ P g X s_new κ θ.2.2.2.2 θ.2.2.2.2 θ.2.2.2.2 (fun _ => 0) (fun _ => 0) (fun _ => 0) (fun _ => 0) (fun _ => 0) := GI.mk (σ := s_new)
    ⟨by rw [hP']; exact e_up_s, fun i hi => absurd hi (Nat.not_lt_zero i), fun i hi => absurd hi (Nat.not_lt_zero i), fun i hi => absurd hi (Nat.not_lt_zero i), by rw [z3]; exact hc3, ⟨⟨0, 0, _, by rw [z4, z5]; exact hc4, by rw [z5]; exact hb4⟩, ⟨0, _, by rw [z6, z7]; exact hc5, by rw [z7]; exact hb5⟩, 0, _, by rw [z8, z9]; exact hc6, by rw [z9]; exact hb6⟩, ⟨⟨fI, by rw [z10]; exact hc7', fun j hj => by rw [z11 j hj]; exact hfI j hj⟩, fun j hj => by rw [z11 j hj]; exact hb7' j hj⟩⟩
    (lst_new (by rw [z0]; exact hc0)) (lst_new (by rw [z1]; exact hc1)) (lst_new (by rw [z2]; exact hc2))
    ⟨⟨by rw [z0, z1]; exact nhc0_1, by rw [z0, z2]; exact nhc0_2, by rw [z1, z2]; exact nhc1_2⟩, ⟨fun _ => rfl, fun _ => rfl, fun _ => rfl⟩, ⟨hE10, hE10, hE10⟩, ⟨by rw [z5, z7]; exact mhb4_5, by rw [z5, z9]; exact mhb4_6, by rw [z7, z9]; exact mhb5_6⟩, fun i hi j hj h => by rw [z11 i hi, z11 j hj] at h; exact hinj i hi j hj h, fun i hi => absurd hi (Nat.not_lt_zero i), fun i hi => absurd hi (Nat.not_lt_zero i), fun i hi => absurd hi (Nat.not_lt_zero i), fun i hi => absurd hi (Nat.not_lt_zero i)⟩
    ⟨Nat.zero_le _, Nat.zero_le _, Nat.zero_le _, Nat.zero_le _, fun i hi => absurd hi (Nat.not_lt_zero i), fun i hi => absurd hi (Nat.not_lt_zero i), fun j _ b _ => ⟨0, by decide, rfl⟩, fun _ => rfl⟩
    ⟨kxA.in hX0, hXg, hXκ, ⟨hXE, hXE, hXE⟩, fun i hi => absurd hi (Nat.not_lt_zero i), fun i hi => absurd hi (Nat.not_lt_zero i), fun i hi => absurd hi (Nat.not_lt_zero i)⟩
  exact e_vret hX hQ iX11_init_97 rfl (by decide) (by decide) ⟨rfl, hGI.gp, kxA⟩
end GCT
