section GM
variable {θ : e_T} {ph : e_PH} {g : Nat} {X : Nat → Prop} {σ : SG} {κ : Nat → Nat} {te be ue : Nat} {r wr b wb u : Nat → Nat}
theorem c_median {l : Launch} (htr : l.stackTraces = false) (hg : GI θ ph g X σ κ te be ue r wr b wb u) {c : Nat} (hc : c < 5) : MC yX11_columnMedian cX11_columnMedian 4 (some .int) 3 0 0 l θ [.ref g, .int (nI c)] ph (fun z p => z = some (.int (medN σ c)) ∧ GI θ p g X σ κ te be ue r wr b wb u ∧ kx ph p X) (fun _ _ => False) := by
  have hn := hg.2.2.2.2.2.2.2.2.1.1
  refine MC.of htr (by decide) (Nat.le_of_ble_eq_true rfl) ?_
  intro x hX hQ hT
  obtain ⟨-, -, a3, f3, j1, j2⟩ := hg.2.2.2.2.2.1
  have hba : κ 8 ≠ κ 9 := e_ne2 j1 j2 (fun e => e_IO e.symm)
  let P : Nat → Bool := fun i => pres (gV σ i c)
  let y : Nat → Int32 := fun i => gV σ i c
  have loop : ∀ (q i : Nat) (p : e_PH), gN σ - i < q → i ≤ gN σ → p (κ 8) = some (e_O 5 [.ref (κ 9), .int (nI (srtG f3 P y i).1)]) → p (κ 9) = some (e_I θ 12 (srtG f3 P y i).2) → kept ph p (prS (κ 8) (κ 9)) → EJ θ x 9 [(0, .ref g), (1, .int (nI c)), (2, .int (nI i))] [] p 0 0 := by
    intro q
    induction q with
    | zero => intro i p hg; omega
    | succ q ih =>
      intro i p hq hi k1 k2 k3
      obtain ⟨hg2, hx⟩ := hg.nums k3 k1 k2
      obtain ⟨gO, ⟨gT, gTr⟩, -⟩ := hg2
      have hle := srtG_le (f0 := f3) (P := P) (y := y) i
      refine e_iload_n hX 2 iX11_columnMedian_9 rfl rfl ?_
      refine e_aload_n hX 0 iX11_columnMedian_10 rfl rfl ?_
      refine e_get hX iX11_columnMedian_11 gO rfl ?_
      refine e_callV hX iX11_columnMedian_14 (lst.hp gT) (c_size htr gT) rfl rfl ⟨by decide, by decide, by decide, by decide⟩ (Nat.le_of_ble_eq_true rfl) (fun _ _ h => h.elim) (fun v9 ph9 hv9 => ?_)
      obtain ⟨rfl, e9⟩ := hv9
      subst ph9
      refine e_icmp_ge hX iX11_columnMedian_17 (fun c17 => ?_) (fun c17 => ?_)
      · have hin := nI_same hi (by omega) c17
        subst hin
        refine e_aload_n hX 0 iX11_columnMedian_58 rfl rfl ?_
        refine e_get hX iX11_columnMedian_59 gO rfl ?_
        refine e_callV hX iX11_columnMedian_62 k1 (c_nmiddle htr k1 k2 (by omega)) rfl rfl ⟨by decide, by decide, by decide, by decide⟩ (Nat.le_of_ble_eq_true rfl) (fun _ _ h => h.elim) (fun v9 ph9 hv9 => ?_)
        obtain ⟨rfl, e9⟩ := hv9
        subst ph9
        exact e_iret hX hQ iX11_columnMedian_65 rfl (by decide) (by decide) ⟨by rw [medG_any]; rfl, hg.nums k3 k1 k2⟩
      · have hin := nI_less hi (by omega) c17
        have next : ∀ p2, p2 (κ 8) = some (e_O 5 [.ref (κ 9), .int (nI (srtG f3 P y (i + 1)).1)]) → p2 (κ 9) = some (e_I θ 12 (srtG f3 P y (i + 1)).2) → kept ph p2 (prS (κ 8) (κ 9)) → EJ θ x 52 [(0, .ref g), (1, .int (nI c)), (2, .int (nI i))] [] p2 0 0 := by
          intro p2 h1 h2 h3
          refine e_iinc hX iX11_columnMedian_52 rfl (by first | exact nI_inc _ | rfl) (by decide) ?_
          refine e_goto hX iX11_columnMedian_55 ?_
          refine e_loc [0, 1, 2] ?_
          exact ih (i + 1) p2 (by omega) (by omega) h1 h2 h3
        refine e_aload_n hX 0 iX11_columnMedian_20 rfl rfl ?_
        refine e_get hX iX11_columnMedian_21 gO rfl ?_
        refine e_iload_n hX 2 iX11_columnMedian_24 rfl rfl ?_
        refine e_callV hX iX11_columnMedian_25 (lst.hp gT) (c_lget (i := i) htr gT hin) rfl rfl ⟨by decide, by decide, by decide, by decide⟩ (Nat.le_of_ble_eq_true rfl) (fun _ _ h => h.elim) (fun v9 ph9 hv9 => ?_)
        obtain ⟨rfl, e9⟩ := hv9
        subst ph9
        refine e_castS hX iX11_columnMedian_28 klRX11_79 (rowAt.hp (gTr i hin)) rfl ?_
        refine e_astore_n hX 3 iX11_columnMedian_31 rfl (by decide) ?_
        refine e_aload_n hX 3 iX11_columnMedian_32 rfl rfl ?_
        refine e_iload_n hX 1 iX11_columnMedian_33 rfl rfl ?_
        refine e_callV hX iX11_columnMedian_34 (gTr i hin).1 (c_isPresent htr (gTr i hin) c hc) rfl rfl ⟨by decide, by decide, by decide, by decide⟩ (Nat.le_of_ble_eq_true rfl) (fun _ _ h => h.elim) (fun v9 ph9 hv9 => ?_)
        obtain ⟨rfl, e9⟩ := hv9
        subst ph9
        refine e_if_eq hX iX11_columnMedian_37 (fun c37 => ?_) (fun c37 => ?_)
        · have e0 : srtG f3 P y (i + 1) = srtG f3 P y i := if_neg (by rw [show P i = false from b2i_0.mp c37]; decide)
          refine e_loc [0, 1, 2] ?_
          exact next p (by rw [e0]; exact k1) (by rw [e0]; exact k2) k3
        · have e0 : srtG f3 P y (i + 1) = ((srtG f3 P y i).1 + 1, insG (srtG f3 P y i).1 (srtG f3 P y i).2 (y i)) := if_pos (b2i_n0.mp c37)
          refine e_aload_n hX 0 iX11_columnMedian_40 rfl rfl ?_
          refine e_get hX iX11_columnMedian_41 gO rfl ?_
          refine e_aload_n hX 3 iX11_columnMedian_44 rfl rfl ?_
          refine e_iload_n hX 1 iX11_columnMedian_45 rfl rfl ?_
          refine e_callV hX iX11_columnMedian_46 (gTr i hin).1 (c_value htr (gTr i hin) c hc) rfl rfl ⟨by decide, by decide, by decide, by decide⟩ (Nat.le_of_ble_eq_true rfl) (fun _ _ h => h.elim) (fun v9 ph9 hv9 => ?_)
          obtain ⟨rfl, e9⟩ := hv9
          subst ph9
          refine e_callV hX iX11_columnMedian_49 k1 (c_ninsert htr k1 k2 (by omega) (gV σ i c)) rfl rfl ⟨by decide, by decide, by decide, by decide⟩ (Nat.le_of_ble_eq_true rfl) (fun _ _ h => h.elim) (fun v9 ph9 hv9 => ?_)
          obtain ⟨rfl, e9⟩ := hv9
          subst ph9
          refine e_loc [0, 1, 2] ?_
          exact next _ (by rw [e0]; exact e_up_s) (by rw [e0, e_up_n (fun e => hba e.symm)]; exact e_up_s) ((k3.up2 (Or.inl (Or.inr rfl))).up2 (Or.inl (Or.inl rfl)))
  refine e_aload_n hX 0 iX11_columnMedian_0 rfl rfl ?_
  refine e_get hX iX11_columnMedian_1 hg.1 rfl ?_
  refine e_callV hX iX11_columnMedian_4 j1 (c_nclear htr j1) rfl rfl ⟨by decide, by decide, by decide, by decide⟩ (Nat.le_of_ble_eq_true rfl) (fun _ _ h => h.elim) (fun v9 ph9 hv9 => ?_)
  obtain ⟨rfl, e9⟩ := hv9
  subst ph9
  refine e_iconst (v := 0) hX iX11_columnMedian_7 (by decide) ?_
  refine e_istore_n hX 2 iX11_columnMedian_8 rfl (by decide) ?_
  refine e_loc [0, 1, 2] ?_
  exact loop (gN σ + 1) 0 _ (by omega) (by omega) e_up_s (e_up_o j2 (fun e => hba e.symm)) (kept.refl.up2 (Or.inl (Or.inl rfl)))
theorem c_spread {l : Launch} (htr : l.stackTraces = false) (hg : GI θ ph g X σ κ te be ue r wr b wb u) {c : Nat} (hc : c < 5) (m : Int32) : MC yX11_columnSpread cX11_columnSpread 5 (some .int) 3 0 0 l θ [.ref g, .int (nI c), .int m] ph (fun z p => z = some (.int (sprN σ c m)) ∧ GI θ p g X σ κ te be ue r wr b wb u ∧ kx ph p X) (fun _ _ => False) := by
  have hn := hg.2.2.2.2.2.2.2.2.1.1
  refine MC.of htr (by decide) (Nat.le_of_ble_eq_true rfl) ?_
  intro x hX hQ hT
  obtain ⟨-, -, a3, f3, j1, j2⟩ := hg.2.2.2.2.2.1
  have hba : κ 8 ≠ κ 9 := e_ne2 j1 j2 (fun e => e_IO e.symm)
  let P : Nat → Bool := fun i => pres (gV σ i c)
  let y : Nat → Int32 := fun i => dist (gV σ i c) m
  have loop : ∀ (q i : Nat) (p : e_PH), gN σ - i < q → i ≤ gN σ → p (κ 8) = some (e_O 5 [.ref (κ 9), .int (nI (srtG f3 P y i).1)]) → p (κ 9) = some (e_I θ 12 (srtG f3 P y i).2) → kept ph p (prS (κ 8) (κ 9)) → EJ θ x 9 [(0, .ref g), (1, .int (nI c)), (2, .int m), (3, .int (nI i))] [] p 0 0 := by
    intro q
    induction q with
    | zero => intro i p hg; omega
    | succ q ih =>
      intro i p hq hi k1 k2 k3
      obtain ⟨hg2, hx⟩ := hg.nums k3 k1 k2
      obtain ⟨gO, ⟨gT, gTr⟩, -⟩ := hg2
      have hle := srtG_le (f0 := f3) (P := P) (y := y) i
      refine e_iload_n hX 3 iX11_columnSpread_9 rfl rfl ?_
      refine e_aload_n hX 0 iX11_columnSpread_10 rfl rfl ?_
      refine e_get hX iX11_columnSpread_11 gO rfl ?_
      refine e_callV hX iX11_columnSpread_14 (lst.hp gT) (c_size htr gT) rfl rfl ⟨by decide, by decide, by decide, by decide⟩ (Nat.le_of_ble_eq_true rfl) (fun _ _ h => h.elim) (fun v9 ph9 hv9 => ?_)
      obtain ⟨rfl, e9⟩ := hv9
      subst ph9
      refine e_icmp_ge hX iX11_columnSpread_17 (fun c17 => ?_) (fun c17 => ?_)
      · have hin := nI_same hi (by omega) c17
        subst hin
        refine e_aload_n hX 0 iX11_columnSpread_62 rfl rfl ?_
        refine e_get hX iX11_columnSpread_63 gO rfl ?_
        refine e_callV hX iX11_columnSpread_66 k1 (c_nmiddle htr k1 k2 (by omega)) rfl rfl ⟨by decide, by decide, by decide, by decide⟩ (Nat.le_of_ble_eq_true rfl) (fun _ _ h => h.elim) (fun v9 ph9 hv9 => ?_)
        obtain ⟨rfl, e9⟩ := hv9
        subst ph9
        exact e_iret hX hQ iX11_columnSpread_69 rfl (by decide) (by decide) ⟨by rw [medG_any]; rfl, hg.nums k3 k1 k2⟩
      · have hin := nI_less hi (by omega) c17
        have next : ∀ p2, p2 (κ 8) = some (e_O 5 [.ref (κ 9), .int (nI (srtG f3 P y (i + 1)).1)]) → p2 (κ 9) = some (e_I θ 12 (srtG f3 P y (i + 1)).2) → kept ph p2 (prS (κ 8) (κ 9)) → EJ θ x 56 [(0, .ref g), (1, .int (nI c)), (2, .int m), (3, .int (nI i))] [] p2 0 0 := by
          intro p2 h1 h2 h3
          refine e_iinc hX iX11_columnSpread_56 rfl (by first | exact nI_inc _ | rfl) (by decide) ?_
          refine e_goto hX iX11_columnSpread_59 ?_
          refine e_loc [0, 1, 2, 3] ?_
          exact ih (i + 1) p2 (by omega) (by omega) h1 h2 h3
        refine e_aload_n hX 0 iX11_columnSpread_20 rfl rfl ?_
        refine e_get hX iX11_columnSpread_21 gO rfl ?_
        refine e_iload_n hX 3 iX11_columnSpread_24 rfl rfl ?_
        refine e_callV hX iX11_columnSpread_25 (lst.hp gT) (c_lget (i := i) htr gT hin) rfl rfl ⟨by decide, by decide, by decide, by decide⟩ (Nat.le_of_ble_eq_true rfl) (fun _ _ h => h.elim) (fun v9 ph9 hv9 => ?_)
        obtain ⟨rfl, e9⟩ := hv9
        subst ph9
        refine e_castS hX iX11_columnSpread_28 klRX11_79 (rowAt.hp (gTr i hin)) rfl ?_
        refine e_astore hX iX11_columnSpread_31 (by decide) ?_
        refine e_aload hX iX11_columnSpread_33 rfl ?_
        refine e_iload_n hX 1 iX11_columnSpread_35 rfl rfl ?_
        refine e_callV hX iX11_columnSpread_36 (gTr i hin).1 (c_isPresent htr (gTr i hin) c hc) rfl rfl ⟨by decide, by decide, by decide, by decide⟩ (Nat.le_of_ble_eq_true rfl) (fun _ _ h => h.elim) (fun v9 ph9 hv9 => ?_)
        obtain ⟨rfl, e9⟩ := hv9
        subst ph9
        refine e_if_eq hX iX11_columnSpread_39 (fun c39 => ?_) (fun c39 => ?_)
        · have e0 : srtG f3 P y (i + 1) = srtG f3 P y i := if_neg (by rw [show P i = false from b2i_0.mp c39]; decide)
          refine e_loc [0, 1, 2, 3] ?_
          exact next p (by rw [e0]; exact k1) (by rw [e0]; exact k2) k3
        · have e0 : srtG f3 P y (i + 1) = ((srtG f3 P y i).1 + 1, insG (srtG f3 P y i).1 (srtG f3 P y i).2 (y i)) := if_pos (b2i_n0.mp c39)
          refine e_aload_n hX 0 iX11_columnSpread_42 rfl rfl ?_
          refine e_get hX iX11_columnSpread_43 gO rfl ?_
          refine e_aload hX iX11_columnSpread_46 rfl ?_
          refine e_iload_n hX 1 iX11_columnSpread_48 rfl rfl ?_
          refine e_iload_n hX 2 iX11_columnSpread_49 rfl rfl ?_
          refine e_callV hX iX11_columnSpread_50 (gTr i hin).1 (c_distance htr (gTr i hin) c hc m) rfl rfl ⟨by decide, by decide, by decide, by decide⟩ (Nat.le_of_ble_eq_true rfl) (fun _ _ h => h.elim) (fun v9 ph9 hv9 => ?_)
          obtain ⟨rfl, e9⟩ := hv9
          subst ph9
          refine e_callV hX iX11_columnSpread_53 k1 (c_ninsert htr k1 k2 (by omega) (dist (gV σ i c) m)) rfl rfl ⟨by decide, by decide, by decide, by decide⟩ (Nat.le_of_ble_eq_true rfl) (fun _ _ h => h.elim) (fun v9 ph9 hv9 => ?_)
          obtain ⟨rfl, e9⟩ := hv9
          subst ph9
          refine e_loc [0, 1, 2, 3] ?_
          exact next _ (by rw [e0]; exact e_up_s) (by rw [e0, e_up_n (fun e => hba e.symm)]; exact e_up_s) ((k3.up2 (Or.inl (Or.inr rfl))).up2 (Or.inl (Or.inl rfl)))
  refine e_aload_n hX 0 iX11_columnSpread_0 rfl rfl ?_
  refine e_get hX iX11_columnSpread_1 hg.1 rfl ?_
  refine e_callV hX iX11_columnSpread_4 j1 (c_nclear htr j1) rfl rfl ⟨by decide, by decide, by decide, by decide⟩ (Nat.le_of_ble_eq_true rfl) (fun _ _ h => h.elim) (fun v9 ph9 hv9 => ?_)
  obtain ⟨rfl, e9⟩ := hv9
  subst ph9
  refine e_iconst (v := 0) hX iX11_columnSpread_7 (by decide) ?_
  refine e_istore_n hX 3 iX11_columnSpread_8 rfl (by decide) ?_
  refine e_loc [0, 1, 2, 3] ?_
  exact loop (gN σ + 1) 0 _ (by omega) (by omega) e_up_s (e_up_o j2 (fun e => hba e.symm)) (kept.refl.up2 (Or.inl (Or.inl rfl)))
end GM
