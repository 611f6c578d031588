/-! the law's body -/
section LB
variable {θ : e_T} {x : e_X} {nm : String} {rt : Option FieldType} {l : Launch} {s0 : e_K} {g : Nat} {ph : e_PH} {X : Nat → Prop} {σ : SG} {D : Nat}
theorem r_viol (htr : l.stackTraces = false) (hg : GP θ ph g X σ) (hc : calm σ) {q : Nat} (hq : q < 10) : ∃ a : Int32, a ≤ 0 ∧ W_violations l θ [.ref g, .int (nI q)] ph (rP θ ph g X σ a) := by
  have hk := hg.ok.2.2.1
  have h := l_violations htr hg (nI q)
  rw [qP_r] at h
  refine ⟨_, ?_, h⟩
  unfold k_rule
  by_cases c : (decide (0 ≤ nI q) && decide (nI q < nI (gK σ))) = true
  · obtain ⟨q', h1, h2⟩ := (ltB_t (by omega)).mp c
    have e : q = q' := (nI_eq (by omega) (by omega)).mp h2
    subst e
    rw [if_pos c, ix_n (by omega)]
    cases hd : drR (gR σ q)
    · rw [if_neg (by decide), qA_0 rfl]
      unfold a_violations
      rw [ix_n (by omega), calm_vio hc h1 hd]
      decide
    · rw [if_pos rfl]
      exact (show cdI 2 ≤ 0 by decide)
  · rw [if_neg c]
    exact (show cdI 1 ≤ 0 by decide)
theorem r_drift (htr : l.stackTraces = false) (hg : GP θ ph g X σ) (hn0 : ¬ gN σ = 0) (hp0 : ¬ gP σ = 0) {c : Nat} (hc : c < 5) : W_drift l θ [.ref g, .int (nI c)] ph (rP θ ph g X σ (drfN σ c)) := by
  have h := l_drift htr hg (nI c)
  rw [qP_0 (show k_drift σ (nI c) = 0 from (if_pos (colB_t.mpr ⟨c, hc, rfl⟩)).trans ((if_neg hp0).trans (if_neg hn0))), ix_n (by omega)] at h
  exact h
theorem r_remove (htr : l.stackTraces = false) (hg : GP θ ph g X σ) (hv : idS D σ) (hD : D < 2 ^ 30) {i : Nat} (hi : i < gN σ) : W_removeRow l θ [.ref g, .int (gI σ i)] ph (rP θ ph g X (s_rem σ i) (nI (gN σ - 1))) := by
  have h := l_removeRow htr hg (gI σ i)
  rw [qP_0 (hv.kid hD hi), hv.fnd hD hi] at h
  exact h
theorem r_save (htr : l.stackTraces = false) (hg : GP θ ph g X σ) (hn0 : ¬ gN σ = 0) : W_saveProfile l θ [.ref g] ph (rP θ ph g X (s_save σ) (nI (gN σ))) := by
  have h := l_saveProfile htr hg
  rw [qP_0 (show k_save σ = 0 from if_neg hn0)] at h
  exact h
theorem iv.new : iv 0 s_new := ⟨⟨rfl, fun _ => 0, fun i hi => absurd hi (Nat.not_lt_zero i), fun i j _ hj => absurd hj (Nat.not_lt_zero j)⟩, fun j _ => ⟨fun _ => 0, fun b _ => rfl, rfl⟩, rfl⟩
theorem law_end (htr : l.stackTraces = false) (hX : e_in cL_law RL nm 7 rt room_1 l θ x) (hN : e_nx θ s0 x) (fin : ∀ ph k n, k ≤ 673110 → n ≤ 7073163 → EJ θ x 403 [] [.int 1] ph k n) {k n : Nat} (hk : k ≤ 30000) (hn : n ≤ 300000) (hg : GP θ ph g (fun _ => False) σ) : EJ θ x 324 [(0, .ref s0.1), (1, .ref g)] [] ph k n := by
  have hn12 := hg.ok.1
  obtain ⟨rc1, rc2⟩ := rp_calm hn12
  obtain ⟨τ, hτ⟩ : ∃ τ, τ = rpD (bstN σ) (gN σ) σ := ⟨_, rfl⟩
  rw [← hτ] at rc1 rc2
  have hv : ∀ (z r : Nat) (p : e_PH) (k n : Nat), 10 - r < z → r ≤ 10 → k ≤ 40000 + 1 * r → n ≤ 400000 + 6 * r → GP θ p g (fun _ => False) τ → EJ θ x 375 [(0, .ref s0.1), (1, .ref g), (4, .int (nI r))] [] p k n := by
    intro z
    induction z with
    | zero => intro r p k n hz; omega
    | succ z ih =>
      intro r p k n hz hr hk hn hgp
      refine e_iload hX iL_law_375 rfl ?_
      refine e_bipush (v := 10) hX iL_law_377 (by decide) ?_
      refine e_icmp_ge hX iL_law_379 (fun c379 => ?_) (fun c379 => ?_)
      · obtain ⟨fs, hgo⟩ := hgp.go
        refine e_aload_n hX 1 iL_law_399 rfl rfl ?_
        refine e_callV hX iL_law_400 hgo (m_isConsistent htr hgp) rfl rfl ⟨Nat.le_of_ble_eq_true rfl, Nat.le_of_ble_eq_true rfl, by show _ ≤ 673110; omega, by show _ ≤ 7073163; omega⟩ (Nat.le_of_ble_eq_true rfl) (fun _ _ h => h.elim) (fun v1 ph1 hv1 => ?_)
        obtain ⟨-, rfl, hg1, hx1⟩ := hv1
        refine e_loc [] ?_
        exact fin _ _ _ (by omega) (by omega)
      · have hr10 : r < 10 := nI_less hr (by decide) c379
        obtain ⟨a, ha, hW⟩ := r_viol htr hgp rc2 hr10
        refine e_aload_n hX 1 iL_law_382 rfl rfl ?_
        refine e_iload hX iL_law_383 rfl ?_
        refine e_callW hX hN.nc iW_L_law_385 hW rfl rfl ⟨Nat.le_of_ble_eq_true rfl, Nat.le_of_ble_eq_true rfl, by show _ ≤ 673110; omega, by show _ ≤ 7073163; omega⟩ (Nat.le_of_ble_eq_true rfl) (fun v1 ph1 hv1 => ?_)
        obtain ⟨rfl, hg1, hx1⟩ := hv1
        refine e_if_le hX iL_law_388 (fun c388 => ?_) (fun c388 => ?_)
        · refine e_iinc hX iL_law_393 rfl (by first | exact nI_inc _ | rfl) (by decide) ?_
          refine e_goto hX iL_law_396 ?_
          refine e_loc [0, 1, 4] ?_
          exact ih (r + 1) _ _ _ (by omega) (by omega) (by omega) (by omega) hg1
        · exact absurd ha c388
  obtain ⟨fs, hgo⟩ := hg.go
  refine e_aload_n hX 1 iL_law_324 rfl rfl ?_
  refine e_callV hX iL_law_325 hgo (m_fewest htr hg) rfl rfl ⟨Nat.le_of_ble_eq_true rfl, Nat.le_of_ble_eq_true rfl, by show _ ≤ 673110; omega, by show _ ≤ 7073163; omega⟩ (Nat.le_of_ble_eq_true rfl) (fun _ _ h => h.elim) (fun v1 ph1 hv1 => ?_)
  obtain ⟨-, rfl, hg1, hx1⟩ := hv1
  obtain ⟨fs1, hgo1⟩ := hg1.go
  refine e_istore_n hX 2 iL_law_328 rfl (by decide) ?_
  refine e_aload_n hX 1 iL_law_329 rfl rfl ?_
  refine e_callV hX iL_law_330 hgo1 (m_rowCount htr hg1) rfl rfl ⟨Nat.le_of_ble_eq_true rfl, Nat.le_of_ble_eq_true rfl, by show _ ≤ 673110; omega, by show _ ≤ 7073163; omega⟩ (Nat.le_of_ble_eq_true rfl) (fun _ _ h => h.elim) (fun v2 ph2 hv2 => ?_)
  obtain ⟨-, rfl, hg2, hx2⟩ := hv2
  obtain ⟨fs2, hgo2⟩ := hg2.go
  refine e_istore_n hX 3 iL_law_333 rfl (by decide) ?_
  refine e_aload_n hX 1 iL_law_334 rfl rfl ?_
  refine e_callV hX iL_law_335 hgo2 (m_repair htr hg2) rfl rfl ⟨Nat.le_of_ble_eq_true rfl, Nat.le_of_ble_eq_true rfl, by show _ ≤ 673110; omega, by show _ ≤ 7073163; omega⟩ (Nat.le_of_ble_eq_true rfl) (fun _ _ h => h.elim) (fun v3 ph3 hv3 => ?_)
  obtain ⟨-, rfl, hg3, hx3⟩ := hv3
  rw [← hτ] at hg3
  refine e_iload_n hX 2 iL_law_338 rfl rfl ?_
  refine e_icmp_ne hX iL_law_339 (fun c339 => ?_) (fun c339 => ?_)
  · exact absurd rfl c339
  · obtain ⟨fs3, hgo3⟩ := hg3.go
    refine e_aload_n hX 1 iL_law_342 rfl rfl ?_
    refine e_callV hX iL_law_343 hgo3 (m_rowCount htr hg3) rfl rfl ⟨Nat.le_of_ble_eq_true rfl, Nat.le_of_ble_eq_true rfl, by show _ ≤ 673110; omega, by show _ ≤ 7073163; omega⟩ (Nat.le_of_ble_eq_true rfl) (fun _ _ h => h.elim) (fun v4 ph4 hv4 => ?_)
    obtain ⟨-, rfl, hg4, hx4⟩ := hv4
    refine e_iload_n hX 3 iL_law_346 rfl rfl ?_
    refine e_iload_n hX 2 iL_law_347 rfl rfl ?_
    refine e_isub hX iL_law_348 ?_
    rw [pk_sub (show a_few σ ≤ gN σ by omega), show gN σ - a_few σ = gN τ by omega]
    refine e_icmp_ne hX iL_law_349 (fun c349 => ?_) (fun c349 => ?_)
    · exact absurd rfl c349
    · obtain ⟨fs4, hgo4⟩ := hg4.go
      refine e_aload_n hX 1 iL_law_352 rfl rfl ?_
      refine e_callV hX iL_law_353 hgo4 (m_fewest htr hg4) rfl rfl ⟨Nat.le_of_ble_eq_true rfl, Nat.le_of_ble_eq_true rfl, by show _ ≤ 673110; omega, by show _ ≤ 7073163; omega⟩ (Nat.le_of_ble_eq_true rfl) (fun _ _ h => h.elim) (fun v5 ph5 hv5 => ?_)
      obtain ⟨-, rfl, hg5, hx5⟩ := hv5
      rw [calm_few (by omega) rc2]
      refine e_if_ne hX iL_law_356 (fun c356 => ?_) (fun c356 => ?_)
      · exact absurd rfl c356
      · obtain ⟨fs5, hgo5⟩ := hg5.go
        refine e_aload_n hX 1 iL_law_359 rfl rfl ?_
        refine e_callV hX iL_law_360 hgo5 (m_groups htr hg5) rfl rfl ⟨Nat.le_of_ble_eq_true rfl, Nat.le_of_ble_eq_true rfl, by show _ ≤ 673110; omega, by show _ ≤ 7073163; omega⟩ (Nat.le_of_ble_eq_true rfl) (fun _ _ h => h.elim) (fun v6 ph6 hv6 => ?_)
        obtain ⟨-, rfl, hg6, hx6⟩ := hv6
        obtain ⟨fs6, hgo6⟩ := hg6.go
        refine e_aload_n hX 1 iL_law_363 rfl rfl ?_
        refine e_callV hX iL_law_364 hgo6 (m_rowCount htr hg6) rfl rfl ⟨Nat.le_of_ble_eq_true rfl, Nat.le_of_ble_eq_true rfl, by show _ ≤ 673110; omega, by show _ ≤ 7073163; omega⟩ (Nat.le_of_ble_eq_true rfl) (fun _ _ h => h.elim) (fun v7 ph7 hv7 => ?_)
        obtain ⟨-, rfl, hg7, hx7⟩ := hv7
        rw [calm_groups rc2]
        refine e_icmp_eq hX iL_law_367 (fun c367 => ?_) (fun c367 => ?_)
        · refine e_iconst (v := 0) hX iL_law_372 (by decide) ?_
          refine e_istore hX iL_law_373 (by decide) ?_
          refine e_loc [0, 1, 4] ?_
          exact hv 11 0 _ _ _ (by omega) (by omega) (by omega) (by omega) hg7
        · exact absurd rfl c367
/-- the figures of drift, from 254 on -/
theorem law_drift (htr : l.stackTraces = false) (hX : e_in cL_law RL nm 7 rt room_1 l θ x) (hN : e_nx θ s0 x) {q k n : Nat} {j : Int32} (hk : k ≤ 30000) (hn : n ≤ 300000) (hg : GP θ ph g (fun _ => False) σ) (hp : prfS σ) (nxt : ∀ p, GP θ p g (fun _ => False) σ → EJ θ x 318 [(0, .ref s0.1), (1, .ref g), (2, .int (nI q))] [] p (k + 30) (n + 180)) : EJ θ x 254 [(0, .ref s0.1), (1, .ref g), (2, .int (nI q)), (3, .int j)] [] ph k n := by
  have hok := hg.ok
  have h := l_mostDrifted htr hg
  rw [qP_r] at h
  refine e_aload_n hX 1 iL_law_254 rfl rfl ?_
  by_cases hk0 : gP σ = 0 ∨ gN σ = 0
  · have hneg : qA (k_most σ) (nI (mstG (drfN σ) 5).1) < 0 := by
      unfold k_most
      by_cases c : gP σ = 0
      · rw [if_pos c]; exact (show cdI 1 < 0 by decide)
      · rw [if_neg c, if_pos (hk0.resolve_left c)]; exact (show cdI 2 < 0 by decide)
    refine e_callW hX hN.nc iW_L_law_255 h rfl rfl ⟨Nat.le_of_ble_eq_true rfl, Nat.le_of_ble_eq_true rfl, by show _ ≤ 673110; omega, by show _ ≤ 7073163; omega⟩ (Nat.le_of_ble_eq_true rfl) (fun v1 ph1 hv1 => ?_)
    obtain ⟨rfl, hg1, hx1⟩ := hv1
    refine e_istore hX iL_law_258 (by decide) ?_
    refine e_iconst (v := 0) hX iL_law_260 (by decide) ?_
    refine e_istore hX iL_law_261 (by decide) ?_
    refine e_iload hX iL_law_263 rfl ?_
    refine e_iconst (v := 5) hX iL_law_265 (by decide) ?_
    refine e_icmp_ge hX iL_law_266 (fun c266 => ?_) (fun c266 => ?_)
    · exact absurd c266 (by decide)
    · refine e_iload hX iL_law_269 rfl ?_
      refine e_if_lt hX iL_law_271 (fun c271 => ?_) (fun c271 => ?_)
      · refine e_loc [0, 1, 2] ?_
        refine e_wid (k' := k + 30) (n' := n + 180) (by omega) (by omega) ?_
        exact nxt _ hg1
      · exact absurd hneg c271
  · have hp0 : ¬ gP σ = 0 := fun e => hk0 (Or.inl e)
    have hn0 : ¬ gN σ = 0 := fun e => hk0 (Or.inr e)
    have h0 : (-1 : Int32) < drfN σ 0 := drf_pos hok (by decide) hn0 hp0
    obtain ⟨m1, m2⟩ := mst_max h0 4
    have m3 := mst_2 h0 4
    obtain ⟨M, hM⟩ : ∃ M, M = (mstG (drfN σ) 5).1 := ⟨_, rfl⟩
    have m1' : M < 5 := by rw [hM]; exact m1
    have m2' : ∀ c, c < 5 → drfN σ c ≤ drfN σ M := fun c hc => by
      have := m2 c hc
      rw [m3] at this
      rw [hM]
      exact this
    rw [qA_0 (show k_most σ = 0 from (if_neg hp0).trans (if_neg hn0)), ← hM] at h
    refine e_callW hX hN.nc iW_L_law_255 h rfl rfl ⟨Nat.le_of_ble_eq_true rfl, Nat.le_of_ble_eq_true rfl, by show _ ≤ 673110; omega, by show _ ≤ 7073163; omega⟩ (Nat.le_of_ble_eq_true rfl) (fun v1 ph1 hv1 => ?_)
    obtain ⟨rfl, hg1, hx1⟩ := hv1
    have loop : ∀ (z c : Nat) (p : e_PH), 5 - c < z → c ≤ 5 → GP θ p g (fun _ => False) σ → EJ θ x 263 [(0, .ref s0.1), (1, .ref g), (2, .int (nI q)), (5, .int (nI M)), (6, .int (nI c))] [] p (k + 1 + 4 * c) (n + 6 + 24 * c) := by
      intro z
      induction z with
      | zero => intro c p hz; omega
      | succ z ih =>
        intro c p hz hc hgp
        refine e_iload hX iL_law_263 rfl ?_
        refine e_iconst (v := 5) hX iL_law_265 (by decide) ?_
        refine e_icmp_ge hX iL_law_266 (fun c266 => ?_) (fun c266 => ?_)
        · have hc5 : c = 5 := nI_same hc (by decide) c266
          refine e_loc [0, 1, 2] ?_
          refine e_wid (k' := k + 30) (n' := n + 180) (by omega) (by omega) ?_
          exact nxt _ hgp
        · have hc5 : c < 5 := nI_less hc (by decide) c266
          obtain ⟨d, d1, d2⟩ := drf_in hok hp hc5 hn0 hp0
          refine e_iload hX iL_law_269 rfl ?_
          refine e_if_lt hX iL_law_271 (fun c271 => ?_) (fun c271 => ?_)
          · exact absurd c271 (nI_pos (by omega))
          · refine e_aload_n hX 1 iL_law_274 rfl rfl ?_
            refine e_iload hX iL_law_275 rfl ?_
            refine e_callW hX hN.nc iW_L_law_277 (r_drift htr hgp hn0 hp0 hc5) rfl rfl ⟨Nat.le_of_ble_eq_true rfl, Nat.le_of_ble_eq_true rfl, by show _ ≤ 673110; omega, by show _ ≤ 7073163; omega⟩ (Nat.le_of_ble_eq_true rfl) (fun v2 ph2 hv2 => ?_)
            obtain ⟨rfl, hg2, hx2⟩ := hv2
            refine e_aload_n hX 1 iL_law_280 rfl rfl ?_
            refine e_iload hX iL_law_281 rfl ?_
            refine e_callW hX hN.nc iW_L_law_283 (r_drift htr hg2 hn0 hp0 m1') rfl rfl ⟨Nat.le_of_ble_eq_true rfl, Nat.le_of_ble_eq_true rfl, by show _ ≤ 673110; omega, by show _ ≤ 7073163; omega⟩ (Nat.le_of_ble_eq_true rfl) (fun v3 ph3 hv3 => ?_)
            obtain ⟨rfl, hg3, hx3⟩ := hv3
            refine e_icmp_gt hX iL_law_286 (fun c286 => ?_) (fun c286 => ?_)
            · exact absurd (m2' c hc5) (Int32.not_le.mpr c286)
            · refine e_aload_n hX 1 iL_law_289 rfl rfl ?_
              refine e_iload hX iL_law_290 rfl ?_
              refine e_callW hX hN.nc iW_L_law_292 (r_drift htr hg3 hn0 hp0 hc5) rfl rfl ⟨Nat.le_of_ble_eq_true rfl, Nat.le_of_ble_eq_true rfl, by show _ ≤ 673110; omega, by show _ ≤ 7073163; omega⟩ (Nat.le_of_ble_eq_true rfl) (fun v4 ph4 hv4 => ?_)
              obtain ⟨rfl, hg4, hx4⟩ := hv4
              rw [d2]
              refine e_if_lt hX iL_law_295 (fun c295 => ?_) (fun c295 => ?_)
              · exact absurd c295 (nI_pos (by omega))
              · refine e_aload_n hX 1 iL_law_298 rfl rfl ?_
                refine e_iload hX iL_law_299 rfl ?_
                refine e_callW hX hN.nc iW_L_law_301 (r_drift htr hg4 hn0 hp0 hc5) rfl rfl ⟨Nat.le_of_ble_eq_true rfl, Nat.le_of_ble_eq_true rfl, by show _ ≤ 673110; omega, by show _ ≤ 7073163; omega⟩ (Nat.le_of_ble_eq_true rfl) (fun v5 ph5 hv5 => ?_)
                obtain ⟨rfl, hg5, hx5⟩ := hv5
                rw [d2]
                refine e_sipush (v := 1000) hX iL_law_304 (by decide) ?_
                rw [show (1000 : Int32) = nI 1000 from rfl]
                refine e_icmp_le hX iL_law_307 (fun c307 => ?_) (fun c307 => ?_)
                · refine e_iinc hX iL_law_312 rfl (by first | exact nI_inc _ | rfl) (by decide) ?_
                  refine e_goto hX iL_law_315 ?_
                  refine e_loc [0, 1, 2, 5, 6] ?_
                  refine e_wid (k' := k + 1 + 4 * (c + 1)) (n' := n + 6 + 24 * (c + 1)) (by omega) (by omega) ?_
                  exact ih (c + 1) _ (by omega) (by omega) hg5
                · exact absurd (nI_le d1 (by decide)) c307
    refine e_istore hX iL_law_258 (by decide) ?_
    refine e_iconst (v := 0) hX iL_law_260 (by decide) ?_
    refine e_istore hX iL_law_261 (by decide) ?_
    refine e_loc [0, 1, 2, 5, 6] ?_
    refine e_wid (k' := k + 1 + 4 * 0) (n' := n + 6 + 24 * 0) (by omega) (by omega) ?_
    exact loop 6 0 _ (by omega) (by omega) hg1
/-- what is looked at behind each step, from 205 on -/
theorem law_look (htr : l.stackTraces = false) (hX : e_in cL_law RL nm 7 rt room_1 l θ x) (hN : e_nx θ s0 x) {q j k n : Nat} (hj : j < 2 ^ 31) (hk : k ≤ 26000) (hn : n ≤ 250000) (hg : GP θ ph g (fun _ => False) σ) (hv : iv D σ) (hD : D < 1000) (nxt : ∀ p, GP θ p g (fun _ => False) σ → EJ θ x 318 [(0, .ref s0.1), (1, .ref g), (2, .int (nI q))] [] p (k + 2900) (n + 17400)) : EJ θ x 205 [(0, .ref s0.1), (1, .ref g), (2, .int (nI q)), (3, .int (nI j))] [] ph k n := by
  have hn12 := hg.ok.1
  have dr : ∀ p, GP θ p g (fun _ => False) σ → EJ θ x 254 [(0, .ref s0.1), (1, .ref g), (2, .int (nI q)), (3, .int (nI j))] [] p (k + 2870) (n + 17220) := fun p hgp => law_drift htr hX hN (by omega) (by omega) hgp hv.2.1 (fun p2 h2 => e_wid (k' := k + 2900) (n' := n + 17400) (by omega) (by omega) (nxt p2 h2))
  refine e_aload_n hX 1 iL_law_205 rfl rfl ?_
  refine e_callN hX hN iL_law_206 (q_repairs htr hg hv.1 (by omega)) rfl rfl ⟨Nat.le_of_ble_eq_true rfl, Nat.le_of_ble_eq_true rfl, by show _ ≤ 673110; omega, by show _ ≤ 7073163; omega⟩ (Nat.le_of_ble_eq_true rfl) (fun v1 ph1 hv1 => ?_)
  obtain ⟨rfl, hg1, hx1⟩ := hv1
  refine e_if_eq hX iL_law_209 (fun c209 => ?_) (fun c209 => ?_)
  · exact absurd c209 (by decide)
  · refine e_aload_n hX 1 iL_law_212 rfl rfl ?_
    refine e_iload_n hX 3 iL_law_213 rfl rfl ?_
    refine e_sipush (v := 2048) hX iL_law_214 (by decide) ?_
    refine e_idiv hX iL_law_217 (by decide) ?_
    rw [show (2048 : Int32) = nI 2048 from rfl, pk_div hj (by decide) (by decide)]
    refine e_bipush (v := 32) hX iL_law_218 (by decide) ?_
    refine e_irem hX iL_law_220 (by decide) ?_
    rw [show (32 : Int32) = nI 32 from rfl, pk_rem (Nat.lt_of_le_of_lt (Nat.div_le_self _ _) hj) (by decide) (by decide)]
    refine e_callN hX hN iL_law_221 (q_deps htr hg1 (Nat.mod_lt (j / 2048) (show 0 < 32 by decide))) rfl rfl ⟨Nat.le_of_ble_eq_true rfl, Nat.le_of_ble_eq_true rfl, by show _ ≤ 673110; omega, by show _ ≤ 7073163; omega⟩ (Nat.le_of_ble_eq_true rfl) (fun v2 ph2 hv2 => ?_)
    obtain ⟨rfl, hg2, hx2⟩ := hv2
    refine e_if_eq hX iL_law_224 (fun c224 => ?_) (fun c224 => ?_)
    · exact absurd c224 (by decide)
    · obtain ⟨fs2, hgo2⟩ := hg2.go
      refine e_aload_n hX 1 iL_law_227 rfl rfl ?_
      refine e_callV hX iL_law_228 hgo2 (m_rowCount htr hg2) rfl rfl ⟨Nat.le_of_ble_eq_true rfl, Nat.le_of_ble_eq_true rfl, by show _ ≤ 673110; omega, by show _ ≤ 7073163; omega⟩ (Nat.le_of_ble_eq_true rfl) (fun _ _ h => h.elim) (fun v3 ph3 hv3 => ?_)
      obtain ⟨-, rfl, hg3, hx3⟩ := hv3
      refine e_if_le hX iL_law_231 (fun c231 => ?_) (fun c231 => ?_)
      · refine e_wid (k' := k + 2870) (n' := n + 17220) (by omega) (by omega) ?_
        exact dr _ hg3
      · have hn0 : 0 < gN σ := by
          rcases Nat.eq_zero_or_pos (gN σ) with e | e
          · rw [e] at c231; exact absurd (by decide) c231
          · exact e
        refine e_aload_n hX 1 iL_law_234 rfl rfl ?_
        refine e_iload_n hX 3 iL_law_235 rfl rfl ?_
        refine e_bipush (v := 64) hX iL_law_236 (by decide) ?_
        refine e_idiv hX iL_law_238 (by decide) ?_
        rw [show (64 : Int32) = nI 64 from rfl, pk_div hj (by decide) (by decide)]
        refine e_iconst (v := 5) hX iL_law_239 (by decide) ?_
        refine e_irem hX iL_law_240 (by decide) ?_
        rw [show (5 : Int32) = nI 5 from rfl, pk_rem (Nat.lt_of_le_of_lt (Nat.div_le_self _ _) hj) (by decide) (by decide)]
        refine e_aload_n hX 1 iL_law_241 rfl rfl ?_
        refine e_iconst (v := 0) hX iL_law_242 (by decide) ?_
        refine e_callW hX hN.nc iW_L_law_243 (r_rowAt htr hg3 hn0) rfl rfl ⟨Nat.le_of_ble_eq_true rfl, Nat.le_of_ble_eq_true rfl, by show _ ≤ 673110; omega, by show _ ≤ 7073163; omega⟩ (Nat.le_of_ble_eq_true rfl) (fun v4 ph4 hv4 => ?_)
        obtain ⟨rfl, hg4, hx4⟩ := hv4
        refine e_callN hX hN iL_law_246 (q_figs htr hg4 hv.1 (by omega) (Nat.mod_lt (j / 64) (show 0 < 5 by decide)) hn0) rfl rfl ⟨Nat.le_of_ble_eq_true rfl, Nat.le_of_ble_eq_true rfl, by show _ ≤ 673110; omega, by show _ ≤ 7073163; omega⟩ (Nat.le_of_ble_eq_true rfl) (fun v5 ph5 hv5 => ?_)
        obtain ⟨rfl, hg5, hx5⟩ := hv5
        refine e_if_ne hX iL_law_249 (fun c249 => ?_) (fun c249 => ?_)
        · refine e_wid (k' := k + 2870) (n' := n + 17220) (by omega) (by omega) ?_
          exact dr _ hg5
        · exact absurd c249 (by decide)
/-- one step, from 35 on, and the eight of them -/
theorem law_loop (htr : l.stackTraces = false) (hX : e_in cL_law RL nm 7 rt room_1 l θ x) (hN : e_nx θ s0 x) (hL : s0.2.1 ≤ 260) (fin : ∀ ph k n, k ≤ 673110 → n ≤ 7073163 → EJ θ x 403 [] [.int 1] ph k n) : ∀ (z q : Nat) (p : e_PH) (σ : SG) (D : Nat), 8 - q < z → q ≤ 8 → D ≤ 3 * q → GP θ p g (fun _ => False) σ → iv D σ → EJ θ x 35 [(0, .ref s0.1), (1, .ref g), (2, .int (nI q))] [] p (100 + 3000 * q) (1000 + 18000 * q) := by
  intro z
  induction z with
  | zero => intro q p σ D hz; omega
  | succ z ih =>
    intro q p σ D hz hq hD hgp hv
    refine e_iload_n hX 2 iL_law_35 rfl rfl ?_
    refine e_bipush (v := 8) hX iL_law_36 (by decide) ?_
    refine e_icmp_ge hX iL_law_38 (fun c38 => ?_) (fun c38 => ?_)
    · refine e_loc [0, 1] ?_
      exact law_end htr hX hN fin (by omega) (by omega) hgp
    · have hq8 : q < 8 := nI_less hq (by decide) c38
      have nxt : ∀ (p : e_PH) (σ : SG) (D : Nat), D ≤ 3 * q + 3 → GP θ p g (fun _ => False) σ → iv D σ → EJ θ x 318 [(0, .ref s0.1), (1, .ref g), (2, .int (nI q))] [] p (100 + 3000 * q + 2950) (1000 + 18000 * q + 17900) := by
        intro p σ D hD hgp hv
        refine e_iinc hX iL_law_318 rfl (by first | exact nI_inc _ | rfl) (by decide) ?_
        refine e_goto hX iL_law_321 ?_
        refine e_loc [0, 1, 2] ?_
        refine e_wid (k' := 100 + 3000 * (q + 1)) (n' := 1000 + 18000 * (q + 1)) (by omega) (by omega) ?_
        exact ih (q + 1) _ σ D (by omega) (by omega) (by omega) hgp hv
      refine e_aload_n hX 1 iL_law_41 rfl rfl ?_
      refine e_aload_n hX 0 iL_law_42 rfl rfl ?_
      refine e_iconst (v := 4) hX iL_law_43 (by decide) ?_
      refine e_iconst (v := 4) hX iL_law_44 (by decide) ?_
      refine e_iload_n hX 2 iL_law_45 rfl rfl ?_
      rw [show (4 : Int32) = nI 4 from rfl]
      refine e_imul hX iL_law_46 ?_
      rw [pk_mul]
      refine e_iadd hX iL_law_47 ?_
      rw [nI_add]
      refine e_callN hX hN iL_law_48 (q_commits htr hgp hv (by omega) hL (show 4 + 4 * q < 1000 by omega)) rfl rfl ⟨Nat.le_of_ble_eq_true rfl, Nat.le_of_ble_eq_true rfl, by show _ ≤ 673110; omega, by show _ ≤ 7073163; omega⟩ (Nat.le_of_ble_eq_true rfl) (fun v1 ph1 hv1 => ?_)
      obtain ⟨rfl, D1, σ1, hD1, hv1, hg1, hx1⟩ := hv1
      refine e_if_ne hX iL_law_51 (fun c51 => ?_) (fun c51 => ?_)
      · refine e_aload_n hX 0 iL_law_56 rfl rfl ?_
        refine e_bipush (v := 36) hX iL_law_57 (by decide) ?_
        refine e_iload_n hX 2 iL_law_59 rfl rfl ?_
        rw [show (36 : Int32) = nI 36 from rfl]
        refine e_iadd hX iL_law_60 ?_
        rw [nI_add]
        refine e_callN hX hN iL_law_61 (q_cell htr hL (show 36 + q < 2 ^ 31 by omega)) rfl rfl ⟨Nat.le_of_ble_eq_true rfl, Nat.le_of_ble_eq_true rfl, by show _ ≤ 673110; omega, by show _ ≤ 7073163; omega⟩ (Nat.le_of_ble_eq_true rfl) (fun v2 ph2 hv2 => ?_)
        obtain ⟨⟨w0, rfl⟩, e2⟩ := hv2
        subst ph2
        refine e_iconst (v := 1) hX iL_law_64 (by decide) ?_
        refine e_iushr hX iL_law_65 ?_
        obtain ⟨j, hj, ej⟩ := ushr1 w0
        rw [ej]
        obtain ⟨fs1, hgo1⟩ := hg1.go
        refine e_istore_n hX 3 iL_law_66 rfl (by decide) ?_
        refine e_aload_n hX 1 iL_law_67 rfl rfl ?_
        refine e_callV hX iL_law_68 hgo1 (m_rowCount htr hg1) rfl rfl ⟨Nat.le_of_ble_eq_true rfl, Nat.le_of_ble_eq_true rfl, by show _ ≤ 673110; omega, by show _ ≤ 7073163; omega⟩ (Nat.le_of_ble_eq_true rfl) (fun _ _ h => h.elim) (fun v3 ph3 hv3 => ?_)
        obtain ⟨-, rfl, hg3, hx3⟩ := hv3
        have hn12 := hg3.ok.1
        -- from 179 on: the profile
        have b179 : ∀ (p : e_PH) (τ : SG), GP θ p g (fun _ => False) τ → iv D1 τ → EJ θ x 179 [(0, .ref s0.1), (1, .ref g), (2, .int (nI q)), (3, .int (nI j))] [] p (100 + 3000 * q + 40) (1000 + 18000 * q + 400) := by
          intro p τ hgp hv
          have b205 : ∀ (p : e_PH) (τ : SG), GP θ p g (fun _ => False) τ → iv D1 τ → EJ θ x 205 [(0, .ref s0.1), (1, .ref g), (2, .int (nI q)), (3, .int (nI j))] [] p (100 + 3000 * q + 41) (1000 + 18000 * q + 406) := fun p τ hgp hv => law_look htr hX hN hj (by omega) (by omega) hgp hv (by omega) (fun p2 h2 => e_wid (k' := 100 + 3000 * q + 2950) (n' := 1000 + 18000 * q + 17900) (by omega) (by omega) (nxt p2 τ D1 (by omega) h2 hv))
          refine e_iload_n hX 2 iL_law_179 rfl rfl ?_
          refine e_iconst (v := 3) hX iL_law_180 (by decide) ?_
          refine e_irem hX iL_law_181 (by decide) ?_
          refine e_if_ne hX iL_law_182 (fun c182 => ?_) (fun c182 => ?_)
          · refine e_wid (k' := 100 + 3000 * q + 41) (n' := 1000 + 18000 * q + 406) (by omega) (by omega) ?_
            exact b205 _ τ hgp hv
          · obtain ⟨fs, hgo⟩ := hgp.go
            refine e_aload_n hX 1 iL_law_185 rfl rfl ?_
            refine e_callV hX iL_law_186 hgo (m_rowCount htr hgp) rfl rfl ⟨Nat.le_of_ble_eq_true rfl, Nat.le_of_ble_eq_true rfl, by show _ ≤ 673110; omega, by show _ ≤ 7073163; omega⟩ (Nat.le_of_ble_eq_true rfl) (fun _ _ h => h.elim) (fun v4 ph4 hv4 => ?_)
            obtain ⟨-, rfl, hg4, hx4⟩ := hv4
            have ht12 := hg4.ok.1
            refine e_if_le hX iL_law_189 (fun c189 => ?_) (fun c189 => ?_)
            · refine e_wid (k' := 100 + 3000 * q + 41) (n' := 1000 + 18000 * q + 406) (by omega) (by omega) ?_
              exact b205 _ τ hg4 hv
            · have hn0 : ¬ gN τ = 0 := fun e => by rw [e] at c189; exact absurd (by decide) c189
              refine e_aload_n hX 1 iL_law_192 rfl rfl ?_
              refine e_callW hX hN.nc iW_L_law_193 (r_save htr hg4 hn0) rfl rfl ⟨Nat.le_of_ble_eq_true rfl, Nat.le_of_ble_eq_true rfl, by show _ ≤ 673110; omega, by show _ ≤ 7073163; omega⟩ (Nat.le_of_ble_eq_true rfl) (fun v5 ph5 hv5 => ?_)
              obtain ⟨rfl, hg5, hx5⟩ := hv5
              obtain ⟨fs5, hgo5⟩ := hg5.go
              refine e_aload_n hX 1 iL_law_196 rfl rfl ?_
              refine e_callV hX iL_law_197 hgo5 (m_rowCount htr hg5) rfl rfl ⟨Nat.le_of_ble_eq_true rfl, Nat.le_of_ble_eq_true rfl, by show _ ≤ 673110; omega, by show _ ≤ 7073163; omega⟩ (Nat.le_of_ble_eq_true rfl) (fun _ _ h => h.elim) (fun v6 ph6 hv6 => ?_)
              obtain ⟨-, rfl, hg6, hx6⟩ := hv6
              refine e_icmp_eq hX iL_law_200 (fun c200 => ?_) (fun c200 => ?_)
              · refine e_wid (k' := 100 + 3000 * q + 41) (n' := 1000 + 18000 * q + 406) (by omega) (by omega) ?_
                exact b205 _ _ hg6 (hv.save hg4.ok)
              · exact absurd rfl c200
        -- from 146 on: a row removed
        have b146 : ∀ (p : e_PH) (τ : SG) (id : Int32), GP θ p g (fun _ => False) τ → iv D1 τ → (0 < gN τ → ∃ r, r < gN τ ∧ id = gI τ r) → EJ θ x 146 [(0, .ref s0.1), (1, .ref g), (2, .int (nI q)), (3, .int (nI j)), (4, .int id)] [] p (100 + 3000 * q + 39) (1000 + 18000 * q + 390) := by
          intro p τ id hgp hv hid
          refine e_iload_n hX 3 iL_law_146 rfl rfl ?_
          refine e_bipush (v := 16) hX iL_law_147 (by decide) ?_
          refine e_idiv hX iL_law_149 (by decide) ?_
          refine e_iconst (v := 4) hX iL_law_150 (by decide) ?_
          refine e_irem hX iL_law_151 (by decide) ?_
          refine e_iconst (v := 2) hX iL_law_152 (by decide) ?_
          refine e_icmp_ne hX iL_law_153 (fun c153 => ?_) (fun c153 => ?_)
          · refine e_loc [0, 1, 2, 3] ?_
            refine e_wid (k' := 100 + 3000 * q + 40) (n' := 1000 + 18000 * q + 400) (by omega) (by omega) ?_
            exact b179 _ τ hgp hv
          · obtain ⟨fs, hgo⟩ := hgp.go
            refine e_aload_n hX 1 iL_law_156 rfl rfl ?_
            refine e_callV hX iL_law_157 hgo (m_rowCount htr hgp) rfl rfl ⟨Nat.le_of_ble_eq_true rfl, Nat.le_of_ble_eq_true rfl, by show _ ≤ 673110; omega, by show _ ≤ 7073163; omega⟩ (Nat.le_of_ble_eq_true rfl) (fun _ _ h => h.elim) (fun v4 ph4 hv4 => ?_)
            obtain ⟨-, rfl, hg4, hx4⟩ := hv4
            have ht12 := hg4.ok.1
            refine e_iconst (v := 3) hX iL_law_160 (by decide) ?_
            refine e_icmp_le hX iL_law_161 (fun c161 => ?_) (fun c161 => ?_)
            · refine e_loc [0, 1, 2, 3] ?_
              refine e_wid (k' := 100 + 3000 * q + 40) (n' := 1000 + 18000 * q + 400) (by omega) (by omega) ?_
              exact b179 _ τ hg4 hv
            · have hn0 : 0 < gN τ := by
                rcases Nat.eq_zero_or_pos (gN τ) with e | e
                · rw [e] at c161; exact absurd (by decide) c161
                · exact e
              obtain ⟨r, hr, rfl⟩ := hid hn0
              refine e_aload_n hX 1 iL_law_164 rfl rfl ?_
              refine e_iload hX iL_law_165 rfl ?_
              refine e_callW hX hN.nc iW_L_law_167 (r_remove htr hg4 hv.1 (by omega) hr) rfl rfl ⟨Nat.le_of_ble_eq_true rfl, Nat.le_of_ble_eq_true rfl, by show _ ≤ 673110; omega, by show _ ≤ 7073163; omega⟩ (Nat.le_of_ble_eq_true rfl) (fun v5 ph5 hv5 => ?_)
              obtain ⟨rfl, hg5, hx5⟩ := hv5
              obtain ⟨fs5, hgo5⟩ := hg5.go
              refine e_aload_n hX 1 iL_law_170 rfl rfl ?_
              refine e_callV hX iL_law_171 hgo5 (m_rowCount htr hg5) rfl rfl ⟨Nat.le_of_ble_eq_true rfl, Nat.le_of_ble_eq_true rfl, by show _ ≤ 673110; omega, by show _ ≤ 7073163; omega⟩ (Nat.le_of_ble_eq_true rfl) (fun _ _ h => h.elim) (fun v6 ph6 hv6 => ?_)
              obtain ⟨-, rfl, hg6, hx6⟩ := hv6
              refine e_icmp_eq hX iL_law_174 (fun c174 => ?_) (fun c174 => ?_)
              · refine e_loc [0, 1, 2, 3] ?_
                refine e_wid (k' := 100 + 3000 * q + 40) (n' := 1000 + 18000 * q + 400) (by omega) (by omega) ?_
                exact b179 _ _ hg6 (hv.rem hr)
              · exact absurd rfl c174
        -- from 108 on: a value set
        have b108 : ∀ (p : e_PH) (τ : SG) (id : Int32), GP θ p g (fun _ => False) τ → iv D1 τ → (0 < gN τ → ∃ r, r < gN τ ∧ id = gI τ r) → EJ θ x 108 [(0, .ref s0.1), (1, .ref g), (2, .int (nI q)), (3, .int (nI j)), (4, .int id)] [] p (100 + 3000 * q + 38) (1000 + 18000 * q + 380) := by
          intro p τ id hgp hv hid
          refine e_iload_n hX 3 iL_law_108 rfl rfl ?_
          refine e_bipush (v := 16) hX iL_law_109 (by decide) ?_
          refine e_idiv hX iL_law_111 (by decide) ?_
          refine e_iconst (v := 4) hX iL_law_112 (by decide) ?_
          refine e_irem hX iL_law_113 (by decide) ?_
          refine e_iconst (v := 1) hX iL_law_114 (by decide) ?_
          refine e_icmp_ne hX iL_law_115 (fun c115 => ?_) (fun c115 => ?_)
          · refine e_wid (k' := 100 + 3000 * q + 39) (n' := 1000 + 18000 * q + 390) (by omega) (by omega) ?_
            exact b146 _ τ id hgp hv hid
          · obtain ⟨fs, hgo⟩ := hgp.go
            refine e_aload_n hX 1 iL_law_118 rfl rfl ?_
            refine e_callV hX iL_law_119 hgo (m_rowCount htr hgp) rfl rfl ⟨Nat.le_of_ble_eq_true rfl, Nat.le_of_ble_eq_true rfl, by show _ ≤ 673110; omega, by show _ ≤ 7073163; omega⟩ (Nat.le_of_ble_eq_true rfl) (fun _ _ h => h.elim) (fun v4 ph4 hv4 => ?_)
            obtain ⟨-, rfl, hg4, hx4⟩ := hv4
            refine e_if_le hX iL_law_122 (fun c122 => ?_) (fun c122 => ?_)
            · refine e_wid (k' := 100 + 3000 * q + 39) (n' := 1000 + 18000 * q + 390) (by omega) (by omega) ?_
              exact b146 _ τ id hg4 hv hid
            · refine e_aload_n hX 1 iL_law_125 rfl rfl ?_
              refine e_iload hX iL_law_126 rfl ?_
              refine e_iload_n hX 3 iL_law_128 rfl rfl ?_
              refine e_bipush (v := 64) hX iL_law_129 (by decide) ?_
              refine e_idiv hX iL_law_131 (by decide) ?_
              refine e_iconst (v := 5) hX iL_law_132 (by decide) ?_
              refine e_irem hX iL_law_133 (by decide) ?_
              refine e_iload_n hX 3 iL_law_134 rfl rfl ?_
              refine e_sipush (v := 512) hX iL_law_135 (by decide) ?_
              refine e_idiv hX iL_law_138 (by decide) ?_
              refine e_callS hX iL_law_139 (q_number htr _) rfl rfl ⟨Nat.le_of_ble_eq_true rfl, Nat.le_of_ble_eq_true rfl, by show _ ≤ 673110; omega, by show _ ≤ 7073163; omega⟩ (Nat.le_of_ble_eq_true rfl) (fun _ _ h => h.elim) (fun v5 ph5 hv5 => ?_)
              obtain ⟨⟨a1, rfl, b1⟩, e5⟩ := hv5
              subst ph5
              refine e_callW hX hN.nc iW_L_law_142 (l_setValue htr hg4 _ _ _) rfl rfl ⟨Nat.le_of_ble_eq_true rfl, Nat.le_of_ble_eq_true rfl, by show _ ≤ 673110; omega, by show _ ≤ 7073163; omega⟩ (Nat.le_of_ble_eq_true rfl) (fun v6 ph6 hv6 => ?_)
              obtain ⟨rfl, hg6, hx6⟩ := hv6
              refine e_pop hX iL_law_145 rfl ?_
              refine e_wid (k' := 100 + 3000 * q + 39) (n' := 1000 + 18000 * q + 390) (by omega) (by omega) ?_
              refine b146 _ _ id hg6 ?_ ?_
              · split
                · exact hv
                · exact hv
              · split
                · exact hid
                · exact hid
        -- from 88 on: rules added
        have b88 : ∀ (p : e_PH) (id : Int32), GP θ p g (fun _ => False) σ1 → (0 < gN σ1 → ∃ r, r < gN σ1 ∧ id = gI σ1 r) → EJ θ x 88 [(0, .ref s0.1), (1, .ref g), (2, .int (nI q)), (3, .int (nI j))] [.int id] p (100 + 3000 * q + 36) (1000 + 18000 * q + 350) := by
          intro p id hgp hid
          refine e_istore hX iL_law_88 (by decide) ?_
          refine e_iload_n hX 3 iL_law_90 rfl rfl ?_
          refine e_bipush (v := 16) hX iL_law_91 (by decide) ?_
          refine e_idiv hX iL_law_93 (by decide) ?_
          refine e_iconst (v := 4) hX iL_law_94 (by decide) ?_
          refine e_irem hX iL_law_95 (by decide) ?_
          refine e_if_ne hX iL_law_96 (fun c96 => ?_) (fun c96 => ?_)
          · refine e_wid (k' := 100 + 3000 * q + 38) (n' := 1000 + 18000 * q + 380) (by omega) (by omega) ?_
            exact b108 _ σ1 id hgp hv1 hid
          · refine e_aload_n hX 1 iL_law_99 rfl rfl ?_
            refine e_iload_n hX 3 iL_law_100 rfl rfl ?_
            refine e_bipush (v := 64) hX iL_law_101 (by decide) ?_
            refine e_idiv hX iL_law_103 (by decide) ?_
            refine e_callN hX hN iL_law_104 (q_adds htr hgp _) rfl rfl ⟨Nat.le_of_ble_eq_true rfl, Nat.le_of_ble_eq_true rfl, by show _ ≤ 673110; omega, by show _ ≤ 7073163; omega⟩ (Nat.le_of_ble_eq_true rfl) (fun v4 ph4 hv4 => ?_)
            obtain ⟨a, σ2, rfl, hg4, hx4, ⟨en, ei⟩, hv2⟩ := hv4
            refine e_pop hX iL_law_107 rfl ?_
            refine e_wid (k' := 100 + 3000 * q + 38) (n' := 1000 + 18000 * q + 380) (by omega) (by omega) ?_
            exact b108 _ σ2 id hg4 (hv2 _ hv1) (by rw [en, ei]; exact hid)
        refine e_if_le hX iL_law_71 (fun c71 => ?_) (fun c71 => ?_)
        · have hn0 : gN σ1 = 0 := by
            rcases Nat.eq_zero_or_pos (gN σ1) with e | e
            · exact e
            · exact absurd c71 (nI_nle e (by omega))
          refine e_iconst (v := 0) hX iL_law_87 (by decide) ?_
          refine e_wid (k' := 100 + 3000 * q + 36) (n' := 1000 + 18000 * q + 350) (by omega) (by omega) ?_
          exact b88 _ 0 hg3 (fun h => absurd h (by omega))
        · have hn0 : 0 < gN σ1 := by
            rcases Nat.eq_zero_or_pos (gN σ1) with e | e
            · rw [e] at c71; exact absurd (by decide) c71
            · exact e
          obtain ⟨fs3, hgo3⟩ := hg3.go
          refine e_aload_n hX 1 iL_law_74 rfl rfl ?_
          refine e_iload_n hX 3 iL_law_75 rfl rfl ?_
          refine e_aload_n hX 1 iL_law_76 rfl rfl ?_
          refine e_callV hX iL_law_77 hgo3 (m_rowCount htr hg3) rfl rfl ⟨Nat.le_of_ble_eq_true rfl, Nat.le_of_ble_eq_true rfl, by show _ ≤ 673110; omega, by show _ ≤ 7073163; omega⟩ (Nat.le_of_ble_eq_true rfl) (fun _ _ h => h.elim) (fun v4 ph4 hv4 => ?_)
          obtain ⟨-, rfl, hg4, hx4⟩ := hv4
          refine e_irem hX iL_law_80 (nI_ne0 hn0 (by omega)) ?_
          rw [pk_rem hj hn0 (by omega)]
          refine e_callW hX hN.nc iW_L_law_81 (r_rowAt htr hg4 (Nat.mod_lt j hn0)) rfl rfl ⟨Nat.le_of_ble_eq_true rfl, Nat.le_of_ble_eq_true rfl, by show _ ≤ 673110; omega, by show _ ≤ 7073163; omega⟩ (Nat.le_of_ble_eq_true rfl) (fun v5 ph5 hv5 => ?_)
          obtain ⟨rfl, hg5, hx5⟩ := hv5
          refine e_goto hX iL_law_84 ?_
          refine e_wid (k' := 100 + 3000 * q + 36) (n' := 1000 + 18000 * q + 350) (by omega) (by omega) ?_
          exact b88 _ _ hg5 (fun _ => ⟨_, Nat.mod_lt j hn0, rfl⟩)
      · exact absurd c51 (by decide)
theorem law_body (htr : l.stackTraces = false) (hX : e_in cL_law RL nm 7 rt room_1 l θ x) (hN : e_nx θ s0 x) (hL : s0.2.1 ≤ 260) (fin : ∀ ph k n, k ≤ 673110 → n ≤ 7073163 → EJ θ x 403 [] [.int 1] ph k n) : EJ θ x 0 [(0, .ref s0.1)] [] (fun _ => none) 0 0 := by
  refine e_newo hX iL_law_0 (Nat.le_of_ble_eq_true rfl) (Nat.le_of_ble_eq_true rfl) (fun g hg => ?_)
  refine e_dup hX iL_law_3 rfl ?_
  refine e_callI hX iL_law_4 (m_init (X := fun _ => False) htr e_up_s (fun _ h => h.elim) (fun h => h)) rfl rfl ⟨Nat.le_of_ble_eq_true rfl, Nat.le_of_ble_eq_true rfl, Nat.le_of_ble_eq_true rfl, Nat.le_of_ble_eq_true rfl⟩ (Nat.le_of_ble_eq_true rfl) (fun _ _ h => h.elim) (fun v1 p1 h1 => ?_)
  obtain ⟨rfl, hg1, -⟩ := h1
  have adds : ∀ (z k : Nat) (p : e_PH) (σ : SG), 4 - k < z → k ≤ 4 → GP θ p g (fun _ => False) σ → iv 0 σ → EJ θ x 10 [(0, .ref s0.1), (1, .ref g), (2, .int (nI k))] [] p (30 + 2 * k) (200 + 26 * k) := by
    intro z
    induction z with
    | zero => intro k p σ hz; omega
    | succ z ih =>
      intro k p σ hz hk hgp hv
      refine e_iload_n hX 2 iL_law_10 rfl rfl ?_
      refine e_iconst (v := 4) hX iL_law_11 (by decide) ?_
      refine e_icmp_ge hX iL_law_12 (fun c12 => ?_) (fun c12 => ?_)
      · refine e_iconst (v := 0) hX iL_law_33 (by decide) ?_
        refine e_istore_n hX 2 iL_law_34 rfl (by decide) ?_
        refine e_loc [0, 1, 2] ?_
        refine e_wid (k' := 100 + 3000 * 0) (n' := 1000 + 18000 * 0) (by omega) (by omega) ?_
        exact law_loop htr hX hN hL fin 9 0 _ σ 0 (by omega) (by omega) (by omega) hgp hv
      · have hk4 : k < 4 := nI_less hk (by decide) c12
        refine e_aload_n hX 1 iL_law_15 rfl rfl ?_
        refine e_aload_n hX 0 iL_law_16 rfl rfl ?_
        refine e_iload_n hX 2 iL_law_17 rfl rfl ?_
        refine e_callN hX hN iL_law_18 (q_cell htr hL (show k < 2 ^ 31 by omega)) rfl rfl ⟨Nat.le_of_ble_eq_true rfl, Nat.le_of_ble_eq_true rfl, by show _ ≤ 673110; omega, by show _ ≤ 7073163; omega⟩ (Nat.le_of_ble_eq_true rfl) (fun v2 ph2 hv2 => ?_)
        obtain ⟨⟨w0, rfl⟩, e2⟩ := hv2
        subst ph2
        refine e_iconst (v := 1) hX iL_law_21 (by decide) ?_
        refine e_iushr hX iL_law_22 ?_
        refine e_callN hX hN iL_law_23 (q_adds htr hgp _) rfl rfl ⟨Nat.le_of_ble_eq_true rfl, Nat.le_of_ble_eq_true rfl, by show _ ≤ 673110; omega, by show _ ≤ 7073163; omega⟩ (Nat.le_of_ble_eq_true rfl) (fun v4 ph4 hv4 => ?_)
        obtain ⟨a, σ2, rfl, hg4, hx4, hni, hv2⟩ := hv4
        refine e_pop hX iL_law_26 rfl ?_
        refine e_iinc hX iL_law_27 rfl (by first | exact nI_inc _ | rfl) (by decide) ?_
        refine e_goto hX iL_law_30 ?_
        refine e_loc [0, 1, 2] ?_
        refine e_wid (k' := 30 + 2 * (k + 1)) (n' := 200 + 26 * (k + 1)) (by omega) (by omega) ?_
        exact ih (k + 1) _ σ2 (by omega) (by omega) hg4 (hv2 0 hv)
  refine e_astore_n hX 1 iL_law_7 rfl (by decide) ?_
  refine e_iconst (v := 0) hX iL_law_8 (by decide) ?_
  refine e_istore_n hX 2 iL_law_9 rfl (by decide) ?_
  refine e_loc [0, 1, 2] ?_
  refine e_wid (k' := 30 + 2 * 0) (n' := 200 + 26 * 0) (Nat.le_of_ble_eq_true rfl) (Nat.le_of_ble_eq_true rfl) ?_
  exact adds 5 0 _ s_new (by omega) (by omega) hg1 iv.new
end LB
