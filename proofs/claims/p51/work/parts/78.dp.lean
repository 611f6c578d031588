/-! the law: dependencies -/
section RE
variable {l : Launch} {θ : e_T} {ph : e_PH} {g : Nat} {X : Nat → Prop} {σ : SG}
theorem r_clos (htr : l.stackTraces = false) (hg : GP θ ph g X σ) {s : Nat} (hs : s < 32) : W_closureOf l θ [.ref g, .int (nI s)] ph (rP θ ph g X σ (nI (a_clos σ s))) := by
  have h := l_closureOf htr hg (nI s)
  rw [qP_0 (show k_set (nI s) = 0 from if_pos (setB_t.mpr ⟨s, hs, rfl⟩)), ix_n (by omega)] at h
  exact h
theorem r_key (htr : l.stackTraces = false) (hg : GP θ ph g X σ) {s : Nat} (hs : s < 32) : W_isKey l θ [.ref g, .int (nI s)] ph (rP θ ph g X σ (b2i (keyB (nI s) (gN σ) (gV σ)))) := by
  have h := l_isKey htr hg (nI s)
  rw [qP_0 (show k_set (nI s) = 0 from if_pos (setB_t.mpr ⟨s, hs, rfl⟩))] at h
  exact h
theorem kdet_n {s c : Nat} (hs : s < 32) (hc : c < 5) : k_det (nI s) (nI c) = 0 := (if_pos (setB_t.mpr ⟨s, hs, rfl⟩)).trans (if_pos (colB_t.mpr ⟨c, hc, rfl⟩))
theorem adet_n {s c : Nat} (hs : s < 32) (hc : c < 5) : a_det σ (nI s) (nI c) = detB σ s c := by
  unfold a_det
  rw [ix_n (by omega), ix_n (by omega)]
theorem r_det (htr : l.stackTraces = false) (hg : GP θ ph g X σ) {s c : Nat} (hs : s < 32) (hc : c < 5) : W_determines l θ [.ref g, .int (nI s), .int (nI c)] ph (rP θ ph g X σ (b2i (detB σ s c))) := by
  have h := l_determines htr hg (nI s) (nI c)
  rw [qP_0 (kdet_n hs hc), adet_n hs hc] at h
  exact h
theorem r_detP (htr : l.stackTraces = false) (hg : GP θ ph g X σ) {s c : Nat} (hs : s < 32) (hc : c < 5) : W_determinesByPairs l θ [.ref g, .int (nI s), .int (nI c)] ph (rP θ ph g X σ (b2i (detB σ s c))) := by
  have h := l_determinesByPairs htr hg (nI s) (nI c)
  rw [qP_0 (kdet_n hs hc), adet_n hs hc] at h
  exact h
theorem r_err (htr : l.stackTraces = false) (hg : GP θ ph g X σ) {s c : Nat} (hs : s < 32) (hc : c < 5) (hb : s.testBit c = false) : W_errorOf l θ [.ref g, .int (nI s), .int (nI c)] ph (rP θ ph g X σ (nI (errN (nI s) c (gN σ) (gV σ)))) := by
  have h := l_errorOf htr hg (nI s) (nI c)
  rw [qP_0 (show k_err (nI s) (nI c) = 0 from (if_pos (colB_t.mpr ⟨c, hc, rfl⟩)).trans (if_pos (by rw [setB_t.mpr ⟨s, hs, rfl⟩, ix_n (by omega), ix_n (by omega), hb]; rfl))), ix_n (by omega)] at h
  exact h
theorem kcol_n {c : Nat} (hc : c < 5) : k_col (nI c) = 0 := if_pos (colB_t.mpr ⟨c, hc, rfl⟩)
theorem r_minC (htr : l.stackTraces = false) (hg : GP θ ph g X σ) {c : Nat} (hc : c < 5) : W_minimalCount l θ [.ref g, .int (nI c)] ph (rP θ ph g X σ (nI (pop32 (minM σ c)))) := by
  have h := l_minimalCount htr hg (nI c)
  rw [qP_0 (kcol_n hc), ix_n (by omega)] at h
  exact h
theorem r_minT (htr : l.stackTraces = false) (hg : GP θ ph g X σ) {c : Nat} (hc : c < 5) : W_minimalCountByTrying l θ [.ref g, .int (nI c)] ph (rP θ ph g X σ (nI (pop32 (minM σ c)))) := by
  have h := l_minimalCountByTrying htr hg (nI c)
  rw [qP_0 (kcol_n hc), ix_n (by omega), ← minCnt_T, minCnt_p] at h
  exact h
theorem r_minA (htr : l.stackTraces = false) (hg : GP θ ph g X σ) {c q : Nat} (hc : c < 5) (hq : q < pop32 (minM σ c)) : W_minimalAt l θ [.ref g, .int (nI c), .int (nI q)] ph (rP θ ph g X σ (nI (sioK (fun j => (minM σ c).testBit j) q % 32))) := by
  have hk : pop32 (minM σ c) ≤ 32 := cntB_le _ _
  have h := l_minimalAt htr hg (nI c) (nI q)
  rw [qP_0 (show k_minAt σ (nI c) (nI q) = 0 from (if_pos (colB_t.mpr ⟨c, hc, rfl⟩)).trans (if_pos (by rw [ix_n (by omega)]; exact (ltB_t (by omega)).mpr ⟨q, hq, rfl⟩))), show a_minAt σ (nI c) (nI q) = nI (sioK (fun j => (minM σ c).testBit j) q % 32) from by
    unfold a_minAt
    rw [ix_n (by omega), ix_n (by omega)]
    exact sio_v hq] at h
  exact h
theorem r_minX (htr : l.stackTraces = false) (hg : GP θ ph g X σ) {c : Nat} {q : Int32} (hc : c < 5) (hq : ¬ ∃ j, j < pop32 (minM σ c) ∧ q = nI j) : W_minimalAt l θ [.ref g, .int (nI c), .int q] ph (rP θ ph g X σ (-1001)) := by
  have hk : pop32 (minM σ c) ≤ 32 := cntB_le _ _
  have h := l_minimalAt htr hg (nI c) q
  rw [qP_r, show k_minAt σ (nI c) q = 1 from (if_pos (colB_t.mpr ⟨c, hc, rfl⟩)).trans (if_neg (by rw [ix_n (by omega)]; exact fun e => hq ((ltB_t (by omega)).mp e))), show qA 1 (a_minAt σ (nI c) q) = -1001 from (if_neg (by decide)).trans (by decide)] at h
  exact h
theorem r_sk0 (htr : l.stackTraces = false) (hg : GP θ ph g X σ) (h0 : keyM σ = 0) : W_smallestKey l θ [.ref g] ph (rP θ ph g X σ (-1001)) := by
  have h := l_smallestKey htr hg
  rw [qP_r, show k_sk σ = 1 from if_pos h0, show qA 1 (a_sk σ) = -1001 from (if_neg (by decide)).trans (by decide)] at h
  exact h
theorem r_sk1 (htr : l.stackTraces = false) (hg : GP θ ph g X σ) (h0 : ¬ keyM σ = 0) : W_smallestKey l θ [.ref g] ph (rP θ ph g X σ (a_sk σ)) := by
  have h := l_smallestKey htr hg
  rw [qP_0 (show k_sk σ = 0 from if_neg h0)] at h
  exact h
theorem nI_m1001 : ∀ m, m < 32 → ¬ nI m = -1001 := by decide +kernel
theorem nI_m1 {m : Nat} (hm : m < 2 ^ 31) : ¬ -1 = nI m := fun e => absurd (show (-1 : Int32) < 0 by decide) (by rw [e]; exact nI_pos hm)
end RE
section DP
variable {l : Launch} {θ : e_T} {ph : e_PH} {g : Nat} {X : Nat → Prop} {σ : SG} {s0 : e_K}
theorem q_deps (htr : l.stackTraces = false) (hg : GP θ ph g X σ) {s : Nat} (hs : s < 32) : MCN yL_dependencies cL_dependencies 12 (some .boolean) 8 1300 7800 l θ s0 [.ref g, .int (nI s)] ph (rP θ ph g X σ 1) := by
  refine MCN.of htr (by decide) (Nat.le_of_ble_eq_true rfl) ?_
  intro x hX hQ hN
  have loop : ∀ (z c : Nat) (p : e_PH), 5 - c < z → c ≤ 5 → GP θ p g X σ → kx ph p X → EJ θ x 32 [(0, .ref g), (1, .int (nI s)), (2, .int (nI (a_clos σ s))), (3, .int (nI c))] [] p (2 + 240 * c) (12 + 1440 * c) := by
    intro z
    induction z with
    | zero => intro c p hz; omega
    | succ z ih =>
      intro c p hz hc hgp hxp
      refine e_iload_n hX 3 iL_dependencies_32 rfl rfl ?_
      refine e_iconst (v := 5) hX iL_dependencies_33 (by decide) ?_
      refine e_icmp_ge hX iL_dependencies_34 (fun c34 => ?_) (fun c34 => ?_)
      · have hc5 : c = 5 := nI_same hc (by decide) c34
        subst hc5
        refine e_aload_n hX 0 iL_dependencies_355 rfl rfl ?_
        by_cases h0 : keyM σ = 0
        · refine e_callW hX hN.nc iW_L_dependencies_356 (r_sk0 htr hgp h0) rfl rfl ⟨by decide, by decide, by show _ ≤ 1300; omega, by show _ ≤ 7800; omega⟩ (Nat.le_of_ble_eq_true rfl) (fun v1 ph1 hv1 => ?_)
          obtain ⟨rfl, hg1, hx1⟩ := hv1
          refine e_istore_n hX 3 iL_dependencies_359 rfl (by decide) ?_
          refine e_iload_n hX 3 iL_dependencies_360 rfl rfl ?_
          refine e_sipush (v := (-1001)) hX iL_dependencies_361 (by decide) ?_
          refine e_icmp_ne hX iL_dependencies_364 (fun c364 => ?_) (fun c364 => ?_)
          · exact absurd rfl c364
          · refine e_aload_n hX 0 iL_dependencies_367 rfl rfl ?_
            refine e_bipush (v := 31) hX iL_dependencies_368 (by decide) ?_
            rw [show (31 : Int32) = nI 31 from rfl]
            refine e_callW hX hN.nc iW_L_dependencies_370 (r_key htr hg1 (s := 31) (by decide)) rfl rfl ⟨by decide, by decide, by show _ ≤ 1300; omega, by show _ ≤ 7800; omega⟩ (Nat.le_of_ble_eq_true rfl) (fun v2 ph2 hv2 => ?_)
            obtain ⟨rfl, hg2, hx2⟩ := hv2
            refine e_if_ne hX iL_dependencies_373 (fun c373 => ?_) (fun c373 => ?_)
            · exact absurd (by rw [sk_no h0]; rfl) c373
            · refine e_iconst (v := 1) hX iL_dependencies_376 (by decide) ?_
              refine e_goto hX iL_dependencies_377 ?_
              exact e_zret hX hQ iL_dependencies_398 rfl nar_1 (by show _ ≤ 1300; omega) (by show _ ≤ 7800; omega) ⟨rfl, hg2, (hxp.trans hx1).trans hx2⟩
        · obtain ⟨m, m1, m2, m3⟩ := sk_at h0
          refine e_callW hX hN.nc iW_L_dependencies_356 (r_sk1 htr hgp h0) rfl rfl ⟨by decide, by decide, by show _ ≤ 1300; omega, by show _ ≤ 7800; omega⟩ (Nat.le_of_ble_eq_true rfl) (fun v1 ph1 hv1 => ?_)
          obtain ⟨rfl, hg1, hx1⟩ := hv1
          rw [m2]
          refine e_istore_n hX 3 iL_dependencies_359 rfl (by decide) ?_
          refine e_iload_n hX 3 iL_dependencies_360 rfl rfl ?_
          refine e_sipush (v := (-1001)) hX iL_dependencies_361 (by decide) ?_
          refine e_icmp_ne hX iL_dependencies_364 (fun c364 => ?_) (fun c364 => ?_)
          · refine e_aload_n hX 0 iL_dependencies_384 rfl rfl ?_
            refine e_iload_n hX 3 iL_dependencies_385 rfl rfl ?_
            refine e_callW hX hN.nc iW_L_dependencies_386 (r_key htr hg1 m1) rfl rfl ⟨by decide, by decide, by show _ ≤ 1300; omega, by show _ ≤ 7800; omega⟩ (Nat.le_of_ble_eq_true rfl) (fun v2 ph2 hv2 => ?_)
            obtain ⟨rfl, hg2, hx2⟩ := hv2
            refine e_iconst (v := 1) hX iL_dependencies_389 (by decide) ?_
            refine e_icmp_ne hX iL_dependencies_390 (fun c390 => ?_) (fun c390 => ?_)
            · exact absurd (by rw [m3]; rfl) c390
            · refine e_iconst (v := 1) hX iL_dependencies_393 (by decide) ?_
              refine e_goto hX iL_dependencies_394 ?_
              exact e_zret hX hQ iL_dependencies_398 rfl nar_1 (by show _ ≤ 1300; omega) (by show _ ≤ 7800; omega) ⟨rfl, hg2, (hxp.trans hx1).trans hx2⟩
          · exact absurd c364 (nI_m1001 m m1)
      · have hc5 : c < 5 := nI_less hc (by decide) c34
        have hK : pop32 (minM σ c) ≤ 32 := cntB_le _ _
        -- the minimal sets, from 155 on
        have b155 : ∀ (p : e_PH), GP θ p g X σ → kx ph p X → EJ θ x 155 [(0, .ref g), (1, .int (nI s)), (2, .int (nI (a_clos σ s))), (3, .int (nI c)), (4, .int (b2i (detB σ s c)))] [] p (2 + 240 * c + 3) (12 + 1440 * c + 18) := by
          intro p hgp hxp
          have inner : ∀ (z q : Nat) (p : e_PH) (bf : Int32), pop32 (minM σ c) - q < z → q ≤ pop32 (minM σ c) → (∀ r, q ≤ r → r < pop32 (minM σ c) → bf < nI (sioK (fun j => (minM σ c).testBit j) r)) → GP θ p g X σ → kx ph p X → EJ θ x 208 [(0, .ref g), (1, .int (nI s)), (2, .int (nI (a_clos σ s))), (3, .int (nI c)), (4, .int (b2i (detB σ s c))), (5, .int (nI (pop32 (minM σ c)))), (6, .int (b2i (lessB σ s c q))), (7, .int bf), (8, .int (nI q))] [] p (2 + 240 * c + 7 + 7 * q) (12 + 1440 * c + 42 + 42 * q) := by
            intro z
            induction z with
            | zero => intro q p bf hz; omega
            | succ z ih2 =>
              intro q p bf hz hq hbf hgp hxp
              refine e_iload hX iL_dependencies_208 rfl ?_
              refine e_iload hX iL_dependencies_210 rfl ?_
              refine e_icmp_ge hX iL_dependencies_212 (fun c212 => ?_) (fun c212 => ?_)
              · have hqk : q = pop32 (minM σ c) := nI_same hq (by omega) c212
                subst hqk
                refine e_iload hX iL_dependencies_340 rfl ?_
                refine e_iload hX iL_dependencies_342 rfl ?_
                refine e_icmp_eq hX iL_dependencies_344 (fun c344 => ?_) (fun c344 => ?_)
                · refine e_iinc hX iL_dependencies_349 rfl (by first | exact nI_inc _ | rfl) (by decide) ?_
                  refine e_goto hX iL_dependencies_352 ?_
                  refine e_loc [0, 1, 2, 3] ?_
                  refine e_wid (k' := 2 + 240 * (c + 1)) (n' := 12 + 1440 * (c + 1)) (by omega) (by omega) ?_
                  exact ih (c + 1) _ (by omega) (by omega) hgp hxp
                · exact absurd (by rw [less_all hs]) c344
              · have hqk : q < pop32 (minM σ c) := nI_less hq (by omega) c212
                have hS := sio_at (f := fun j => (minM σ c).testBit j) hqk
                obtain ⟨m1, m2, m3⟩ := hit_s hS.1 hS.2.1
                have hmin : isMinB σ c (sioK (fun j => (minM σ c).testBit j) q % 32) = true := (minM_t m1).symm.trans m2
                have hlt := hbf q (Nat.le_refl q) hqk
                have hnx : ∀ r, q + 1 ≤ r → r < pop32 (minM σ c) → nI (sioK (fun j => (minM σ c).testBit j) q) < nI (sioK (fun j => (minM σ c).testBit j) r) := fun r h1 h2 => nI_lt (sio_lt h2 (by omega)) (by have := (sio_at (f := fun j => (minM σ c).testBit j) h2).1; omega)
                have hls : lessB σ s c (q + 1) = (lessB σ s c q || (decide (nI (sioK (fun j => (minM σ c).testBit j) q % 32) &&& (nI s ^^^ (-1)) = 0) && decide (b2i (s.testBit c) = 0))) := rfl
                obtain ⟨K, hKe⟩ : ∃ K, K = sioK (fun j => (minM σ c).testBit j) q := ⟨_, rfl⟩
                obtain ⟨m, hm⟩ : ∃ m, m = K % 32 := ⟨_, rfl⟩
                refine e_aload_n hX 0 iL_dependencies_215 rfl rfl ?_
                refine e_iload_n hX 3 iL_dependencies_216 rfl rfl ?_
                refine e_iload hX iL_dependencies_217 rfl ?_
                refine e_callW hX hN.nc iW_L_dependencies_219 (r_minA htr hgp hc5 hqk) rfl rfl ⟨by decide, by decide, by show _ ≤ 1300; omega, by show _ ≤ 7800; omega⟩ (Nat.le_of_ble_eq_true rfl) (fun v1 ph1 hv1 => ?_)
                obtain ⟨rfl, hg1, hx1⟩ := hv1
                rw [← hKe] at m1 m2 m3 hmin hlt hnx hls ⊢
                rw [← hm] at m1 m2 m3 hmin hls ⊢
                have hK192 : K < 192 := by rw [hKe]; exact hS.1
                refine e_istore hX iL_dependencies_222 (by decide) ?_
                refine e_bipush (v := 32) hX iL_dependencies_224 (by decide) ?_
                refine e_iload hX iL_dependencies_226 rfl ?_
                refine e_callS hX iL_dependencies_228 (c_bitCount htr (show m < 2 ^ 12 by omega)) rfl rfl ⟨by decide, by decide, by show _ ≤ 1300; omega, by show _ ≤ 7800; omega⟩ (Nat.le_of_ble_eq_true rfl) (fun _ _ h => h.elim) (fun v2 ph2 hv2 => ?_)
                obtain ⟨rfl, e2⟩ := hv2
                subst ph2
                refine e_imul hX iL_dependencies_231 ?_
                refine e_iload hX iL_dependencies_232 rfl ?_
                refine e_iadd hX iL_dependencies_234 ?_
                rw [show (32 : Int32) = nI 32 from rfl, pk_mul, nI_add, show 32 * popN m + m = K from m3.symm]
                refine e_istore hX iL_dependencies_235 (by decide) ?_
                refine e_iload hX iL_dependencies_237 rfl ?_
                refine e_iload hX iL_dependencies_239 rfl ?_
                refine e_icmp_le hX iL_dependencies_241 (fun c241 => ?_) (fun c241 => ?_)
                · exact absurd hlt (Int32.not_lt.mpr c241)
                · refine e_aload_n hX 0 iL_dependencies_244 rfl rfl ?_
                  refine e_iload hX iL_dependencies_245 rfl ?_
                  refine e_iload_n hX 3 iL_dependencies_247 rfl rfl ?_
                  refine e_callW hX hN.nc iW_L_dependencies_248 (r_det htr hg1 m1 hc5) rfl rfl ⟨by decide, by decide, by show _ ≤ 1300; omega, by show _ ≤ 7800; omega⟩ (Nat.le_of_ble_eq_true rfl) (fun v3 ph3 hv3 => ?_)
                  obtain ⟨rfl, hg3, hx3⟩ := hv3
                  rw [min_det hmin]
                  refine e_iconst (v := 1) hX iL_dependencies_251 (by decide) ?_
                  refine e_icmp_eq hX iL_dependencies_252 (fun c252 => ?_) (fun c252 => ?_)
                  · -- one column less
                    have bl : ∀ (z b : Nat) (p : e_PH), 5 - b < z → b ≤ 5 → GP θ p g X σ → kx ph p X → EJ θ x 260 [(0, .ref g), (1, .int (nI s)), (2, .int (nI (a_clos σ s))), (3, .int (nI c)), (4, .int (b2i (detB σ s c))), (5, .int (nI (pop32 (minM σ c)))), (6, .int (b2i (lessB σ s c q))), (7, .int bf), (8, .int (nI q)), (9, .int (nI m)), (10, .int (nI K)), (11, .int (nI b))] [] p (2 + 240 * c + 7 + 7 * q + 2 + b) (12 + 1440 * c + 42 + 42 * q + 12 + 6 * b) := by
                      intro z
                      induction z with
                      | zero => intro b p hz; omega
                      | succ z ih3 =>
                        intro b p hz hb hgp hxp
                        have next : ∀ (p : e_PH), b < 5 → GP θ p g X σ → kx ph p X → EJ θ x 297 [(0, .ref g), (1, .int (nI s)), (2, .int (nI (a_clos σ s))), (3, .int (nI c)), (4, .int (b2i (detB σ s c))), (5, .int (nI (pop32 (minM σ c)))), (6, .int (b2i (lessB σ s c q))), (7, .int bf), (8, .int (nI q)), (9, .int (nI m)), (10, .int (nI K)), (11, .int (nI b))] [] p (2 + 240 * c + 7 + 7 * q + 2 + (b + 1)) (12 + 1440 * c + 42 + 42 * q + 12 + 6 * (b + 1)) := by
                          intro p hb5 hgp hxp
                          refine e_iinc hX iL_dependencies_297 rfl (by first | exact nI_inc _ | rfl) (by decide) ?_
                          refine e_goto hX iL_dependencies_300 ?_
                          refine e_loc [0, 1, 2, 3, 4, 5, 6, 7, 8, 9, 10, 11] ?_
                          exact ih3 (b + 1) _ (by omega) (by omega) hgp hxp
                        refine e_iload hX iL_dependencies_260 rfl ?_
                        refine e_iconst (v := 5) hX iL_dependencies_262 (by decide) ?_
                        refine e_icmp_ge hX iL_dependencies_263 (fun c263 => ?_) (fun c263 => ?_)
                        · have hb5 : b = 5 := nI_same hb (by decide) c263
                          subst hb5
                          have fin : ∀ (t : Bool), lessB σ s c (q + 1) = (lessB σ s c q || t) → EJ θ x 327 [(0, .ref g), (1, .int (nI s)), (2, .int (nI (a_clos σ s))), (3, .int (nI c)), (4, .int (b2i (detB σ s c))), (5, .int (nI (pop32 (minM σ c)))), (6, .int (b2i (lessB σ s c q))), (7, .int bf), (8, .int (nI q)), (9, .int (nI m)), (10, .int (nI K)), (11, .int (nI 5))] [.int (b2i t), .int (b2i (lessB σ s c q))] p (2 + 240 * c + 7 + 7 * q + 2 + 5) (12 + 1440 * c + 42 + 42 * q + 12 + 6 * 5) := by
                            intro t ht
                            refine e_ior hX iL_dependencies_327 ?_
                            rw [b2i_or, ← ht]
                            refine e_istore hX iL_dependencies_328 (by decide) ?_
                            refine e_iload hX iL_dependencies_330 rfl ?_
                            refine e_istore hX iL_dependencies_332 (by decide) ?_
                            refine e_iinc hX iL_dependencies_334 rfl (by first | exact nI_inc _ | rfl) (by decide) ?_
                            refine e_goto hX iL_dependencies_337 ?_
                            refine e_loc [0, 1, 2, 3, 4, 5, 6, 7, 8] ?_
                            refine e_wid (k' := 2 + 240 * c + 7 + 7 * (q + 1)) (n' := 12 + 1440 * c + 42 + 42 * (q + 1)) (by omega) (by omega) ?_
                            exact ih2 (q + 1) _ _ (by omega) (by omega) hnx hgp hxp
                          refine e_iload hX iL_dependencies_303 rfl ?_
                          refine e_iload hX iL_dependencies_305 rfl ?_
                          refine e_iload_n hX 1 iL_dependencies_307 rfl rfl ?_
                          refine e_iconst (v := (-1)) hX iL_dependencies_308 (by decide) ?_
                          refine e_ixor hX iL_dependencies_309 ?_
                          refine e_iand hX iL_dependencies_310 ?_
                          refine e_if_ne hX iL_dependencies_311 (fun c311 => ?_) (fun c311 => ?_)
                          · refine e_iconst (v := 0) hX iL_dependencies_326 (by decide) ?_
                            exact fin false (by rw [hls, decide_eq_false c311]; rfl)
                          · refine e_iload_n hX 1 iL_dependencies_314 rfl rfl ?_
                            refine e_iload_n hX 3 iL_dependencies_315 rfl rfl ?_
                            refine e_ishr hX iL_dependencies_316 ?_
                            refine e_iconst (v := 1) hX iL_dependencies_317 (by decide) ?_
                            refine e_iand hX iL_dependencies_318 ?_
                            rw [bit_i (by omega)]
                            refine e_if_ne hX iL_dependencies_319 (fun c319 => ?_) (fun c319 => ?_)
                            · refine e_iconst (v := 0) hX iL_dependencies_326 (by decide) ?_
                              exact fin false (by rw [hls, decide_eq_false c319, Bool.and_false])
                            · refine e_iconst (v := 1) hX iL_dependencies_322 (by decide) ?_
                              refine e_goto hX iL_dependencies_323 ?_
                              exact fin true (by rw [hls, decide_eq_true c311, decide_eq_true c319]; rfl)
                        · have hb5 : b < 5 := nI_less hb (by decide) c263
                          refine e_iload hX iL_dependencies_266 rfl ?_
                          refine e_iload hX iL_dependencies_268 rfl ?_
                          refine e_ishr hX iL_dependencies_270 ?_
                          refine e_iconst (v := 1) hX iL_dependencies_271 (by decide) ?_
                          refine e_iand hX iL_dependencies_272 ?_
                          rw [bit_i (by omega)]
                          refine e_iconst (v := 1) hX iL_dependencies_273 (by decide) ?_
                          refine e_icmp_ne hX iL_dependencies_274 (fun c274 => ?_) (fun c274 => ?_)
                          · refine e_wid (k' := 2 + 240 * c + 7 + 7 * q + 2 + (b + 1)) (n' := 12 + 1440 * c + 42 + 42 * q + 12 + 6 * (b + 1)) (by omega) (by omega) ?_
                            exact next _ hb5 hgp hxp
                          · have ht : m.testBit b = true := b2i_1.mp c274
                            refine e_aload_n hX 0 iL_dependencies_277 rfl rfl ?_
                            refine e_iload hX iL_dependencies_278 rfl ?_
                            refine e_iconst (v := 1) hX iL_dependencies_280 (by decide) ?_
                            refine e_iload hX iL_dependencies_281 rfl ?_
                            refine e_ishl hX iL_dependencies_283 ?_
                            refine e_iconst (v := (-1)) hX iL_dependencies_284 (by decide) ?_
                            refine e_ixor hX iL_dependencies_285 ?_
                            refine e_iand hX iL_dependencies_286 ?_
                            rw [(drop_b m m1 b hb5 ht).1]
                            refine e_iload_n hX 3 iL_dependencies_287 rfl rfl ?_
                            refine e_callW hX hN.nc iW_L_dependencies_288 (r_det htr hgp (show m - 2 ^ b < 32 from Nat.lt_trans (drop_b m m1 b hb5 ht).2.1 m1) hc5) rfl rfl ⟨by decide, by decide, by show _ ≤ 1300; omega, by show _ ≤ 7800; omega⟩ (Nat.le_of_ble_eq_true rfl) (fun v5 ph5 hv5 => ?_)
                            obtain ⟨rfl, hg5, hx5⟩ := hv5
                            rw [min_no m1 hb5 hmin ht]
                            refine e_iconst (v := 1) hX iL_dependencies_291 (by decide) ?_
                            refine e_icmp_ne hX iL_dependencies_292 (fun c292 => ?_) (fun c292 => ?_)
                            · refine e_wid (k' := 2 + 240 * c + 7 + 7 * q + 2 + (b + 1)) (n' := 12 + 1440 * c + 42 + 42 * q + 12 + 6 * (b + 1)) (by omega) (by omega) ?_
                              exact next _ hb5 hg5 (hxp.trans hx5)
                            · exact absurd c292 (by decide)
                    refine e_iconst (v := 0) hX iL_dependencies_257 (by decide) ?_
                    refine e_istore hX iL_dependencies_258 (by decide) ?_
                    refine e_loc [0, 1, 2, 3, 4, 5, 6, 7, 8, 9, 10, 11] ?_
                    refine e_wid (k' := 2 + 240 * c + 7 + 7 * q + 2 + 0) (n' := 12 + 1440 * c + 42 + 42 * q + 12 + 6 * 0) (by omega) (by omega) ?_
                    exact bl 6 0 _ (by omega) (by omega) hg3 ((hxp.trans hx1).trans hx3)
                  · exact absurd rfl c252
          refine e_aload_n hX 0 iL_dependencies_155 rfl rfl ?_
          refine e_iload_n hX 3 iL_dependencies_156 rfl rfl ?_
          refine e_callW hX hN.nc iW_L_dependencies_157 (r_minC htr hgp hc5) rfl rfl ⟨by decide, by decide, by show _ ≤ 1300; omega, by show _ ≤ 7800; omega⟩ (Nat.le_of_ble_eq_true rfl) (fun v1 ph1 hv1 => ?_)
          obtain ⟨rfl, hg1, hx1⟩ := hv1
          refine e_istore hX iL_dependencies_160 (by decide) ?_
          refine e_iload hX iL_dependencies_162 rfl ?_
          refine e_aload_n hX 0 iL_dependencies_164 rfl rfl ?_
          refine e_iload_n hX 3 iL_dependencies_165 rfl rfl ?_
          refine e_callW hX hN.nc iW_L_dependencies_166 (r_minT htr hg1 hc5) rfl rfl ⟨by decide, by decide, by show _ ≤ 1300; omega, by show _ ≤ 7800; omega⟩ (Nat.le_of_ble_eq_true rfl) (fun v2 ph2 hv2 => ?_)
          obtain ⟨rfl, hg2, hx2⟩ := hv2
          refine e_icmp_ne hX iL_dependencies_169 (fun c169 => ?_) (fun c169 => ?_)
          · exact absurd rfl c169
          · refine e_aload_n hX 0 iL_dependencies_172 rfl rfl ?_
            refine e_iload_n hX 3 iL_dependencies_173 rfl rfl ?_
            refine e_iload hX iL_dependencies_174 rfl ?_
            refine e_callW hX hN.nc iW_L_dependencies_176 (r_minX htr hg2 hc5 (fun ⟨j, h1, h2⟩ => absurd ((nI_eq (by omega) (by omega)).mp h2) (by omega))) rfl rfl ⟨by decide, by decide, by show _ ≤ 1300; omega, by show _ ≤ 7800; omega⟩ (Nat.le_of_ble_eq_true rfl) (fun v3 ph3 hv3 => ?_)
            obtain ⟨rfl, hg3, hx3⟩ := hv3
            refine e_sipush (v := (-1001)) hX iL_dependencies_179 (by decide) ?_
            refine e_icmp_ne hX iL_dependencies_182 (fun c182 => ?_) (fun c182 => ?_)
            · exact absurd rfl c182
            · refine e_aload_n hX 0 iL_dependencies_185 rfl rfl ?_
              refine e_iload_n hX 3 iL_dependencies_186 rfl rfl ?_
              refine e_iconst (v := (-1)) hX iL_dependencies_187 (by decide) ?_
              refine e_callW hX hN.nc iW_L_dependencies_188 (r_minX htr hg3 hc5 (fun ⟨j, h1, h2⟩ => nI_m1 (show j < 2 ^ 31 by omega) h2)) rfl rfl ⟨by decide, by decide, by show _ ≤ 1300; omega, by show _ ≤ 7800; omega⟩ (Nat.le_of_ble_eq_true rfl) (fun v4 ph4 hv4 => ?_)
              obtain ⟨rfl, hg4, hx4⟩ := hv4
              refine e_sipush (v := (-1001)) hX iL_dependencies_191 (by decide) ?_
              refine e_icmp_eq hX iL_dependencies_194 (fun c194 => ?_) (fun c194 => ?_)
              · refine e_iconst (v := 0) hX iL_dependencies_199 (by decide) ?_
                refine e_istore hX iL_dependencies_200 (by decide) ?_
                refine e_iconst (v := (-1)) hX iL_dependencies_202 (by decide) ?_
                refine e_istore hX iL_dependencies_203 (by decide) ?_
                refine e_iconst (v := 0) hX iL_dependencies_205 (by decide) ?_
                refine e_istore hX iL_dependencies_206 (by decide) ?_
                refine e_loc [0, 1, 2, 3, 4, 5, 6, 7, 8] ?_
                refine e_wid (k' := 2 + 240 * c + 7 + 7 * 0) (n' := 12 + 1440 * c + 42 + 42 * 0) (by omega) (by omega) ?_
                exact inner (pop32 (minM σ c) + 1) 0 _ _ (by omega) (by omega) (fun r _ h2 => by
                  have := (sio_at (f := fun j => (minM σ c).testBit j) h2).1
                  exact Int32.lt_of_lt_of_le (show (-1 : Int32) < 0 by decide) (nI_pos' (by omega))) hg4 ((((hxp.trans hx1).trans hx2).trans hx3).trans hx4)
              · exact absurd rfl c194
        have b126 : ∀ (p : e_PH), GP θ p g X σ → kx ph p X → EJ θ x 126 [(0, .ref g), (1, .int (nI s)), (2, .int (nI (a_clos σ s))), (3, .int (nI c)), (4, .int (b2i (detB σ s c)))] [] p (2 + 240 * c + 2) (12 + 1440 * c + 12) := by
          intro p hgp hxp
          refine e_iload_n hX 1 iL_dependencies_126 rfl rfl ?_
          refine e_iload_n hX 3 iL_dependencies_127 rfl rfl ?_
          refine e_ishr hX iL_dependencies_128 ?_
          refine e_iconst (v := 1) hX iL_dependencies_129 (by decide) ?_
          refine e_iand hX iL_dependencies_130 ?_
          rw [bit_i (by omega)]
          refine e_if_ne hX iL_dependencies_131 (fun c131 => ?_) (fun c131 => ?_)
          · refine e_wid (k' := 2 + 240 * c + 3) (n' := 12 + 1440 * c + 18) (by omega) (by omega) ?_
            exact b155 _ hgp hxp
          · have hb : s.testBit c = false := b2i_0.mp c131
            refine e_aload_n hX 0 iL_dependencies_134 rfl rfl ?_
            refine e_iload_n hX 1 iL_dependencies_135 rfl rfl ?_
            refine e_iload_n hX 3 iL_dependencies_136 rfl rfl ?_
            refine e_callW hX hN.nc iW_L_dependencies_137 (r_err htr hgp hs hc5 hb) rfl rfl ⟨by decide, by decide, by show _ ≤ 1300; omega, by show _ ≤ 7800; omega⟩ (Nat.le_of_ble_eq_true rfl) (fun v1 ph1 hv1 => ?_)
            obtain ⟨rfl, hg1, hx1⟩ := hv1
            refine e_z0 hX iL_dependencies_140 iL_dependencies_143 iL_dependencies_144 iL_dependencies_147 ?_
            refine e_iload hX iL_dependencies_148 rfl ?_
            refine e_icmp_eq hX iL_dependencies_150 (fun c150 => ?_) (fun c150 => ?_)
            · refine e_wid (k' := 2 + 240 * c + 3) (n' := 12 + 1440 * c + 18) (by omega) (by omega) ?_
              exact b155 _ hg1 (hxp.trans hx1)
            · refine absurd ?_ c150
              have hle : errN (nI s) c (gN σ) (gV σ) < 2 ^ 31 := err_lt hg.ok.1
              rw [show decide (nI (errN (nI s) c (gN σ) (gV σ)) = 0) = detB σ s c from by
                rw [Bool.eq_iff_iff, decide_eq_true_eq, ← err_det hb]
                exact nI_eq (b := 0) hle (by decide)]
        refine e_aload_n hX 0 iL_dependencies_37 rfl rfl ?_
        refine e_iload_n hX 1 iL_dependencies_38 rfl rfl ?_
        refine e_iload_n hX 3 iL_dependencies_39 rfl rfl ?_
        refine e_callW hX hN.nc iW_L_dependencies_40 (r_det htr hgp hs hc5) rfl rfl ⟨by decide, by decide, by show _ ≤ 1300; omega, by show _ ≤ 7800; omega⟩ (Nat.le_of_ble_eq_true rfl) (fun v1 ph1 hv1 => ?_)
        obtain ⟨rfl, hg1, hx1⟩ := hv1
        refine e_iconst (v := 1) hX iL_dependencies_43 (by decide) ?_
        refine e_eqB hX iL_dependencies_44 iL_dependencies_47 iL_dependencies_48 iL_dependencies_51 ?_
        rw [b1_b]
        refine e_istore hX iL_dependencies_52 (by decide) ?_
        refine e_iload hX iL_dependencies_54 rfl ?_
        refine e_aload_n hX 0 iL_dependencies_56 rfl rfl ?_
        refine e_iload_n hX 1 iL_dependencies_57 rfl rfl ?_
        refine e_iload_n hX 3 iL_dependencies_58 rfl rfl ?_
        refine e_callW hX hN.nc iW_L_dependencies_59 (r_detP htr hg1 hs hc5) rfl rfl ⟨by decide, by decide, by show _ ≤ 1300; omega, by show _ ≤ 7800; omega⟩ (Nat.le_of_ble_eq_true rfl) (fun v2 ph2 hv2 => ?_)
        obtain ⟨rfl, hg2, hx2⟩ := hv2
        refine e_iconst (v := 1) hX iL_dependencies_62 (by decide) ?_
        refine e_eqB hX iL_dependencies_63 iL_dependencies_66 iL_dependencies_67 iL_dependencies_70 ?_
        rw [b1_b]
        refine e_icmp_ne hX iL_dependencies_71 (fun c71 => ?_) (fun c71 => ?_)
        · exact absurd rfl c71
        · have b88 : EJ θ x 88 [(0, .ref g), (1, .int (nI s)), (2, .int (nI (a_clos σ s))), (3, .int (nI c)), (4, .int (b2i (detB σ s c)))] [] ph2 (2 + 240 * c + 2) (12 + 1440 * c + 12) := by
            refine e_iload_n hX 2 iL_dependencies_88 rfl rfl ?_
            refine e_iload_n hX 3 iL_dependencies_89 rfl rfl ?_
            refine e_ishr hX iL_dependencies_90 ?_
            refine e_iconst (v := 1) hX iL_dependencies_91 (by decide) ?_
            refine e_iand hX iL_dependencies_92 ?_
            rw [bit_i (by omega), clos_t hc5]
            refine e_iconst (v := 1) hX iL_dependencies_93 (by decide) ?_
            refine e_eqB hX iL_dependencies_94 iL_dependencies_97 iL_dependencies_98 iL_dependencies_101 ?_
            rw [b1_b]
            refine e_iload hX iL_dependencies_102 rfl ?_
            refine e_if_ne hX iL_dependencies_104 (fun c104 => ?_) (fun c104 => ?_)
            · have hd := b2i_n0.mp c104
              refine e_iconst (v := 1) hX iL_dependencies_116 (by decide) ?_
              refine e_goto hX iL_dependencies_117 ?_
              refine e_icmp_eq hX iL_dependencies_121 (fun c121 => ?_) (fun c121 => ?_)
              · exact b126 _ hg2 ((hxp.trans hx1).trans hx2)
              · exact absurd (by rw [hd, Bool.or_true]; rfl) c121
            · have hd := b2i_0.mp c104
              refine e_iload_n hX 1 iL_dependencies_107 rfl rfl ?_
              refine e_iload_n hX 3 iL_dependencies_108 rfl rfl ?_
              refine e_ishr hX iL_dependencies_109 ?_
              refine e_iconst (v := 1) hX iL_dependencies_110 (by decide) ?_
              refine e_iand hX iL_dependencies_111 ?_
              rw [bit_i (by omega)]
              refine e_iconst (v := 1) hX iL_dependencies_112 (by decide) ?_
              refine e_icmp_ne hX iL_dependencies_113 (fun c113 => ?_) (fun c113 => ?_)
              · have hb : s.testBit c = false := by
                  cases e : s.testBit c
                  · rfl
                  · exact absurd (by rw [e]; rfl) c113
                refine e_iconst (v := 0) hX iL_dependencies_120 (by decide) ?_
                refine e_icmp_eq hX iL_dependencies_121 (fun c121 => ?_) (fun c121 => ?_)
                · exact b126 _ hg2 ((hxp.trans hx1).trans hx2)
                · exact absurd (by rw [hd, hb]; rfl) c121
              · have hb := b2i_1.mp c113
                refine e_iconst (v := 1) hX iL_dependencies_116 (by decide) ?_
                refine e_goto hX iL_dependencies_117 ?_
                refine e_icmp_eq hX iL_dependencies_121 (fun c121 => ?_) (fun c121 => ?_)
                · exact b126 _ hg2 ((hxp.trans hx1).trans hx2)
                · exact absurd (by rw [hb]; rfl) c121
          refine e_iload_n hX 1 iL_dependencies_74 rfl rfl ?_
          refine e_iload_n hX 3 iL_dependencies_75 rfl rfl ?_
          refine e_ishr hX iL_dependencies_76 ?_
          refine e_iconst (v := 1) hX iL_dependencies_77 (by decide) ?_
          refine e_iand hX iL_dependencies_78 ?_
          rw [bit_i (by omega)]
          refine e_iconst (v := 1) hX iL_dependencies_79 (by decide) ?_
          refine e_icmp_ne hX iL_dependencies_80 (fun c80 => ?_) (fun c80 => ?_)
          · refine e_wid (k' := 2 + 240 * c + 2) (n' := 12 + 1440 * c + 12) (by omega) (by omega) ?_
            exact b88
          · have hb := b2i_1.mp c80
            refine e_iload hX iL_dependencies_83 rfl ?_
            refine e_if_ne hX iL_dependencies_85 (fun c85 => ?_) (fun c85 => ?_)
            · exact absurd (by rw [det_in hb]; rfl) c85
            · refine e_wid (k' := 2 + 240 * c + 2) (n' := 12 + 1440 * c + 12) (by omega) (by omega) ?_
              exact b88
  refine e_aload_n hX 0 iL_dependencies_0 rfl rfl ?_
  refine e_iload_n hX 1 iL_dependencies_1 rfl rfl ?_
  refine e_callW hX hN.nc iW_L_dependencies_2 (r_clos htr hg hs) rfl rfl ⟨by decide, by decide, by show _ ≤ 1300; omega, by show _ ≤ 7800; omega⟩ (Nat.le_of_ble_eq_true rfl) (fun v1 ph1 hv1 => ?_)
  obtain ⟨rfl, hg1, hx1⟩ := hv1
  refine e_istore_n hX 2 iL_dependencies_5 rfl (by decide) ?_
  refine e_iload_n hX 2 iL_dependencies_6 rfl rfl ?_
  refine e_iload_n hX 1 iL_dependencies_7 rfl rfl ?_
  refine e_iand hX iL_dependencies_8 ?_
  rw [clos_sup hs]
  refine e_iload_n hX 1 iL_dependencies_9 rfl rfl ?_
  have start : ∀ (p : e_PH), GP θ p g X σ → kx ph p X → EJ θ x 30 [(0, .ref g), (1, .int (nI s)), (2, .int (nI (a_clos σ s)))] [] p 2 12 := by
    intro p hgp hxp
    refine e_iconst (v := 0) hX iL_dependencies_30 (by decide) ?_
    refine e_istore_n hX 3 iL_dependencies_31 rfl (by decide) ?_
    refine e_loc [0, 1, 2, 3] ?_
    refine e_wid (k' := 2 + 240 * 0) (n' := 12 + 1440 * 0) (by omega) (by omega) ?_
    exact loop 6 0 _ (by omega) (by omega) hgp hxp
  refine e_icmp_ne hX iL_dependencies_10 (fun c10 => ?_) (fun c10 => ?_)
  · exact absurd rfl c10
  · refine e_aload_n hX 0 iL_dependencies_13 rfl rfl ?_
    refine e_iload_n hX 1 iL_dependencies_14 rfl rfl ?_
    refine e_callW hX hN.nc iW_L_dependencies_15 (r_key htr hg1 hs) rfl rfl ⟨by decide, by decide, by show _ ≤ 1300; omega, by show _ ≤ 7800; omega⟩ (Nat.le_of_ble_eq_true rfl) (fun v2 ph2 hv2 => ?_)
    obtain ⟨rfl, hg2, hx2⟩ := hv2
    refine e_iconst (v := 1) hX iL_dependencies_18 (by decide) ?_
    refine e_icmp_ne hX iL_dependencies_19 (fun c19 => ?_) (fun c19 => ?_)
    · refine e_wid (k' := 2) (n' := 12) (by omega) (by omega) ?_
      exact start _ hg2 (hx1.trans hx2)
    · have hk := b2i_1.mp c19
      refine e_iload_n hX 2 iL_dependencies_22 rfl rfl ?_
      refine e_bipush (v := 31) hX iL_dependencies_23 (by decide) ?_
      refine e_icmp_eq hX iL_dependencies_25 (fun c25 => ?_) (fun c25 => ?_)
      · refine e_wid (k' := 2) (n' := 12) (by omega) (by omega) ?_
        exact start _ hg2 (hx1.trans hx2)
      · exact absurd (by rw [key_31 hs hk]; rfl) c25
end DP
