/-! the law: repairs -/
section RP
variable {l : Launch} {θ : e_T} {ph : e_PH} {g : Nat} {X : Nat → Prop} {σ : SG} {D : Nat} {s0 : e_K}
theorem q_repairs (htr : l.stackTraces = false) (hg : GP θ ph g X σ) (hv : idS D σ) (hD : D < 2 ^ 30) : MCN yL_repairs cL_repairs 9 (some .boolean) 18 1500 9000 l θ s0 [.ref g] ph (rP θ ph g X σ 1) := by
  have hn := hg.ok.1
  refine MCN.of htr (by decide) (Nat.le_of_ble_eq_true rfl) ?_
  intro x hX hQ hN
  let Rb : Nat → Bool := fun i => (bstN σ).testBit i
  let S : Nat → Nat := fun i => popN (rchN σ i)
  let f : Nat → Nat := fun k => 27720 / popN (rchN σ k)
  have loop : ∀ (z k : Nat) (p : e_PH), gN σ - k < z → k ≤ gN σ → GP θ p g X σ → kx ph p X → EJ θ x 6 [(0, .ref g), (1, .int (nI (cntB k Rb))), (2, .int (nI (sumN k f))), (3, .int (nI k))] [] p (120 * k) (720 * k) := by
    intro z
    induction z with
    | zero => intro k p hz; omega
    | succ z ih =>
      intro k p hz hk hgp hxp
      obtain ⟨fs, hgo⟩ := hgp.go
      refine e_iload_n hX 3 iL_repairs_6 rfl rfl ?_
      refine e_aload_n hX 0 iL_repairs_7 rfl rfl ?_
      refine e_callV hX iL_repairs_8 hgo (m_rowCount htr hgp) rfl rfl ⟨by decide, by decide, by show _ ≤ 1500; omega, by show _ ≤ 9000; omega⟩ (Nat.le_of_ble_eq_true rfl) (fun _ _ h => h.elim) (fun v1 ph1 hv1 => ?_)
      obtain ⟨-, rfl, hg1, hx1⟩ := hv1
      refine e_icmp_ge hX iL_repairs_11 (fun c11 => ?_) (fun c11 => ?_)
      · have hkn : k = gN σ := nI_same hk (by omega) c11
        subst hkn
        obtain ⟨fs1, hgo1⟩ := hg1.go
        refine e_iload_n hX 1 iL_repairs_284 rfl rfl ?_
        refine e_aload_n hX 0 iL_repairs_285 rfl rfl ?_
        refine e_callV hX iL_repairs_286 hgo1 (m_fewest htr hg1) rfl rfl ⟨by decide, by decide, by show _ ≤ 1500; omega, by show _ ≤ 9000; omega⟩ (Nat.le_of_ble_eq_true rfl) (fun _ _ h => h.elim) (fun v2 ph2 hv2 => ?_)
        obtain ⟨-, rfl, hg2, hx2⟩ := hv2
        refine e_icmp_ne hX iL_repairs_289 (fun c289 => ?_) (fun c289 => ?_)
        · exact absurd (by rw [few_n hn]) c289
        · obtain ⟨fs2, hgo2⟩ := hg2.go
          refine e_iload_n hX 1 iL_repairs_292 rfl rfl ?_
          refine e_aload_n hX 0 iL_repairs_293 rfl rfl ?_
          refine e_callV hX iL_repairs_294 hgo2 (m_fewestT htr hg2) rfl rfl ⟨by decide, by decide, by show _ ≤ 1500; omega, by show _ ≤ 9000; omega⟩ (Nat.le_of_ble_eq_true rfl) (fun _ _ h => h.elim) (fun v3 ph3 hv3 => ?_)
          obtain ⟨-, rfl, hg3, hx3⟩ := hv3
          rw [try_eq hn]
          refine e_icmp_ne hX iL_repairs_297 (fun c297 => ?_) (fun c297 => ?_)
          · exact absurd (by rw [few_n hn]) c297
          · obtain ⟨fs3, hgo3⟩ := hg3.go
            refine e_iload_n hX 2 iL_repairs_300 rfl rfl ?_
            refine e_sipush (v := 27720) hX iL_repairs_301 (by decide) ?_
            refine e_aload_n hX 0 iL_repairs_304 rfl rfl ?_
            refine e_callV hX iL_repairs_305 hgo3 (m_groups htr hg3) rfl rfl ⟨by decide, by decide, by show _ ≤ 1500; omega, by show _ ≤ 9000; omega⟩ (Nat.le_of_ble_eq_true rfl) (fun _ _ h => h.elim) (fun v4 ph4 hv4 => ?_)
            obtain ⟨-, rfl, hg4, hx4⟩ := hv4
            refine e_imul hX iL_repairs_308 ?_
            refine e_icmp_ne hX iL_repairs_309 (fun c309 => ?_) (fun c309 => ?_)
            · exact absurd (by rw [gs_sum hn, show (27720 : Int32) = nI 27720 from rfl, pk_mul, Nat.mul_comm]) c309
            · refine e_iconst (v := 1) hX iL_repairs_312 (by decide) ?_
              refine e_goto hX iL_repairs_313 ?_
              exact e_zret hX hQ iL_repairs_317 rfl nar_1 (by show _ ≤ 1500; omega) (by show _ ≤ 9000; omega) ⟨rfl, hg4, (((hxp.trans hx1).trans hx2).trans hx3).trans hx4⟩
      · have hkn : k < gN σ := nI_less hk (by omega) c11
        refine e_aload_n hX 0 iL_repairs_14 rfl rfl ?_
        refine e_iload_n hX 3 iL_repairs_15 rfl rfl ?_
        refine e_callW hX hN.nc iW_L_repairs_16 (r_rowAt htr hg1 hkn) rfl rfl ⟨by decide, by decide, by show _ ≤ 1500; omega, by show _ ≤ 9000; omega⟩ (Nat.le_of_ble_eq_true rfl) (fun v2 ph2 hv2 => ?_)
        obtain ⟨rfl, hg2, hx2⟩ := hv2
        -- the row from 39 on
        have row : ∀ (p : e_PH), GP θ p g X σ → kx ph p X → EJ θ x 39 [(0, .ref g), (1, .int (nI (cntB k Rb))), (2, .int (nI (sumN k f))), (3, .int (nI k)), (4, .int (gI σ k))] [] p (120 * k + 2) (720 * k + 12) := by
          intro p hgp hxp
          -- behind the other rows
          have tail : ∀ (p : e_PH), GP θ p g X σ → kx ph p X → EJ θ x 224 [(0, .ref g), (1, .int (nI (cntB (k + 1) Rb))), (2, .int (nI (sumN k f))), (3, .int (nI k)), (4, .int (gI σ k)), (5, .int (b2i (Rb k))), (6, .int (b2i (allB (gN σ) (fun i => !adjS σ k i))))] [] p (120 * k + 112) (720 * k + 672) := by
            intro p hgp hxp
            obtain ⟨e1, e2⟩ := gs_pos hn hkn
            refine e_iload hX iL_repairs_224 rfl ?_
            refine e_aload_n hX 0 iL_repairs_226 rfl rfl ?_
            refine e_iload hX iL_repairs_227 rfl ?_
            refine e_callW hX hN.nc iW_L_repairs_229 (r_gsz htr hgp hv hD hkn) rfl rfl ⟨by decide, by decide, by show _ ≤ 1500; omega, by show _ ≤ 9000; omega⟩ (Nat.le_of_ble_eq_true rfl) (fun v1 ph1 hv1 => ?_)
            obtain ⟨rfl, hg1, hx1⟩ := hv1
            refine e_iconst (v := 1) hX iL_repairs_232 (by decide) ?_
            refine e_eqB hX iL_repairs_233 iL_repairs_236 iL_repairs_237 iL_repairs_240 ?_
            have hal : allB (gN σ) (fun i => !adjS σ k i) = decide (popN (rchN σ k) = 1) := by
              rw [Bool.eq_iff_iff, decide_eq_true_eq, gs_one hn hkn, allB_t]
              exact ⟨fun h j hj => by have := h j hj; simpa using this, fun h j hj => by rw [h j hj]; rfl⟩
            rw [show decide (nI (popN (rchN σ k)) = 1) = allB (gN σ) (fun i => !adjS σ k i) from by
              rw [hal]
              exact decide_eq_decide.mpr (nI_eq (b := 1) (by omega) (by decide))]
            have fin : ∀ (p : e_PH), GP θ p g X σ → kx ph p X → EJ θ x 265 [(0, .ref g), (1, .int (nI (cntB (k + 1) Rb))), (2, .int (nI (sumN k f))), (3, .int (nI k)), (4, .int (gI σ k)), (5, .int (b2i (Rb k))), (6, .int (b2i (allB (gN σ) (fun i => !adjS σ k i))))] [] p (120 * k + 115) (720 * k + 690) := by
              intro p hgp hxp
              refine e_iload_n hX 2 iL_repairs_265 rfl rfl ?_
              refine e_sipush (v := 27720) hX iL_repairs_266 (by decide) ?_
              refine e_aload_n hX 0 iL_repairs_269 rfl rfl ?_
              refine e_iload hX iL_repairs_270 rfl ?_
              refine e_callW hX hN.nc iW_L_repairs_272 (r_gsz htr hgp hv hD hkn) rfl rfl ⟨by decide, by decide, by show _ ≤ 1500; omega, by show _ ≤ 9000; omega⟩ (Nat.le_of_ble_eq_true rfl) (fun v1 ph1 hv1 => ?_)
              obtain ⟨rfl, hg1, hx1⟩ := hv1
              refine e_idiv hX iL_repairs_275 (nI_ne0 (by omega) (by omega)) ?_
              rw [show (27720 : Int32) = nI 27720 from rfl, pk_div (by decide) (by omega) (by omega)]
              refine e_iadd hX iL_repairs_276 ?_
              rw [nI_add]
              refine e_istore_n hX 2 iL_repairs_277 rfl (by decide) ?_
              refine e_iinc hX iL_repairs_278 rfl (by first | exact nI_inc _ | rfl) (by decide) ?_
              refine e_goto hX iL_repairs_281 ?_
              refine e_loc [0, 1, 2, 3] ?_
              refine e_wid (k' := 120 * (k + 1)) (n' := 720 * (k + 1)) (by omega) (by omega) ?_
              exact ih (k + 1) _ (by omega) (by omega) hg1 (hxp.trans hx1)
            refine e_icmp_ne hX iL_repairs_241 (fun c241 => ?_) (fun c241 => ?_)
            · exact absurd rfl c241
            · refine e_iload hX iL_repairs_244 rfl ?_
              refine e_if_eq hX iL_repairs_246 (fun c246 => ?_) (fun c246 => ?_)
              · refine e_wid (k' := 120 * k + 115) (n' := 720 * k + 690) (by omega) (by omega) ?_
                exact fin _ hg1 (hxp.trans hx1)
              · have h1 := b2i_n0.mp c246
                refine e_aload_n hX 0 iL_repairs_249 rfl rfl ?_
                refine e_iload hX iL_repairs_250 rfl ?_
                refine e_callW hX hN.nc iW_L_repairs_252 (r_bad htr hg1 hv hD hkn) rfl rfl ⟨by decide, by decide, by show _ ≤ 1500; omega, by show _ ≤ 9000; omega⟩ (Nat.le_of_ble_eq_true rfl) (fun v2 ph2 hv2 => ?_)
                obtain ⟨rfl, hg2, hx2⟩ := hv2
                refine e_if_ne hX iL_repairs_255 (fun c255 => ?_) (fun c255 => ?_)
                · refine e_wid (k' := 120 * k + 115) (n' := 720 * k + 690) (by omega) (by omega) ?_
                  exact fin _ hg2 ((hxp.trans hx1).trans hx2)
                · have h2 : bdS σ k = false := b2i_0.mp c255
                  have h3 : Rb k = false := bst_alone hn hkn h2 (fun j hj => by
                    have := allB_t.mp h1 j hj
                    simpa using this)
                  refine e_iload hX iL_repairs_258 rfl ?_
                  refine e_if_eq hX iL_repairs_260 (fun c260 => ?_) (fun c260 => ?_)
                  · refine e_wid (k' := 120 * k + 115) (n' := 720 * k + 690) (by omega) (by omega) ?_
                    exact fin _ hg2 ((hxp.trans hx1).trans hx2)
                  · exact absurd (b2i_n0.mp c260) (by rw [h3]; decide)
          -- the other rows
          have inner : ∀ (z i : Nat) (p : e_PH), gN σ - i < z → i ≤ gN σ → GP θ p g X σ → kx ph p X → EJ θ x 92 [(0, .ref g), (1, .int (nI (cntB (k + 1) Rb))), (2, .int (nI (sumN k f))), (3, .int (nI k)), (4, .int (gI σ k)), (5, .int (b2i (Rb k))), (6, .int (b2i (allB i (fun i => !adjS σ k i)))), (7, .int (nI i))] [] p (120 * k + 4 + 9 * i) (720 * k + 24 + 54 * i) := by
            intro z
            induction z with
            | zero => intro i p hz; omega
            | succ z ih2 =>
              intro i p hz hi hgp hxp
              obtain ⟨fs, hgo⟩ := hgp.go
              refine e_iload hX iL_repairs_92 rfl ?_
              refine e_aload_n hX 0 iL_repairs_94 rfl rfl ?_
              refine e_callV hX iL_repairs_95 hgo (m_rowCount htr hgp) rfl rfl ⟨by decide, by decide, by show _ ≤ 1500; omega, by show _ ≤ 9000; omega⟩ (Nat.le_of_ble_eq_true rfl) (fun _ _ h => h.elim) (fun v1 ph1 hv1 => ?_)
              obtain ⟨-, rfl, hg1, hx1⟩ := hv1
              refine e_icmp_ge hX iL_repairs_98 (fun c98 => ?_) (fun c98 => ?_)
              · have hin : i = gN σ := nI_same hi (by omega) c98
                subst hin
                refine e_loc [0, 1, 2, 3, 4, 5, 6] ?_
                refine e_wid (k' := 120 * k + 112) (n' := 720 * k + 672) (by omega) (by omega) ?_
                exact tail _ hg1 (hxp.trans hx1)
              · have hin : i < gN σ := nI_less hi (by omega) c98
                refine e_iload hX iL_repairs_101 rfl ?_
                refine e_iload_n hX 3 iL_repairs_103 rfl rfl ?_
                refine e_icmp_ne hX iL_repairs_104 (fun c104 => ?_) (fun c104 => ?_)
                · have hne : ¬ k = i := fun e => c104 (by rw [e])
                  refine e_aload_n hX 0 iL_repairs_110 rfl rfl ?_
                  refine e_iload hX iL_repairs_111 rfl ?_
                  refine e_callW hX hN.nc iW_L_repairs_113 (r_rowAt htr hg1 hin) rfl rfl ⟨by decide, by decide, by show _ ≤ 1500; omega, by show _ ≤ 9000; omega⟩ (Nat.le_of_ble_eq_true rfl) (fun v2 ph2 hv2 => ?_)
                  obtain ⟨rfl, hg2, hx2⟩ := hv2
                  refine e_istore hX iL_repairs_116 (by decide) ?_
                  refine e_aload_n hX 0 iL_repairs_118 rfl rfl ?_
                  refine e_iload hX iL_repairs_119 rfl ?_
                  refine e_iload hX iL_repairs_121 rfl ?_
                  refine e_callW hX hN.nc iW_L_repairs_123 (r_conf htr hg2 hv hD hkn hin hne) rfl rfl ⟨by decide, by decide, by show _ ≤ 1500; omega, by show _ ≤ 9000; omega⟩ (Nat.le_of_ble_eq_true rfl) (fun v3 ph3 hv3 => ?_)
                  obtain ⟨rfl, hg3, hx3⟩ := hv3
                  refine e_aload_n hX 0 iL_repairs_126 rfl rfl ?_
                  refine e_iload hX iL_repairs_127 rfl ?_
                  refine e_iload hX iL_repairs_129 rfl ?_
                  refine e_callW hX hN.nc iW_L_repairs_131 (r_conf htr hg3 hv hD hin hkn (fun e => hne e.symm)) rfl rfl ⟨by decide, by decide, by show _ ≤ 1500; omega, by show _ ≤ 9000; omega⟩ (Nat.le_of_ble_eq_true rfl) (fun v4 ph4 hv4 => ?_)
                  obtain ⟨rfl, hg4, hx4⟩ := hv4
                  rw [adjS_s i k]
                  refine e_icmp_eq hX iL_repairs_134 (fun c134 => ?_) (fun c134 => ?_)
                  · have hx4' := ((((hxp.trans hx1).trans hx2).trans hx3).trans hx4)
                    -- conflict or not
                    have b197 : ∀ (p : e_PH), GP θ p g X σ → kx ph p X → EJ θ x 197 [(0, .ref g), (1, .int (nI (cntB (k + 1) Rb))), (2, .int (nI (sumN k f))), (3, .int (nI k)), (4, .int (gI σ k)), (5, .int (b2i (Rb k))), (6, .int (b2i (allB i (fun i => !adjS σ k i)))), (7, .int (nI i)), (8, .int (gI σ i))] [] p (120 * k + 4 + 9 * i + 8) (720 * k + 24 + 54 * i + 48) := by
                      intro p hgp hxp
                      refine e_iload hX iL_repairs_197 rfl ?_
                      refine e_aload_n hX 0 iL_repairs_199 rfl rfl ?_
                      refine e_iload hX iL_repairs_200 rfl ?_
                      refine e_iload hX iL_repairs_202 rfl ?_
                      refine e_callW hX hN.nc iW_L_repairs_204 (r_conf htr hgp hv hD hkn hin hne) rfl rfl ⟨by decide, by decide, by show _ ≤ 1500; omega, by show _ ≤ 9000; omega⟩ (Nat.le_of_ble_eq_true rfl) (fun v1 ph1 hv1 => ?_)
                      obtain ⟨rfl, hg1, hx1⟩ := hv1
                      refine e_z0 hX iL_repairs_207 iL_repairs_210 iL_repairs_211 iL_repairs_214 ?_
                      rw [bz_b]
                      refine e_iand hX iL_repairs_215 ?_
                      rw [b2i_and]
                      refine e_istore hX iL_repairs_216 (by decide) ?_
                      refine e_iinc hX iL_repairs_218 rfl (by first | exact nI_inc _ | rfl) (by decide) ?_
                      refine e_goto hX iL_repairs_221 ?_
                      refine e_loc [0, 1, 2, 3, 4, 5, 6, 7] ?_
                      refine e_wid (k' := 120 * k + 4 + 9 * (i + 1)) (n' := 720 * k + 24 + 54 * (i + 1)) (by omega) (by omega) ?_
                      exact ih2 (i + 1) _ (by omega) (by omega) hg1 (hxp.trans hx1)
                    have b168 : ∀ (p : e_PH), GP θ p g X σ → kx ph p X → EJ θ x 168 [(0, .ref g), (1, .int (nI (cntB (k + 1) Rb))), (2, .int (nI (sumN k f))), (3, .int (nI k)), (4, .int (gI σ k)), (5, .int (b2i (Rb k))), (6, .int (b2i (allB i (fun i => !adjS σ k i)))), (7, .int (nI i)), (8, .int (gI σ i))] [] p (120 * k + 4 + 9 * i + 5) (720 * k + 24 + 54 * i + 30) := by
                      intro p hgp hxp
                      refine e_aload_n hX 0 iL_repairs_168 rfl rfl ?_
                      refine e_iload hX iL_repairs_169 rfl ?_
                      refine e_iload hX iL_repairs_171 rfl ?_
                      refine e_callW hX hN.nc iW_L_repairs_173 (r_conf htr hgp hv hD hkn hin hne) rfl rfl ⟨by decide, by decide, by show _ ≤ 1500; omega, by show _ ≤ 9000; omega⟩ (Nat.le_of_ble_eq_true rfl) (fun v1 ph1 hv1 => ?_)
                      obtain ⟨rfl, hg1, hx1⟩ := hv1
                      refine e_iconst (v := 1) hX iL_repairs_176 (by decide) ?_
                      refine e_icmp_ne hX iL_repairs_177 (fun c177 => ?_) (fun c177 => ?_)
                      · refine e_wid (k' := 120 * k + 4 + 9 * i + 8) (n' := 720 * k + 24 + 54 * i + 48) (by omega) (by omega) ?_
                        exact b197 _ hg1 (hxp.trans hx1)
                      · have ha : adjS σ k i = true := b2i_1.mp c177
                        refine e_aload_n hX 0 iL_repairs_180 rfl rfl ?_
                        refine e_iload hX iL_repairs_181 rfl ?_
                        refine e_callW hX hN.nc iW_L_repairs_183 (r_gsz htr hg1 hv hD hkn) rfl rfl ⟨by decide, by decide, by show _ ≤ 1500; omega, by show _ ≤ 9000; omega⟩ (Nat.le_of_ble_eq_true rfl) (fun v2 ph2 hv2 => ?_)
                        obtain ⟨rfl, hg2, hx2⟩ := hv2
                        refine e_aload_n hX 0 iL_repairs_186 rfl rfl ?_
                        refine e_iload hX iL_repairs_187 rfl ?_
                        refine e_callW hX hN.nc iW_L_repairs_189 (r_gsz htr hg2 hv hD hin) rfl rfl ⟨by decide, by decide, by show _ ≤ 1500; omega, by show _ ≤ 9000; omega⟩ (Nat.le_of_ble_eq_true rfl) (fun v3 ph3 hv3 => ?_)
                        obtain ⟨rfl, hg3, hx3⟩ := hv3
                        refine e_icmp_eq hX iL_repairs_192 (fun c192 => ?_) (fun c192 => ?_)
                        · refine e_wid (k' := 120 * k + 4 + 9 * i + 8) (n' := 720 * k + 24 + 54 * i + 48) (by omega) (by omega) ?_
                          exact b197 _ hg3 (((hxp.trans hx1).trans hx2).trans hx3)
                        · exact absurd (by rw [gs_eq hkn hin ha]) c192
                    refine e_aload_n hX 0 iL_repairs_139 rfl rfl ?_
                    refine e_iload hX iL_repairs_140 rfl ?_
                    refine e_iload hX iL_repairs_142 rfl ?_
                    refine e_callW hX hN.nc iW_L_repairs_144 (r_conf htr hg4 hv hD hkn hin hne) rfl rfl ⟨by decide, by decide, by show _ ≤ 1500; omega, by show _ ≤ 9000; omega⟩ (Nat.le_of_ble_eq_true rfl) (fun v5 ph5 hv5 => ?_)
                    obtain ⟨rfl, hg5, hx5⟩ := hv5
                    refine e_iconst (v := 1) hX iL_repairs_147 (by decide) ?_
                    refine e_icmp_ne hX iL_repairs_148 (fun c148 => ?_) (fun c148 => ?_)
                    · refine e_wid (k' := 120 * k + 4 + 9 * i + 5) (n' := 720 * k + 24 + 54 * i + 30) (by omega) (by omega) ?_
                      exact b168 _ hg5 (hx4'.trans hx5)
                    · have ha : adjS σ k i = true := b2i_1.mp c148
                      refine e_iload hX iL_repairs_151 rfl ?_
                      refine e_if_ne hX iL_repairs_153 (fun c153 => ?_) (fun c153 => ?_)
                      · refine e_wid (k' := 120 * k + 4 + 9 * i + 5) (n' := 720 * k + 24 + 54 * i + 30) (by omega) (by omega) ?_
                        exact b168 _ hg5 (hx4'.trans hx5)
                      · have hr : Rb k = false := b2i_0.mp c153
                        have hr2 : (bstN σ).testBit i = true := (bst_ok hn hkn hr).2 i hin ha
                        refine e_aload_n hX 0 iL_repairs_156 rfl rfl ?_
                        refine e_iload hX iL_repairs_157 rfl ?_
                        refine e_callW hX hN.nc iW_L_repairs_159 (r_inRep htr hg5 hv hD hin) rfl rfl ⟨by decide, by decide, by show _ ≤ 1500; omega, by show _ ≤ 9000; omega⟩ (Nat.le_of_ble_eq_true rfl) (fun v6 ph6 hv6 => ?_)
                        obtain ⟨rfl, hg6, hx6⟩ := hv6
                        refine e_iconst (v := 1) hX iL_repairs_162 (by decide) ?_
                        refine e_icmp_eq hX iL_repairs_163 (fun c163 => ?_) (fun c163 => ?_)
                        · refine e_wid (k' := 120 * k + 4 + 9 * i + 5) (n' := 720 * k + 24 + 54 * i + 30) (by omega) (by omega) ?_
                          exact b168 _ hg6 ((hx4'.trans hx5).trans hx6)
                        · exact absurd (by rw [hr2]; rfl) c163
                  · exact absurd rfl c134
                · have hne : k = i := ((nI_eq (by omega) (by omega)).mp c104).symm
                  refine e_goto hX iL_repairs_107 ?_
                  refine e_iinc hX iL_repairs_218 rfl (by first | exact nI_inc _ | rfl) (by decide) ?_
                  refine e_goto hX iL_repairs_221 ?_
                  refine e_loc [0, 1, 2, 3, 4, 5, 6, 7] ?_
                  refine e_wid (k' := 120 * k + 4 + 9 * (i + 1)) (n' := 720 * k + 24 + 54 * (i + 1)) (by omega) (by omega) ?_
                  have := ih2 (i + 1) _ (by omega) (by omega) hg1 (hxp.trans hx1)
                  rw [show allB (i + 1) (fun i => !adjS σ k i) = allB i (fun i => !adjS σ k i) from by
                    show (allB i (fun i => !adjS σ k i) && !adjS σ k i) = _
                    rw [← hne, adj_self]; exact Bool.and_true _] at this
                  exact this
          refine e_aload_n hX 0 iL_repairs_39 rfl rfl ?_
          refine e_iload hX iL_repairs_40 rfl ?_
          refine e_callW hX hN.nc iW_L_repairs_42 (r_inRep htr hgp hv hD hkn) rfl rfl ⟨by decide, by decide, by show _ ≤ 1500; omega, by show _ ≤ 9000; omega⟩ (Nat.le_of_ble_eq_true rfl) (fun v1 ph1 hv1 => ?_)
          obtain ⟨rfl, hg1, hx1⟩ := hv1
          refine e_iconst (v := 1) hX iL_repairs_45 (by decide) ?_
          refine e_eqB hX iL_repairs_46 iL_repairs_49 iL_repairs_50 iL_repairs_53 ?_
          rw [b1_b]
          refine e_istore hX iL_repairs_54 (by decide) ?_
          refine e_iload_n hX 1 iL_repairs_56 rfl rfl ?_
          refine e_iload hX iL_repairs_57 rfl ?_
          refine e_nz hX iL_repairs_59 iL_repairs_62 iL_repairs_63 iL_repairs_66 ?_
          rw [bnz_b]
          refine e_iadd hX iL_repairs_67 ?_
          rw [show nI (cntB k Rb) + b2i ((bstN σ).testBit k) = nI (cntB (k + 1) Rb) from cntB_st]
          refine e_istore_n hX 1 iL_repairs_68 rfl (by decide) ?_
          refine e_aload_n hX 0 iL_repairs_69 rfl rfl ?_
          refine e_iload hX iL_repairs_70 rfl ?_
          refine e_callW hX hN.nc iW_L_repairs_72 (r_bad htr hg1 hv hD hkn) rfl rfl ⟨by decide, by decide, by show _ ≤ 1500; omega, by show _ ≤ 9000; omega⟩ (Nat.le_of_ble_eq_true rfl) (fun v2 ph2 hv2 => ?_)
          obtain ⟨rfl, hg2, hx2⟩ := hv2
          have go : EJ θ x 86 [(0, .ref g), (1, .int (nI (cntB (k + 1) Rb))), (2, .int (nI (sumN k f))), (3, .int (nI k)), (4, .int (gI σ k)), (5, .int (b2i (Rb k)))] [] ph2 (120 * k + 4) (720 * k + 24) := by
            refine e_iconst (v := 1) hX iL_repairs_86 (by decide) ?_
            refine e_istore hX iL_repairs_87 (by decide) ?_
            refine e_iconst (v := 0) hX iL_repairs_89 (by decide) ?_
            refine e_istore hX iL_repairs_90 (by decide) ?_
            refine e_loc [0, 1, 2, 3, 4, 5, 6, 7] ?_
            refine e_wid (k' := 120 * k + 4 + 9 * 0) (n' := 720 * k + 24 + 54 * 0) (by omega) (by omega) ?_
            exact inner (gN σ + 1) 0 _ (by omega) (by omega) hg2 ((hxp.trans hx1).trans hx2)
          refine e_iconst (v := 1) hX iL_repairs_75 (by decide) ?_
          refine e_icmp_ne hX iL_repairs_76 (fun c76 => ?_) (fun c76 => ?_)
          · refine e_loc [0, 1, 2, 3, 4, 5] ?_
            refine e_wid (k' := 120 * k + 4) (n' := 720 * k + 24) (by omega) (by omega) ?_
            exact go
          · have hb : bdS σ k = true := b2i_1.mp c76
            refine e_iload hX iL_repairs_79 rfl ?_
            refine e_if_ne hX iL_repairs_81 (fun c81 => ?_) (fun c81 => ?_)
            · refine e_loc [0, 1, 2, 3, 4, 5] ?_
              refine e_wid (k' := 120 * k + 4) (n' := 720 * k + 24) (by omega) (by omega) ?_
              exact go
            · exfalso
              have h0 : Rb k = false := b2i_0.mp c81
              rw [(bst_ok hn hkn h0).1] at hb; cases hb
        refine e_istore hX iL_repairs_19 (by decide) ?_
        refine e_iload_n hX 3 iL_repairs_21 rfl rfl ?_
        refine e_if_le hX iL_repairs_22 (fun c22 => ?_) (fun c22 => ?_)
        · refine e_wid (k' := 120 * k + 2) (n' := 720 * k + 12) (by omega) (by omega) ?_
          exact row _ hg2 ((hxp.trans hx1).trans hx2)
        · have hk0 : 0 < k := by
            rcases Nat.eq_zero_or_pos k with e | e
            · subst e; exact absurd (by decide) c22
            · exact e
          refine e_iload hX iL_repairs_25 rfl ?_
          refine e_aload_n hX 0 iL_repairs_27 rfl rfl ?_
          refine e_iload_n hX 3 iL_repairs_28 rfl rfl ?_
          refine e_iconst (v := 1) hX iL_repairs_29 (by decide) ?_
          refine e_isub hX iL_repairs_30 ?_
          rw [show nI k - 1 = nI (k - 1) from pk_sub (b := 1) hk0]
          refine e_callW hX hN.nc iW_L_repairs_31 (r_rowAt htr hg2 (show k - 1 < gN σ by omega)) rfl rfl ⟨by decide, by decide, by show _ ≤ 1500; omega, by show _ ≤ 9000; omega⟩ (Nat.le_of_ble_eq_true rfl) (fun v3 ph3 hv3 => ?_)
          obtain ⟨rfl, hg3, hx3⟩ := hv3
          refine e_icmp_gt hX iL_repairs_34 (fun c34 => ?_) (fun c34 => ?_)
          · refine e_wid (k' := 120 * k + 2) (n' := 720 * k + 12) (by omega) (by omega) ?_
            exact row _ hg3 (((hxp.trans hx1).trans hx2).trans hx3)
          · exact absurd (hv.lt hD (by omega) hkn) c34
  refine e_iconst (v := 0) hX iL_repairs_0 (by decide) ?_
  refine e_istore_n hX 1 iL_repairs_1 rfl (by decide) ?_
  refine e_iconst (v := 0) hX iL_repairs_2 (by decide) ?_
  refine e_istore_n hX 2 iL_repairs_3 rfl (by decide) ?_
  refine e_iconst (v := 0) hX iL_repairs_4 (by decide) ?_
  refine e_istore_n hX 3 iL_repairs_5 rfl (by decide) ?_
  refine e_loc [0, 1, 2, 3] ?_
  refine e_wid (k' := 120 * 0) (n' := 720 * 0) (by omega) (by omega) ?_
  exact loop (gN σ + 1) 0 ph (by omega) (by omega) hg kx.refl
end RP
