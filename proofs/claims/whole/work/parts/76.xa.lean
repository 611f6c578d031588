/-! the steps of the law's loop (printed by gen76.py) -/
section XA0
variable {θ : e_T} {x : e_X} {ph : e_PH} {k n : Nat} {nm : String} {rt : Option FieldType} {l : Launch} {b L : Nat} {xs : Nat → Int32} {g mo o od : Nat} {μ : Nat → Nat} {σ : SG}
/-- case 0 -/
theorem q_stage (htr : l.stackTraces = false) (hX : e_in cL_law RL nm 9 rt room_1 l θ x) (hN : e_nc x) (hS : e_scr θ x b L xs) (hL : L ≤ 3072) {i : Nat} (hi : i + 6 ≤ L) (hI : LI θ ph g mo μ o od σ) (hk : k + 340 ≤ 603072) (hn : n + 2000 ≤ 7182442) (back : ∀ p σ2, LI θ p g mo μ o od σ2 → EJ θ x 2943 [(0, .ref b), (1, .ref g), (2, .ref mo), (3, .ref o), (4, .ref od), (5, .int (nI i))] [] p (k + 340) (n + 2000)) : EJ θ x 252 [(0, .ref b), (1, .ref g), (2, .ref mo), (3, .ref o), (4, .ref od), (5, .int (nI i))] [] ph k n := by
  have hIo := hI.2.2.1
  obtain ⟨f0, ho0⟩ := hIo
  refine e_aload_n hX 1 iL_law_252 rfl rfl ?_
  refine e_aload_n hX 0 iL_law_253 rfl rfl ?_
  refine e_iload hX iL_law_254 rfl ?_
  refine e_iconst (v := 1) hX iL_law_256 (by decide) ?_
  refine e_iadd hX iL_law_257 ?_
  refine e_sld hX hS (i + 1) iL_law_258 (nI_add i 1) (by omega) (by omega) ?_
  refine e_aload_n hX 0 iL_law_259 rfl rfl ?_
  refine e_iload hX iL_law_260 rfl ?_
  refine e_iconst (v := 2) hX iL_law_262 (by decide) ?_
  refine e_iadd hX iL_law_263 ?_
  refine e_sld hX hS (i + 2) iL_law_264 (nI_add i 2) (by omega) (by omega) ?_
  refine e_aload_n hX 0 iL_law_265 rfl rfl ?_
  refine e_iload hX iL_law_266 rfl ?_
  refine e_iconst (v := 3) hX iL_law_268 (by decide) ?_
  refine e_iadd hX iL_law_269 ?_
  refine e_sld hX hS (i + 3) iL_law_270 (nI_add i 3) (by omega) (by omega) ?_
  refine e_aload_n hX 0 iL_law_271 rfl rfl ?_
  refine e_iload hX iL_law_272 rfl ?_
  refine e_iconst (v := 4) hX iL_law_274 (by decide) ?_
  refine e_iadd hX iL_law_275 ?_
  refine e_sld hX hS (i + 4) iL_law_276 (nI_add i 4) (by omega) (by omega) ?_
  refine e_aload_n hX 0 iL_law_277 rfl rfl ?_
  refine e_iload hX iL_law_278 rfl ?_
  refine e_iconst (v := 5) hX iL_law_280 (by decide) ?_
  refine e_iadd hX iL_law_281 ?_
  refine e_sld hX hS (i + 5) iL_law_282 (nI_add i 5) (by omega) (by omega) ?_
  refine e_aload_n hX 3 iL_law_283 rfl rfl ?_
  refine e_callW hX hN iW_law_284 (l_stage htr hI.1 (Or.inr (Or.inl rfl)) ho0 (xs (i + 1)) (xs (i + 2)) (xs (i + 3)) (xs (i + 4)) (xs (i + 5))) rfl rfl ⟨Nat.le_of_ble_eq_true rfl, Nat.le_of_ble_eq_true rfl, by show _ ≤ 603072; omega, by show _ ≤ 7182442; omega⟩ (Nat.le_of_ble_eq_true rfl) (fun v9 p9 h9 => ?_)
  obtain ⟨rfl, hG9⟩ := hI.gate h9
  obtain ⟨t9, hm9⟩ := hG9.2.1
  obtain ⟨fs9, hmo9⟩ := hm9.go
  refine e_istore hX iL_law_287 (by decide) ?_
  refine e_aload_n hX 2 iL_law_289 rfl rfl ?_
  refine e_aload_n hX 0 iL_law_290 rfl rfl ?_
  refine e_iload hX iL_law_291 rfl ?_
  refine e_iconst (v := 1) hX iL_law_293 (by decide) ?_
  refine e_iadd hX iL_law_294 ?_
  refine e_sld hX hS (i + 1) iL_law_295 (nI_add i 1) (by omega) (by omega) ?_
  refine e_aload_n hX 0 iL_law_296 rfl rfl ?_
  refine e_iload hX iL_law_297 rfl ?_
  refine e_iconst (v := 2) hX iL_law_299 (by decide) ?_
  refine e_iadd hX iL_law_300 ?_
  refine e_sld hX hS (i + 2) iL_law_301 (nI_add i 2) (by omega) (by omega) ?_
  refine e_aload_n hX 0 iL_law_302 rfl rfl ?_
  refine e_iload hX iL_law_303 rfl ?_
  refine e_iconst (v := 3) hX iL_law_305 (by decide) ?_
  refine e_iadd hX iL_law_306 ?_
  refine e_sld hX hS (i + 3) iL_law_307 (nI_add i 3) (by omega) (by omega) ?_
  refine e_aload_n hX 0 iL_law_308 rfl rfl ?_
  refine e_iload hX iL_law_309 rfl ?_
  refine e_iconst (v := 4) hX iL_law_311 (by decide) ?_
  refine e_iadd hX iL_law_312 ?_
  refine e_sld hX hS (i + 4) iL_law_313 (nI_add i 4) (by omega) (by omega) ?_
  refine e_aload_n hX 0 iL_law_314 rfl rfl ?_
  refine e_iload hX iL_law_315 rfl ?_
  refine e_iconst (v := 5) hX iL_law_317 (by decide) ?_
  refine e_iadd hX iL_law_318 ?_
  refine e_sld hX hS (i + 5) iL_law_319 (nI_add i 5) (by omega) (by omega) ?_
  refine e_callV hX iL_law_320 hmo9 (w_stage htr hm9 (xs (i + 1)) (xs (i + 2)) (xs (i + 3)) (xs (i + 4)) (xs (i + 5))) rfl rfl ⟨Nat.le_of_ble_eq_true rfl, Nat.le_of_ble_eq_true rfl, by show _ ≤ 603072; omega, by show _ ≤ 7182442; omega⟩ (Nat.le_of_ble_eq_true rfl) (fun _ _ h => h.elim) (fun v8 p8 h8 => ?_)
  obtain ⟨a8, rfl, hb8, hm8, hk8⟩ := h8.int
  obtain ⟨hI8, f8, ho8, ha8⟩ := hG9.model hm8 hk8
  obtain ⟨fs8, hmo8⟩ := hm8.go
  refine e_istore hX iL_law_323 (by decide) ?_
  refine e_aload_n hX 2 iL_law_325 rfl rfl ?_
  refine e_callV hX iL_law_326 hmo8 (w_thrown htr hm8) rfl rfl ⟨Nat.le_of_ble_eq_true rfl, Nat.le_of_ble_eq_true rfl, by show _ ≤ 603072; omega, by show _ ≤ 7182442; omega⟩ (Nat.le_of_ble_eq_true rfl) (fun _ _ h => h.elim) (fun v7 p7 h7 => ?_)
  obtain ⟨rfl, e7⟩ := h7
  subst p7
  refine e_iload hX iL_law_329 rfl ?_
  refine e_icmp_eq hX iL_law_331 (fun c331 => ?_) (fun c331 => ?_)
  · have hK3 : (k_stg σ (xs (i + 1)) (xs (i + 2)) (xs (i + 3)) (xs (i + 4)) (xs (i + 5))) ≤ 3 := by unfold k_stg; (repeat' split) <;> decide
    refine e_iload hX iL_law_336 rfl ?_
    refine e_if_ne hX iL_law_338 (fun c338 => ?_) (fun c338 => ?_)
    · refine e_goto hX iL_law_353 ?_
      refine e_loc [0, 1, 2, 3, 4, 5] ?_
      refine e_wid (k' := k + 340) (n' := n + 2000) (by omega) (by omega) ?_
      exact back _ _ hI8
    · have hK : (k_stg σ (xs (i + 1)) (xs (i + 2)) (xs (i + 3)) (xs (i + 4)) (xs (i + 5))) = 0 := (nI_eq (by omega) (by decide)).mp c338
      refine e_aload_n hX 3 iL_law_341 rfl rfl ?_
      refine e_iconst (v := 0) hX iL_law_342 (by decide) ?_
      refine e_lald hX 0 iL_law_343 ho8 rfl (by decide) (by decide) ?_
      refine e_iload hX iL_law_344 rfl ?_
      refine e_i2l hX iL_law_346 ?_
      refine e_lcmp hX iL_law_347 ?_
      refine e_if_eq hX iL_law_348 (fun c348 => ?_) (fun c348 => ?_)
      · refine e_goto hX iL_law_353 ?_
        refine e_loc [0, 1, 2, 3, 4, 5] ?_
        refine e_wid (k' := k + 340) (n' := n + 2000) (by omega) (by omega) ?_
        exact back _ _ hI8
      · exact absurd ((lg_cmp_eq _ _).mpr (by rw [ha8 hK, hb8 hK])) c348
  · exact absurd rfl c331
/-- case 1 -/
theorem q_commit (htr : l.stackTraces = false) (hX : e_in cL_law RL nm 9 rt room_1 l θ x) (hN : e_nc x) (hS : e_scr θ x b L xs) (hL : L ≤ 3072) {i : Nat} (hi : i + 6 ≤ L) (hI : LI θ ph g mo μ o od σ) (hk : k + 340 ≤ 603072) (hn : n + 2000 ≤ 7182442) (back : ∀ p σ2, LI θ p g mo μ o od σ2 → EJ θ x 2943 [(0, .ref b), (1, .ref g), (2, .ref mo), (3, .ref o), (4, .ref od), (5, .int (nI i))] [] p (k + 340) (n + 2000)) : EJ θ x 356 [(0, .ref b), (1, .ref g), (2, .ref mo), (3, .ref o), (4, .ref od), (5, .int (nI i))] [] ph k n := by
  have hIo := hI.2.2.1
  obtain ⟨f0, ho0⟩ := hIo
  refine e_aload_n hX 1 iL_law_356 rfl rfl ?_
  refine e_aload_n hX 3 iL_law_357 rfl rfl ?_
  refine e_callW hX hN iW_law_358 (l_commit htr hI.1 (Or.inr (Or.inl rfl)) ho0 ) rfl rfl ⟨Nat.le_of_ble_eq_true rfl, Nat.le_of_ble_eq_true rfl, by show _ ≤ 603072; omega, by show _ ≤ 7182442; omega⟩ (Nat.le_of_ble_eq_true rfl) (fun v9 p9 h9 => ?_)
  obtain ⟨rfl, hG9⟩ := hI.gate h9
  rw [ite_self] at hG9
  obtain ⟨t9, hm9⟩ := hG9.2.1
  obtain ⟨fs9, hmo9⟩ := hm9.go
  refine e_istore hX iL_law_361 (by decide) ?_
  refine e_aload_n hX 2 iL_law_363 rfl rfl ?_
  refine e_callV hX iL_law_364 hmo9 (w_commit htr hm9 ) rfl rfl ⟨Nat.le_of_ble_eq_true rfl, Nat.le_of_ble_eq_true rfl, by show _ ≤ 603072; omega, by show _ ≤ 7182442; omega⟩ (Nat.le_of_ble_eq_true rfl) (fun _ _ h => h.elim) (fun v8 p8 h8 => ?_)
  obtain ⟨a8, rfl, hb8, hm8, hk8⟩ := h8.int
  obtain ⟨hI8, f8, ho8, ha8⟩ := hG9.model hm8 hk8
  obtain ⟨fs8, hmo8⟩ := hm8.go
  refine e_istore hX iL_law_367 (by decide) ?_
  refine e_aload_n hX 2 iL_law_369 rfl rfl ?_
  refine e_callV hX iL_law_370 hmo8 (w_thrown htr hm8) rfl rfl ⟨Nat.le_of_ble_eq_true rfl, Nat.le_of_ble_eq_true rfl, by show _ ≤ 603072; omega, by show _ ≤ 7182442; omega⟩ (Nat.le_of_ble_eq_true rfl) (fun _ _ h => h.elim) (fun v7 p7 h7 => ?_)
  obtain ⟨rfl, e7⟩ := h7
  subst p7
  refine e_iload hX iL_law_373 rfl ?_
  refine e_icmp_eq hX iL_law_375 (fun c375 => ?_) (fun c375 => ?_)
  · have hK3 : (k_com σ) ≤ 3 := by unfold k_com; (repeat' split) <;> decide
    refine e_iload hX iL_law_380 rfl ?_
    refine e_if_ne hX iL_law_382 (fun c382 => ?_) (fun c382 => ?_)
    · refine e_goto hX iL_law_397 ?_
      refine e_loc [0, 1, 2, 3, 4, 5] ?_
      refine e_wid (k' := k + 340) (n' := n + 2000) (by omega) (by omega) ?_
      exact back _ _ hI8
    · have hK : (k_com σ) = 0 := (nI_eq (by omega) (by decide)).mp c382
      refine e_aload_n hX 3 iL_law_385 rfl rfl ?_
      refine e_iconst (v := 0) hX iL_law_386 (by decide) ?_
      refine e_lald hX 0 iL_law_387 ho8 rfl (by decide) (by decide) ?_
      refine e_iload hX iL_law_388 rfl ?_
      refine e_i2l hX iL_law_390 ?_
      refine e_lcmp hX iL_law_391 ?_
      refine e_if_eq hX iL_law_392 (fun c392 => ?_) (fun c392 => ?_)
      · refine e_goto hX iL_law_397 ?_
        refine e_loc [0, 1, 2, 3, 4, 5] ?_
        refine e_wid (k' := k + 340) (n' := n + 2000) (by omega) (by omega) ?_
        exact back _ _ hI8
      · exact absurd ((lg_cmp_eq _ _).mpr (by rw [ha8 hK, hb8 hK])) c392
  · exact absurd rfl c375
/-- case 2 -/
theorem q_discard (htr : l.stackTraces = false) (hX : e_in cL_law RL nm 9 rt room_1 l θ x) (hN : e_nc x) (hS : e_scr θ x b L xs) (hL : L ≤ 3072) {i : Nat} (hi : i + 6 ≤ L) (hI : LI θ ph g mo μ o od σ) (hk : k + 340 ≤ 603072) (hn : n + 2000 ≤ 7182442) (back : ∀ p σ2, LI θ p g mo μ o od σ2 → EJ θ x 2943 [(0, .ref b), (1, .ref g), (2, .ref mo), (3, .ref o), (4, .ref od), (5, .int (nI i))] [] p (k + 340) (n + 2000)) : EJ θ x 400 [(0, .ref b), (1, .ref g), (2, .ref mo), (3, .ref o), (4, .ref od), (5, .int (nI i))] [] ph k n := by
  have hn12 := hI.1.ok.1
  refine e_aload_n hX 1 iL_law_400 rfl rfl ?_
  obtain ⟨fsg, hgo⟩ := hI.1.go
  refine e_callV hX iL_law_401 hgo (m_discard htr hI.1) rfl rfl ⟨Nat.le_of_ble_eq_true rfl, Nat.le_of_ble_eq_true rfl, by show _ ≤ 603072; omega, by show _ ≤ 7182442; omega⟩ (Nat.le_of_ble_eq_true rfl) (fun _ _ h => h.elim) (fun v9 p9 h9 => ?_)
  obtain ⟨-, rfl, hg9, hx9⟩ := h9
  have hG9 := hI.keep hg9 hx9
  obtain ⟨t9, hm9⟩ := hG9.2.1
  obtain ⟨fs9, hmo9⟩ := hm9.go
  refine e_aload_n hX 2 iL_law_404 rfl rfl ?_
  refine e_callV hX iL_law_405 hmo9 (w_discard htr hm9) rfl rfl ⟨Nat.le_of_ble_eq_true rfl, Nat.le_of_ble_eq_true rfl, by show _ ≤ 603072; omega, by show _ ≤ 7182442; omega⟩ (Nat.le_of_ble_eq_true rfl) (fun _ _ h => h.elim) (fun v8 p8 h8 => ?_)
  obtain ⟨rfl, hm8, hk8⟩ := h8
  obtain ⟨hI8, -⟩ := hG9.model hm8 hk8
  refine e_icmp_eq hX iL_law_408 (fun c408 => ?_) (fun c408 => ?_)
  · refine e_loc [0, 1, 2, 3, 4, 5] ?_
    refine e_wid (k' := k + 340) (n' := n + 2000) (by omega) (by omega) ?_
    exact back _ _ hI8
  · exact absurd (by first | rfl | (rw [frL_eq hn12, try_eq hn12]; done) | (rw [frL_eq hn12]; done)) c408
/-- case 3 -/
theorem q_staged (htr : l.stackTraces = false) (hX : e_in cL_law RL nm 9 rt room_1 l θ x) (hN : e_nc x) (hS : e_scr θ x b L xs) (hL : L ≤ 3072) {i : Nat} (hi : i + 6 ≤ L) (hI : LI θ ph g mo μ o od σ) (hk : k + 340 ≤ 603072) (hn : n + 2000 ≤ 7182442) (back : ∀ p σ2, LI θ p g mo μ o od σ2 → EJ θ x 2943 [(0, .ref b), (1, .ref g), (2, .ref mo), (3, .ref o), (4, .ref od), (5, .int (nI i))] [] p (k + 340) (n + 2000)) : EJ θ x 413 [(0, .ref b), (1, .ref g), (2, .ref mo), (3, .ref o), (4, .ref od), (5, .int (nI i))] [] ph k n := by
  have hn12 := hI.1.ok.1
  refine e_aload_n hX 1 iL_law_413 rfl rfl ?_
  obtain ⟨fsg, hgo⟩ := hI.1.go
  refine e_callV hX iL_law_414 hgo (m_staged htr hI.1) rfl rfl ⟨Nat.le_of_ble_eq_true rfl, Nat.le_of_ble_eq_true rfl, by show _ ≤ 603072; omega, by show _ ≤ 7182442; omega⟩ (Nat.le_of_ble_eq_true rfl) (fun _ _ h => h.elim) (fun v9 p9 h9 => ?_)
  obtain ⟨-, rfl, hg9, hx9⟩ := h9
  have hG9 := hI.keep hg9 hx9
  obtain ⟨t9, hm9⟩ := hG9.2.1
  obtain ⟨fs9, hmo9⟩ := hm9.go
  refine e_aload_n hX 2 iL_law_417 rfl rfl ?_
  refine e_callV hX iL_law_418 hmo9 (w_staged htr hm9) rfl rfl ⟨Nat.le_of_ble_eq_true rfl, Nat.le_of_ble_eq_true rfl, by show _ ≤ 603072; omega, by show _ ≤ 7182442; omega⟩ (Nat.le_of_ble_eq_true rfl) (fun _ _ h => h.elim) (fun v8 p8 h8 => ?_)
  obtain ⟨rfl, hm8, hk8⟩ := h8
  obtain ⟨hI8, -⟩ := hG9.model hm8 hk8
  refine e_icmp_eq hX iL_law_421 (fun c421 => ?_) (fun c421 => ?_)
  · refine e_loc [0, 1, 2, 3, 4, 5] ?_
    refine e_wid (k' := k + 340) (n' := n + 2000) (by omega) (by omega) ?_
    exact back _ _ hI8
  · exact absurd (by first | rfl | (rw [frL_eq hn12, try_eq hn12]; done) | (rw [frL_eq hn12]; done)) c421
/-- case 4 -/
theorem q_rejectedRow (htr : l.stackTraces = false) (hX : e_in cL_law RL nm 9 rt room_1 l θ x) (hN : e_nc x) (hS : e_scr θ x b L xs) (hL : L ≤ 3072) {i : Nat} (hi : i + 6 ≤ L) (hI : LI θ ph g mo μ o od σ) (hk : k + 340 ≤ 603072) (hn : n + 2000 ≤ 7182442) (back : ∀ p σ2, LI θ p g mo μ o od σ2 → EJ θ x 2943 [(0, .ref b), (1, .ref g), (2, .ref mo), (3, .ref o), (4, .ref od), (5, .int (nI i))] [] p (k + 340) (n + 2000)) : EJ θ x 426 [(0, .ref b), (1, .ref g), (2, .ref mo), (3, .ref o), (4, .ref od), (5, .int (nI i))] [] ph k n := by
  have hIo := hI.2.2.1
  obtain ⟨f0, ho0⟩ := hIo
  refine e_aload_n hX 1 iL_law_426 rfl rfl ?_
  refine e_aload_n hX 3 iL_law_427 rfl rfl ?_
  refine e_callW hX hN iW_law_428 (l_rejectedRow htr hI.1 (Or.inr (Or.inl rfl)) ho0 ) rfl rfl ⟨Nat.le_of_ble_eq_true rfl, Nat.le_of_ble_eq_true rfl, by show _ ≤ 603072; omega, by show _ ≤ 7182442; omega⟩ (Nat.le_of_ble_eq_true rfl) (fun v9 p9 h9 => ?_)
  obtain ⟨rfl, hG9⟩ := hI.gate h9
  rw [ite_self] at hG9
  obtain ⟨t9, hm9⟩ := hG9.2.1
  obtain ⟨fs9, hmo9⟩ := hm9.go
  refine e_istore hX iL_law_431 (by decide) ?_
  refine e_aload_n hX 2 iL_law_433 rfl rfl ?_
  refine e_callV hX iL_law_434 hmo9 (w_rejectedRow htr hm9 ) rfl rfl ⟨Nat.le_of_ble_eq_true rfl, Nat.le_of_ble_eq_true rfl, by show _ ≤ 603072; omega, by show _ ≤ 7182442; omega⟩ (Nat.le_of_ble_eq_true rfl) (fun _ _ h => h.elim) (fun v8 p8 h8 => ?_)
  obtain ⟨a8, rfl, hb8, hm8, hk8⟩ := h8.int
  obtain ⟨hI8, f8, ho8, ha8⟩ := hG9.model hm8 hk8
  obtain ⟨fs8, hmo8⟩ := hm8.go
  refine e_istore hX iL_law_437 (by decide) ?_
  refine e_aload_n hX 2 iL_law_439 rfl rfl ?_
  refine e_callV hX iL_law_440 hmo8 (w_thrown htr hm8) rfl rfl ⟨Nat.le_of_ble_eq_true rfl, Nat.le_of_ble_eq_true rfl, by show _ ≤ 603072; omega, by show _ ≤ 7182442; omega⟩ (Nat.le_of_ble_eq_true rfl) (fun _ _ h => h.elim) (fun v7 p7 h7 => ?_)
  obtain ⟨rfl, e7⟩ := h7
  subst p7
  refine e_iload hX iL_law_443 rfl ?_
  refine e_icmp_eq hX iL_law_445 (fun c445 => ?_) (fun c445 => ?_)
  · have hK3 : (k_rej σ) ≤ 3 := by unfold k_rej; (repeat' split) <;> decide
    refine e_iload hX iL_law_450 rfl ?_
    refine e_if_ne hX iL_law_452 (fun c452 => ?_) (fun c452 => ?_)
    · refine e_goto hX iL_law_467 ?_
      refine e_loc [0, 1, 2, 3, 4, 5] ?_
      refine e_wid (k' := k + 340) (n' := n + 2000) (by omega) (by omega) ?_
      exact back _ _ hI8
    · have hK : (k_rej σ) = 0 := (nI_eq (by omega) (by decide)).mp c452
      refine e_aload_n hX 3 iL_law_455 rfl rfl ?_
      refine e_iconst (v := 0) hX iL_law_456 (by decide) ?_
      refine e_lald hX 0 iL_law_457 ho8 rfl (by decide) (by decide) ?_
      refine e_iload hX iL_law_458 rfl ?_
      refine e_i2l hX iL_law_460 ?_
      refine e_lcmp hX iL_law_461 ?_
      refine e_if_eq hX iL_law_462 (fun c462 => ?_) (fun c462 => ?_)
      · refine e_goto hX iL_law_467 ?_
        refine e_loc [0, 1, 2, 3, 4, 5] ?_
        refine e_wid (k' := k + 340) (n' := n + 2000) (by omega) (by omega) ?_
        exact back _ _ hI8
      · exact absurd ((lg_cmp_eq _ _).mpr (by rw [ha8 hK, hb8 hK])) c462
  · exact absurd rfl c445
/-- case 5 -/
theorem q_rejectedRule (htr : l.stackTraces = false) (hX : e_in cL_law RL nm 9 rt room_1 l θ x) (hN : e_nc x) (hS : e_scr θ x b L xs) (hL : L ≤ 3072) {i : Nat} (hi : i + 6 ≤ L) (hI : LI θ ph g mo μ o od σ) (hk : k + 340 ≤ 603072) (hn : n + 2000 ≤ 7182442) (back : ∀ p σ2, LI θ p g mo μ o od σ2 → EJ θ x 2943 [(0, .ref b), (1, .ref g), (2, .ref mo), (3, .ref o), (4, .ref od), (5, .int (nI i))] [] p (k + 340) (n + 2000)) : EJ θ x 470 [(0, .ref b), (1, .ref g), (2, .ref mo), (3, .ref o), (4, .ref od), (5, .int (nI i))] [] ph k n := by
  have hIo := hI.2.2.1
  obtain ⟨f0, ho0⟩ := hIo
  refine e_aload_n hX 1 iL_law_470 rfl rfl ?_
  refine e_aload_n hX 3 iL_law_471 rfl rfl ?_
  refine e_callW hX hN iW_law_472 (l_rejectedRule htr hI.1 (Or.inr (Or.inl rfl)) ho0 ) rfl rfl ⟨Nat.le_of_ble_eq_true rfl, Nat.le_of_ble_eq_true rfl, by show _ ≤ 603072; omega, by show _ ≤ 7182442; omega⟩ (Nat.le_of_ble_eq_true rfl) (fun v9 p9 h9 => ?_)
  obtain ⟨rfl, hG9⟩ := hI.gate h9
  rw [ite_self] at hG9
  obtain ⟨t9, hm9⟩ := hG9.2.1
  obtain ⟨fs9, hmo9⟩ := hm9.go
  refine e_istore hX iL_law_475 (by decide) ?_
  refine e_aload_n hX 2 iL_law_477 rfl rfl ?_
  refine e_callV hX iL_law_478 hmo9 (w_rejectedRule htr hm9 ) rfl rfl ⟨Nat.le_of_ble_eq_true rfl, Nat.le_of_ble_eq_true rfl, by show _ ≤ 603072; omega, by show _ ≤ 7182442; omega⟩ (Nat.le_of_ble_eq_true rfl) (fun _ _ h => h.elim) (fun v8 p8 h8 => ?_)
  obtain ⟨a8, rfl, hb8, hm8, hk8⟩ := h8.int
  obtain ⟨hI8, f8, ho8, ha8⟩ := hG9.model hm8 hk8
  obtain ⟨fs8, hmo8⟩ := hm8.go
  refine e_istore hX iL_law_481 (by decide) ?_
  refine e_aload_n hX 2 iL_law_483 rfl rfl ?_
  refine e_callV hX iL_law_484 hmo8 (w_thrown htr hm8) rfl rfl ⟨Nat.le_of_ble_eq_true rfl, Nat.le_of_ble_eq_true rfl, by show _ ≤ 603072; omega, by show _ ≤ 7182442; omega⟩ (Nat.le_of_ble_eq_true rfl) (fun _ _ h => h.elim) (fun v7 p7 h7 => ?_)
  obtain ⟨rfl, e7⟩ := h7
  subst p7
  refine e_iload hX iL_law_487 rfl ?_
  refine e_icmp_eq hX iL_law_489 (fun c489 => ?_) (fun c489 => ?_)
  · have hK3 : (k_rej σ) ≤ 3 := by unfold k_rej; (repeat' split) <;> decide
    refine e_iload hX iL_law_494 rfl ?_
    refine e_if_ne hX iL_law_496 (fun c496 => ?_) (fun c496 => ?_)
    · refine e_goto hX iL_law_511 ?_
      refine e_loc [0, 1, 2, 3, 4, 5] ?_
      refine e_wid (k' := k + 340) (n' := n + 2000) (by omega) (by omega) ?_
      exact back _ _ hI8
    · have hK : (k_rej σ) = 0 := (nI_eq (by omega) (by decide)).mp c496
      refine e_aload_n hX 3 iL_law_499 rfl rfl ?_
      refine e_iconst (v := 0) hX iL_law_500 (by decide) ?_
      refine e_lald hX 0 iL_law_501 ho8 rfl (by decide) (by decide) ?_
      refine e_iload hX iL_law_502 rfl ?_
      refine e_i2l hX iL_law_504 ?_
      refine e_lcmp hX iL_law_505 ?_
      refine e_if_eq hX iL_law_506 (fun c506 => ?_) (fun c506 => ?_)
      · refine e_goto hX iL_law_511 ?_
        refine e_loc [0, 1, 2, 3, 4, 5] ?_
        refine e_wid (k' := k + 340) (n' := n + 2000) (by omega) (by omega) ?_
        exact back _ _ hI8
      · exact absurd ((lg_cmp_eq _ _).mpr (by rw [ha8 hK, hb8 hK])) c506
  · exact absurd rfl c489
/-- case 6 -/
theorem q_rejectedOther (htr : l.stackTraces = false) (hX : e_in cL_law RL nm 9 rt room_1 l θ x) (hN : e_nc x) (hS : e_scr θ x b L xs) (hL : L ≤ 3072) {i : Nat} (hi : i + 6 ≤ L) (hI : LI θ ph g mo μ o od σ) (hk : k + 340 ≤ 603072) (hn : n + 2000 ≤ 7182442) (back : ∀ p σ2, LI θ p g mo μ o od σ2 → EJ θ x 2943 [(0, .ref b), (1, .ref g), (2, .ref mo), (3, .ref o), (4, .ref od), (5, .int (nI i))] [] p (k + 340) (n + 2000)) : EJ θ x 514 [(0, .ref b), (1, .ref g), (2, .ref mo), (3, .ref o), (4, .ref od), (5, .int (nI i))] [] ph k n := by
  have hIo := hI.2.2.1
  obtain ⟨f0, ho0⟩ := hIo
  refine e_aload_n hX 1 iL_law_514 rfl rfl ?_
  refine e_aload_n hX 3 iL_law_515 rfl rfl ?_
  refine e_callW hX hN iW_law_516 (l_rejectedOther htr hI.1 (Or.inr (Or.inl rfl)) ho0 ) rfl rfl ⟨Nat.le_of_ble_eq_true rfl, Nat.le_of_ble_eq_true rfl, by show _ ≤ 603072; omega, by show _ ≤ 7182442; omega⟩ (Nat.le_of_ble_eq_true rfl) (fun v9 p9 h9 => ?_)
  obtain ⟨rfl, hG9⟩ := hI.gate h9
  rw [ite_self] at hG9
  obtain ⟨t9, hm9⟩ := hG9.2.1
  obtain ⟨fs9, hmo9⟩ := hm9.go
  refine e_istore hX iL_law_519 (by decide) ?_
  refine e_aload_n hX 2 iL_law_521 rfl rfl ?_
  refine e_callV hX iL_law_522 hmo9 (w_rejectedOther htr hm9 ) rfl rfl ⟨Nat.le_of_ble_eq_true rfl, Nat.le_of_ble_eq_true rfl, by show _ ≤ 603072; omega, by show _ ≤ 7182442; omega⟩ (Nat.le_of_ble_eq_true rfl) (fun _ _ h => h.elim) (fun v8 p8 h8 => ?_)
  obtain ⟨a8, rfl, hb8, hm8, hk8⟩ := h8.int
  obtain ⟨hI8, f8, ho8, ha8⟩ := hG9.model hm8 hk8
  obtain ⟨fs8, hmo8⟩ := hm8.go
  refine e_istore hX iL_law_525 (by decide) ?_
  refine e_aload_n hX 2 iL_law_527 rfl rfl ?_
  refine e_callV hX iL_law_528 hmo8 (w_thrown htr hm8) rfl rfl ⟨Nat.le_of_ble_eq_true rfl, Nat.le_of_ble_eq_true rfl, by show _ ≤ 603072; omega, by show _ ≤ 7182442; omega⟩ (Nat.le_of_ble_eq_true rfl) (fun _ _ h => h.elim) (fun v7 p7 h7 => ?_)
  obtain ⟨rfl, e7⟩ := h7
  subst p7
  refine e_iload hX iL_law_531 rfl ?_
  refine e_icmp_eq hX iL_law_533 (fun c533 => ?_) (fun c533 => ?_)
  · have hK3 : (k_rejO σ) ≤ 3 := by unfold k_rejO; (repeat' split) <;> decide
    refine e_iload hX iL_law_538 rfl ?_
    refine e_if_ne hX iL_law_540 (fun c540 => ?_) (fun c540 => ?_)
    · refine e_goto hX iL_law_555 ?_
      refine e_loc [0, 1, 2, 3, 4, 5] ?_
      refine e_wid (k' := k + 340) (n' := n + 2000) (by omega) (by omega) ?_
      exact back _ _ hI8
    · have hK : (k_rejO σ) = 0 := (nI_eq (by omega) (by decide)).mp c540
      refine e_aload_n hX 3 iL_law_543 rfl rfl ?_
      refine e_iconst (v := 0) hX iL_law_544 (by decide) ?_
      refine e_lald hX 0 iL_law_545 ho8 rfl (by decide) (by decide) ?_
      refine e_iload hX iL_law_546 rfl ?_
      refine e_i2l hX iL_law_548 ?_
      refine e_lcmp hX iL_law_549 ?_
      refine e_if_eq hX iL_law_550 (fun c550 => ?_) (fun c550 => ?_)
      · refine e_goto hX iL_law_555 ?_
        refine e_loc [0, 1, 2, 3, 4, 5] ?_
        refine e_wid (k' := k + 340) (n' := n + 2000) (by omega) (by omega) ?_
        exact back _ _ hI8
      · exact absurd ((lg_cmp_eq _ _).mpr (by rw [ha8 hK, hb8 hK])) c550
  · exact absurd rfl c533
/-- case 7 -/
theorem q_isOtherStaged (htr : l.stackTraces = false) (hX : e_in cL_law RL nm 9 rt room_1 l θ x) (hN : e_nc x) (hS : e_scr θ x b L xs) (hL : L ≤ 3072) {i : Nat} (hi : i + 6 ≤ L) (hI : LI θ ph g mo μ o od σ) (hk : k + 340 ≤ 603072) (hn : n + 2000 ≤ 7182442) (back : ∀ p σ2, LI θ p g mo μ o od σ2 → EJ θ x 2943 [(0, .ref b), (1, .ref g), (2, .ref mo), (3, .ref o), (4, .ref od), (5, .int (nI i))] [] p (k + 340) (n + 2000)) : EJ θ x 558 [(0, .ref b), (1, .ref g), (2, .ref mo), (3, .ref o), (4, .ref od), (5, .int (nI i))] [] ph k n := by
  have hIo := hI.2.2.1
  obtain ⟨f0, ho0⟩ := hIo
  refine e_aload_n hX 1 iL_law_558 rfl rfl ?_
  refine e_aload_n hX 3 iL_law_559 rfl rfl ?_
  refine e_callW hX hN iW_law_560 (l_isOtherStaged htr hI.1 (Or.inr (Or.inl rfl)) ho0 ) rfl rfl ⟨Nat.le_of_ble_eq_true rfl, Nat.le_of_ble_eq_true rfl, by show _ ≤ 603072; omega, by show _ ≤ 7182442; omega⟩ (Nat.le_of_ble_eq_true rfl) (fun v9 p9 h9 => ?_)
  obtain ⟨rfl, hG9⟩ := hI.gate h9
  rw [ite_self] at hG9
  obtain ⟨t9, hm9⟩ := hG9.2.1
  obtain ⟨fs9, hmo9⟩ := hm9.go
  refine e_istore hX iL_law_563 (by decide) ?_
  refine e_aload_n hX 2 iL_law_565 rfl rfl ?_
  refine e_callV hX iL_law_566 hmo9 (w_isOtherStaged htr hm9 ) rfl rfl ⟨Nat.le_of_ble_eq_true rfl, Nat.le_of_ble_eq_true rfl, by show _ ≤ 603072; omega, by show _ ≤ 7182442; omega⟩ (Nat.le_of_ble_eq_true rfl) (fun _ _ h => h.elim) (fun v8 p8 h8 => ?_)
  obtain ⟨⟨b0, rfl, hb0⟩, hm8, hk8⟩ := h8
  obtain ⟨a8, e8, hb8⟩ : ∃ b8, zB (k_rejO σ) b0 = .int (b2i b8) ∧ ((k_rejO σ) = 0 → b8 = b0) := ⟨_, rfl, fun e => by rw [decide_eq_true e]; rfl⟩
  rw [e8]
  obtain ⟨hI8, f8, ho8, ha8⟩ := hG9.model hm8 hk8
  obtain ⟨fs8, hmo8⟩ := hm8.go
  refine e_istore hX iL_law_569 (by decide) ?_
  refine e_aload_n hX 2 iL_law_571 rfl rfl ?_
  refine e_callV hX iL_law_572 hmo8 (w_thrown htr hm8) rfl rfl ⟨Nat.le_of_ble_eq_true rfl, Nat.le_of_ble_eq_true rfl, by show _ ≤ 603072; omega, by show _ ≤ 7182442; omega⟩ (Nat.le_of_ble_eq_true rfl) (fun _ _ h => h.elim) (fun v7 p7 h7 => ?_)
  obtain ⟨rfl, e7⟩ := h7
  subst p7
  refine e_iload hX iL_law_575 rfl ?_
  refine e_icmp_eq hX iL_law_577 (fun c577 => ?_) (fun c577 => ?_)
  · have hK3 : (k_rejO σ) ≤ 3 := by unfold k_rejO; (repeat' split) <;> decide
    refine e_iload hX iL_law_582 rfl ?_
    refine e_if_ne hX iL_law_584 (fun c584 => ?_) (fun c584 => ?_)
    · refine e_goto hX iL_law_606 ?_
      refine e_loc [0, 1, 2, 3, 4, 5] ?_
      refine e_wid (k' := k + 340) (n' := n + 2000) (by omega) (by omega) ?_
      exact back _ _ hI8
    · have hK : (k_rejO σ) = 0 := (nI_eq (by omega) (by decide)).mp c584
      refine e_aload_n hX 3 iL_law_587 rfl rfl ?_
      refine e_iconst (v := 0) hX iL_law_588 (by decide) ?_
      refine e_lald hX 0 iL_law_589 ho8 rfl (by decide) (by decide) ?_
      refine e_iload hX iL_law_590 rfl ?_
      refine e_nzL hX iL_law_592 iL_law_595 iL_law_596 iL_law_599 ?_
      refine e_lcmp hX iL_law_600 ?_
      refine e_if_eq hX iL_law_601 (fun c601 => ?_) (fun c601 => ?_)
      · refine e_goto hX iL_law_606 ?_
        refine e_loc [0, 1, 2, 3, 4, 5] ?_
        refine e_wid (k' := k + 340) (n' := n + 2000) (by omega) (by omega) ?_
        exact back _ _ hI8
      · exact absurd ((lg_cmp_eq _ _).mpr (by rw [nz_b, ha8 hK, hb8 hK, hb0 hK])) c601
  · exact absurd rfl c577
/-- case 8 -/
theorem q_removeRow (htr : l.stackTraces = false) (hX : e_in cL_law RL nm 9 rt room_1 l θ x) (hN : e_nc x) (hS : e_scr θ x b L xs) (hL : L ≤ 3072) {i : Nat} (hi : i + 6 ≤ L) (hI : LI θ ph g mo μ o od σ) (hk : k + 340 ≤ 603072) (hn : n + 2000 ≤ 7182442) (back : ∀ p σ2, LI θ p g mo μ o od σ2 → EJ θ x 2943 [(0, .ref b), (1, .ref g), (2, .ref mo), (3, .ref o), (4, .ref od), (5, .int (nI i))] [] p (k + 340) (n + 2000)) : EJ θ x 609 [(0, .ref b), (1, .ref g), (2, .ref mo), (3, .ref o), (4, .ref od), (5, .int (nI i))] [] ph k n := by
  have hIo := hI.2.2.1
  obtain ⟨f0, ho0⟩ := hIo
  refine e_aload_n hX 1 iL_law_609 rfl rfl ?_
  refine e_aload_n hX 0 iL_law_610 rfl rfl ?_
  refine e_iload hX iL_law_611 rfl ?_
  refine e_iconst (v := 1) hX iL_law_613 (by decide) ?_
  refine e_iadd hX iL_law_614 ?_
  refine e_sld hX hS (i + 1) iL_law_615 (nI_add i 1) (by omega) (by omega) ?_
  refine e_aload_n hX 3 iL_law_616 rfl rfl ?_
  refine e_callW hX hN iW_law_617 (l_removeRow htr hI.1 (Or.inr (Or.inl rfl)) ho0 (xs (i + 1))) rfl rfl ⟨Nat.le_of_ble_eq_true rfl, Nat.le_of_ble_eq_true rfl, by show _ ≤ 603072; omega, by show _ ≤ 7182442; omega⟩ (Nat.le_of_ble_eq_true rfl) (fun v9 p9 h9 => ?_)
  obtain ⟨rfl, hG9⟩ := hI.gate h9
  obtain ⟨t9, hm9⟩ := hG9.2.1
  obtain ⟨fs9, hmo9⟩ := hm9.go
  refine e_istore hX iL_law_620 (by decide) ?_
  refine e_aload_n hX 2 iL_law_622 rfl rfl ?_
  refine e_aload_n hX 0 iL_law_623 rfl rfl ?_
  refine e_iload hX iL_law_624 rfl ?_
  refine e_iconst (v := 1) hX iL_law_626 (by decide) ?_
  refine e_iadd hX iL_law_627 ?_
  refine e_sld hX hS (i + 1) iL_law_628 (nI_add i 1) (by omega) (by omega) ?_
  refine e_callV hX iL_law_629 hmo9 (w_removeRow htr hm9 (xs (i + 1))) rfl rfl ⟨Nat.le_of_ble_eq_true rfl, Nat.le_of_ble_eq_true rfl, by show _ ≤ 603072; omega, by show _ ≤ 7182442; omega⟩ (Nat.le_of_ble_eq_true rfl) (fun _ _ h => h.elim) (fun v8 p8 h8 => ?_)
  obtain ⟨a8, rfl, hb8, hm8, hk8⟩ := h8.int
  obtain ⟨hI8, f8, ho8, ha8⟩ := hG9.model hm8 hk8
  obtain ⟨fs8, hmo8⟩ := hm8.go
  refine e_istore hX iL_law_632 (by decide) ?_
  refine e_aload_n hX 2 iL_law_634 rfl rfl ?_
  refine e_callV hX iL_law_635 hmo8 (w_thrown htr hm8) rfl rfl ⟨Nat.le_of_ble_eq_true rfl, Nat.le_of_ble_eq_true rfl, by show _ ≤ 603072; omega, by show _ ≤ 7182442; omega⟩ (Nat.le_of_ble_eq_true rfl) (fun _ _ h => h.elim) (fun v7 p7 h7 => ?_)
  obtain ⟨rfl, e7⟩ := h7
  subst p7
  refine e_iload hX iL_law_638 rfl ?_
  refine e_icmp_eq hX iL_law_640 (fun c640 => ?_) (fun c640 => ?_)
  · have hK3 : (k_id σ (xs (i + 1))) ≤ 3 := by unfold k_id; (repeat' split) <;> decide
    refine e_iload hX iL_law_645 rfl ?_
    refine e_if_ne hX iL_law_647 (fun c647 => ?_) (fun c647 => ?_)
    · refine e_goto hX iL_law_662 ?_
      refine e_loc [0, 1, 2, 3, 4, 5] ?_
      refine e_wid (k' := k + 340) (n' := n + 2000) (by omega) (by omega) ?_
      exact back _ _ hI8
    · have hK : (k_id σ (xs (i + 1))) = 0 := (nI_eq (by omega) (by decide)).mp c647
      refine e_aload_n hX 3 iL_law_650 rfl rfl ?_
      refine e_iconst (v := 0) hX iL_law_651 (by decide) ?_
      refine e_lald hX 0 iL_law_652 ho8 rfl (by decide) (by decide) ?_
      refine e_iload hX iL_law_653 rfl ?_
      refine e_i2l hX iL_law_655 ?_
      refine e_lcmp hX iL_law_656 ?_
      refine e_if_eq hX iL_law_657 (fun c657 => ?_) (fun c657 => ?_)
      · refine e_goto hX iL_law_662 ?_
        refine e_loc [0, 1, 2, 3, 4, 5] ?_
        refine e_wid (k' := k + 340) (n' := n + 2000) (by omega) (by omega) ?_
        exact back _ _ hI8
      · exact absurd ((lg_cmp_eq _ _).mpr (by rw [ha8 hK, hb8 hK])) c657
  · exact absurd rfl c640
/-- case 9 -/
theorem q_setValue (htr : l.stackTraces = false) (hX : e_in cL_law RL nm 9 rt room_1 l θ x) (hN : e_nc x) (hS : e_scr θ x b L xs) (hL : L ≤ 3072) {i : Nat} (hi : i + 6 ≤ L) (hI : LI θ ph g mo μ o od σ) (hk : k + 340 ≤ 603072) (hn : n + 2000 ≤ 7182442) (back : ∀ p σ2, LI θ p g mo μ o od σ2 → EJ θ x 2943 [(0, .ref b), (1, .ref g), (2, .ref mo), (3, .ref o), (4, .ref od), (5, .int (nI i))] [] p (k + 340) (n + 2000)) : EJ θ x 665 [(0, .ref b), (1, .ref g), (2, .ref mo), (3, .ref o), (4, .ref od), (5, .int (nI i))] [] ph k n := by
  have hIo := hI.2.2.1
  obtain ⟨f0, ho0⟩ := hIo
  refine e_aload_n hX 1 iL_law_665 rfl rfl ?_
  refine e_aload_n hX 0 iL_law_666 rfl rfl ?_
  refine e_iload hX iL_law_667 rfl ?_
  refine e_iconst (v := 1) hX iL_law_669 (by decide) ?_
  refine e_iadd hX iL_law_670 ?_
  refine e_sld hX hS (i + 1) iL_law_671 (nI_add i 1) (by omega) (by omega) ?_
  refine e_aload_n hX 0 iL_law_672 rfl rfl ?_
  refine e_iload hX iL_law_673 rfl ?_
  refine e_iconst (v := 2) hX iL_law_675 (by decide) ?_
  refine e_iadd hX iL_law_676 ?_
  refine e_sld hX hS (i + 2) iL_law_677 (nI_add i 2) (by omega) (by omega) ?_
  refine e_aload_n hX 0 iL_law_678 rfl rfl ?_
  refine e_iload hX iL_law_679 rfl ?_
  refine e_iconst (v := 3) hX iL_law_681 (by decide) ?_
  refine e_iadd hX iL_law_682 ?_
  refine e_sld hX hS (i + 3) iL_law_683 (nI_add i 3) (by omega) (by omega) ?_
  refine e_aload_n hX 3 iL_law_684 rfl rfl ?_
  refine e_callW hX hN iW_law_685 (l_setValue htr hI.1 (Or.inr (Or.inl rfl)) ho0 (xs (i + 1)) (xs (i + 2)) (xs (i + 3))) rfl rfl ⟨Nat.le_of_ble_eq_true rfl, Nat.le_of_ble_eq_true rfl, by show _ ≤ 603072; omega, by show _ ≤ 7182442; omega⟩ (Nat.le_of_ble_eq_true rfl) (fun v9 p9 h9 => ?_)
  obtain ⟨rfl, hG9⟩ := hI.gate h9
  obtain ⟨t9, hm9⟩ := hG9.2.1
  obtain ⟨fs9, hmo9⟩ := hm9.go
  refine e_istore hX iL_law_688 (by decide) ?_
  refine e_aload_n hX 2 iL_law_690 rfl rfl ?_
  refine e_aload_n hX 0 iL_law_691 rfl rfl ?_
  refine e_iload hX iL_law_692 rfl ?_
  refine e_iconst (v := 1) hX iL_law_694 (by decide) ?_
  refine e_iadd hX iL_law_695 ?_
  refine e_sld hX hS (i + 1) iL_law_696 (nI_add i 1) (by omega) (by omega) ?_
  refine e_aload_n hX 0 iL_law_697 rfl rfl ?_
  refine e_iload hX iL_law_698 rfl ?_
  refine e_iconst (v := 2) hX iL_law_700 (by decide) ?_
  refine e_iadd hX iL_law_701 ?_
  refine e_sld hX hS (i + 2) iL_law_702 (nI_add i 2) (by omega) (by omega) ?_
  refine e_aload_n hX 0 iL_law_703 rfl rfl ?_
  refine e_iload hX iL_law_704 rfl ?_
  refine e_iconst (v := 3) hX iL_law_706 (by decide) ?_
  refine e_iadd hX iL_law_707 ?_
  refine e_sld hX hS (i + 3) iL_law_708 (nI_add i 3) (by omega) (by omega) ?_
  refine e_callV hX iL_law_709 hmo9 (w_setValue htr hm9 (xs (i + 1)) (xs (i + 2)) (xs (i + 3))) rfl rfl ⟨Nat.le_of_ble_eq_true rfl, Nat.le_of_ble_eq_true rfl, by show _ ≤ 603072; omega, by show _ ≤ 7182442; omega⟩ (Nat.le_of_ble_eq_true rfl) (fun _ _ h => h.elim) (fun v8 p8 h8 => ?_)
  obtain ⟨a8, rfl, hb8, hm8, hk8⟩ := h8.int
  obtain ⟨hI8, f8, ho8, ha8⟩ := hG9.model hm8 hk8
  obtain ⟨fs8, hmo8⟩ := hm8.go
  refine e_istore hX iL_law_712 (by decide) ?_
  refine e_aload_n hX 2 iL_law_714 rfl rfl ?_
  refine e_callV hX iL_law_715 hmo8 (w_thrown htr hm8) rfl rfl ⟨Nat.le_of_ble_eq_true rfl, Nat.le_of_ble_eq_true rfl, by show _ ≤ 603072; omega, by show _ ≤ 7182442; omega⟩ (Nat.le_of_ble_eq_true rfl) (fun _ _ h => h.elim) (fun v7 p7 h7 => ?_)
  obtain ⟨rfl, e7⟩ := h7
  subst p7
  refine e_iload hX iL_law_718 rfl ?_
  refine e_icmp_eq hX iL_law_720 (fun c720 => ?_) (fun c720 => ?_)
  · have hK3 : (k_val σ (xs (i + 1)) (xs (i + 2)) (xs (i + 3))) ≤ 3 := by unfold k_val; (repeat' split) <;> decide
    refine e_iload hX iL_law_725 rfl ?_
    refine e_if_ne hX iL_law_727 (fun c727 => ?_) (fun c727 => ?_)
    · refine e_goto hX iL_law_742 ?_
      refine e_loc [0, 1, 2, 3, 4, 5] ?_
      refine e_wid (k' := k + 340) (n' := n + 2000) (by omega) (by omega) ?_
      exact back _ _ hI8
    · have hK : (k_val σ (xs (i + 1)) (xs (i + 2)) (xs (i + 3))) = 0 := (nI_eq (by omega) (by decide)).mp c727
      refine e_aload_n hX 3 iL_law_730 rfl rfl ?_
      refine e_iconst (v := 0) hX iL_law_731 (by decide) ?_
      refine e_lald hX 0 iL_law_732 ho8 rfl (by decide) (by decide) ?_
      refine e_iload hX iL_law_733 rfl ?_
      refine e_i2l hX iL_law_735 ?_
      refine e_lcmp hX iL_law_736 ?_
      refine e_if_eq hX iL_law_737 (fun c737 => ?_) (fun c737 => ?_)
      · refine e_goto hX iL_law_742 ?_
        refine e_loc [0, 1, 2, 3, 4, 5] ?_
        refine e_wid (k' := k + 340) (n' := n + 2000) (by omega) (by omega) ?_
        exact back _ _ hI8
      · exact absurd ((lg_cmp_eq _ _).mpr (by rw [ha8 hK, hb8 hK])) c737
  · exact absurd rfl c720
/-- case 10 -/
theorem q_valueAt (htr : l.stackTraces = false) (hX : e_in cL_law RL nm 9 rt room_1 l θ x) (hN : e_nc x) (hS : e_scr θ x b L xs) (hL : L ≤ 3072) {i : Nat} (hi : i + 6 ≤ L) (hI : LI θ ph g mo μ o od σ) (hk : k + 340 ≤ 603072) (hn : n + 2000 ≤ 7182442) (back : ∀ p σ2, LI θ p g mo μ o od σ2 → EJ θ x 2943 [(0, .ref b), (1, .ref g), (2, .ref mo), (3, .ref o), (4, .ref od), (5, .int (nI i))] [] p (k + 340) (n + 2000)) : EJ θ x 745 [(0, .ref b), (1, .ref g), (2, .ref mo), (3, .ref o), (4, .ref od), (5, .int (nI i))] [] ph k n := by
  have hIo := hI.2.2.1
  obtain ⟨f0, ho0⟩ := hIo
  refine e_aload_n hX 1 iL_law_745 rfl rfl ?_
  refine e_aload_n hX 0 iL_law_746 rfl rfl ?_
  refine e_iload hX iL_law_747 rfl ?_
  refine e_iconst (v := 1) hX iL_law_749 (by decide) ?_
  refine e_iadd hX iL_law_750 ?_
  refine e_sld hX hS (i + 1) iL_law_751 (nI_add i 1) (by omega) (by omega) ?_
  refine e_aload_n hX 0 iL_law_752 rfl rfl ?_
  refine e_iload hX iL_law_753 rfl ?_
  refine e_iconst (v := 2) hX iL_law_755 (by decide) ?_
  refine e_iadd hX iL_law_756 ?_
  refine e_sld hX hS (i + 2) iL_law_757 (nI_add i 2) (by omega) (by omega) ?_
  refine e_aload_n hX 3 iL_law_758 rfl rfl ?_
  refine e_callW hX hN iW_law_759 (l_valueAt htr hI.1 (Or.inr (Or.inl rfl)) ho0 (xs (i + 1)) (xs (i + 2))) rfl rfl ⟨Nat.le_of_ble_eq_true rfl, Nat.le_of_ble_eq_true rfl, by show _ ≤ 603072; omega, by show _ ≤ 7182442; omega⟩ (Nat.le_of_ble_eq_true rfl) (fun v9 p9 h9 => ?_)
  obtain ⟨rfl, hG9⟩ := hI.gate h9
  rw [ite_self] at hG9
  obtain ⟨t9, hm9⟩ := hG9.2.1
  obtain ⟨fs9, hmo9⟩ := hm9.go
  refine e_istore hX iL_law_762 (by decide) ?_
  refine e_aload_n hX 2 iL_law_764 rfl rfl ?_
  refine e_aload_n hX 0 iL_law_765 rfl rfl ?_
  refine e_iload hX iL_law_766 rfl ?_
  refine e_iconst (v := 1) hX iL_law_768 (by decide) ?_
  refine e_iadd hX iL_law_769 ?_
  refine e_sld hX hS (i + 1) iL_law_770 (nI_add i 1) (by omega) (by omega) ?_
  refine e_aload_n hX 0 iL_law_771 rfl rfl ?_
  refine e_iload hX iL_law_772 rfl ?_
  refine e_iconst (v := 2) hX iL_law_774 (by decide) ?_
  refine e_iadd hX iL_law_775 ?_
  refine e_sld hX hS (i + 2) iL_law_776 (nI_add i 2) (by omega) (by omega) ?_
  refine e_callV hX iL_law_777 hmo9 (w_valueAt htr hm9 (xs (i + 1)) (xs (i + 2))) rfl rfl ⟨Nat.le_of_ble_eq_true rfl, Nat.le_of_ble_eq_true rfl, by show _ ≤ 603072; omega, by show _ ≤ 7182442; omega⟩ (Nat.le_of_ble_eq_true rfl) (fun _ _ h => h.elim) (fun v8 p8 h8 => ?_)
  obtain ⟨a8, rfl, hb8, hm8, hk8⟩ := h8.int
  obtain ⟨hI8, f8, ho8, ha8⟩ := hG9.model hm8 hk8
  obtain ⟨fs8, hmo8⟩ := hm8.go
  refine e_istore hX iL_law_780 (by decide) ?_
  refine e_aload_n hX 2 iL_law_782 rfl rfl ?_
  refine e_callV hX iL_law_783 hmo8 (w_thrown htr hm8) rfl rfl ⟨Nat.le_of_ble_eq_true rfl, Nat.le_of_ble_eq_true rfl, by show _ ≤ 603072; omega, by show _ ≤ 7182442; omega⟩ (Nat.le_of_ble_eq_true rfl) (fun _ _ h => h.elim) (fun v7 p7 h7 => ?_)
  obtain ⟨rfl, e7⟩ := h7
  subst p7
  refine e_iload hX iL_law_786 rfl ?_
  refine e_icmp_eq hX iL_law_788 (fun c788 => ?_) (fun c788 => ?_)
  · have hK3 : (k_idc σ (xs (i + 1)) (xs (i + 2))) ≤ 3 := by unfold k_idc; (repeat' split) <;> decide
    refine e_iload hX iL_law_793 rfl ?_
    refine e_if_ne hX iL_law_795 (fun c795 => ?_) (fun c795 => ?_)
    · refine e_goto hX iL_law_810 ?_
      refine e_loc [0, 1, 2, 3, 4, 5] ?_
      refine e_wid (k' := k + 340) (n' := n + 2000) (by omega) (by omega) ?_
      exact back _ _ hI8
    · have hK : (k_idc σ (xs (i + 1)) (xs (i + 2))) = 0 := (nI_eq (by omega) (by decide)).mp c795
      refine e_aload_n hX 3 iL_law_798 rfl rfl ?_
      refine e_iconst (v := 0) hX iL_law_799 (by decide) ?_
      refine e_lald hX 0 iL_law_800 ho8 rfl (by decide) (by decide) ?_
      refine e_iload hX iL_law_801 rfl ?_
      refine e_i2l hX iL_law_803 ?_
      refine e_lcmp hX iL_law_804 ?_
      refine e_if_eq hX iL_law_805 (fun c805 => ?_) (fun c805 => ?_)
      · refine e_goto hX iL_law_810 ?_
        refine e_loc [0, 1, 2, 3, 4, 5] ?_
        refine e_wid (k' := k + 340) (n' := n + 2000) (by omega) (by omega) ?_
        exact back _ _ hI8
      · exact absurd ((lg_cmp_eq _ _).mpr (by rw [ha8 hK, hb8 hK])) c805
  · exact absurd rfl c788
/-- case 11 -/
theorem q_rowCount (htr : l.stackTraces = false) (hX : e_in cL_law RL nm 9 rt room_1 l θ x) (hN : e_nc x) (hS : e_scr θ x b L xs) (hL : L ≤ 3072) {i : Nat} (hi : i + 6 ≤ L) (hI : LI θ ph g mo μ o od σ) (hk : k + 340 ≤ 603072) (hn : n + 2000 ≤ 7182442) (back : ∀ p σ2, LI θ p g mo μ o od σ2 → EJ θ x 2943 [(0, .ref b), (1, .ref g), (2, .ref mo), (3, .ref o), (4, .ref od), (5, .int (nI i))] [] p (k + 340) (n + 2000)) : EJ θ x 813 [(0, .ref b), (1, .ref g), (2, .ref mo), (3, .ref o), (4, .ref od), (5, .int (nI i))] [] ph k n := by
  have hn12 := hI.1.ok.1
  refine e_aload_n hX 1 iL_law_813 rfl rfl ?_
  obtain ⟨fsg, hgo⟩ := hI.1.go
  refine e_callV hX iL_law_814 hgo (m_rowCount htr hI.1) rfl rfl ⟨Nat.le_of_ble_eq_true rfl, Nat.le_of_ble_eq_true rfl, by show _ ≤ 603072; omega, by show _ ≤ 7182442; omega⟩ (Nat.le_of_ble_eq_true rfl) (fun _ _ h => h.elim) (fun v9 p9 h9 => ?_)
  obtain ⟨-, rfl, hg9, hx9⟩ := h9
  have hG9 := hI.keep hg9 hx9
  obtain ⟨t9, hm9⟩ := hG9.2.1
  obtain ⟨fs9, hmo9⟩ := hm9.go
  refine e_aload_n hX 2 iL_law_817 rfl rfl ?_
  refine e_callV hX iL_law_818 hmo9 (w_rowCount htr hm9) rfl rfl ⟨Nat.le_of_ble_eq_true rfl, Nat.le_of_ble_eq_true rfl, by show _ ≤ 603072; omega, by show _ ≤ 7182442; omega⟩ (Nat.le_of_ble_eq_true rfl) (fun _ _ h => h.elim) (fun v8 p8 h8 => ?_)
  obtain ⟨rfl, hm8, hk8⟩ := h8
  obtain ⟨hI8, -⟩ := hG9.model hm8 hk8
  refine e_icmp_eq hX iL_law_821 (fun c821 => ?_) (fun c821 => ?_)
  · refine e_loc [0, 1, 2, 3, 4, 5] ?_
    refine e_wid (k' := k + 340) (n' := n + 2000) (by omega) (by omega) ?_
    exact back _ _ hI8
  · exact absurd (by first | rfl | (rw [frL_eq hn12, try_eq hn12]; done) | (rw [frL_eq hn12]; done)) c821
end XA0
