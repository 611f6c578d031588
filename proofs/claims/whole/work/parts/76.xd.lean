/-! the steps of the law's loop (printed by gen76.py) -/
section XA3
variable {θ : e_T} {x : e_X} {ph : e_PH} {k n : Nat} {nm : String} {rt : Option FieldType} {l : Launch} {b L : Nat} {xs : Nat → Int32} {g mo o od : Nat} {μ : Nat → Nat} {σ : SG}
/-- case 36 -/
theorem q_errorOf (htr : l.stackTraces = false) (hX : e_in cL_law RL nm 9 rt room_1 l θ x) (hN : e_nc x) (hS : e_scr θ x b L xs) (hL : L ≤ 3072) {i : Nat} (hi : i + 6 ≤ L) (hI : LI θ ph g mo μ o od σ) (hk : k + 340 ≤ 603072) (hn : n + 2000 ≤ 7182442) (back : ∀ p σ2, LI θ p g mo μ o od σ2 → EJ θ x 2943 [(0, .ref b), (1, .ref g), (2, .ref mo), (3, .ref o), (4, .ref od), (5, .int (nI i))] [] p (k + 340) (n + 2000)) : EJ θ x 2264 [(0, .ref b), (1, .ref g), (2, .ref mo), (3, .ref o), (4, .ref od), (5, .int (nI i))] [] ph k n := by
  have hIo := hI.2.2.1
  obtain ⟨f0, ho0⟩ := hIo
  refine e_aload_n hX 1 iL_law_2264 rfl rfl ?_
  refine e_aload_n hX 0 iL_law_2265 rfl rfl ?_
  refine e_iload hX iL_law_2266 rfl ?_
  refine e_iconst (v := 1) hX iL_law_2268 (by decide) ?_
  refine e_iadd hX iL_law_2269 ?_
  refine e_sld hX hS (i + 1) iL_law_2270 (nI_add i 1) (by omega) (by omega) ?_
  refine e_aload_n hX 0 iL_law_2271 rfl rfl ?_
  refine e_iload hX iL_law_2272 rfl ?_
  refine e_iconst (v := 2) hX iL_law_2274 (by decide) ?_
  refine e_iadd hX iL_law_2275 ?_
  refine e_sld hX hS (i + 2) iL_law_2276 (nI_add i 2) (by omega) (by omega) ?_
  refine e_aload_n hX 3 iL_law_2277 rfl rfl ?_
  refine e_callW hX hN iW_law_2278 (l_errorOf htr hI.1 (Or.inr (Or.inl rfl)) ho0 (xs (i + 1)) (xs (i + 2))) rfl rfl ⟨Nat.le_of_ble_eq_true rfl, Nat.le_of_ble_eq_true rfl, by show _ ≤ 603072; omega, by show _ ≤ 7182442; omega⟩ (Nat.le_of_ble_eq_true rfl) (fun v9 p9 h9 => ?_)
  obtain ⟨rfl, hG9⟩ := hI.gate h9
  rw [ite_self] at hG9
  obtain ⟨t9, hm9⟩ := hG9.2.1
  obtain ⟨fs9, hmo9⟩ := hm9.go
  refine e_istore hX iL_law_2281 (by decide) ?_
  refine e_aload_n hX 2 iL_law_2283 rfl rfl ?_
  refine e_aload_n hX 0 iL_law_2284 rfl rfl ?_
  refine e_iload hX iL_law_2285 rfl ?_
  refine e_iconst (v := 1) hX iL_law_2287 (by decide) ?_
  refine e_iadd hX iL_law_2288 ?_
  refine e_sld hX hS (i + 1) iL_law_2289 (nI_add i 1) (by omega) (by omega) ?_
  refine e_aload_n hX 0 iL_law_2290 rfl rfl ?_
  refine e_iload hX iL_law_2291 rfl ?_
  refine e_iconst (v := 2) hX iL_law_2293 (by decide) ?_
  refine e_iadd hX iL_law_2294 ?_
  refine e_sld hX hS (i + 2) iL_law_2295 (nI_add i 2) (by omega) (by omega) ?_
  refine e_callV hX iL_law_2296 hmo9 (w_errorOf htr hm9 (xs (i + 1)) (xs (i + 2))) rfl rfl ⟨Nat.le_of_ble_eq_true rfl, Nat.le_of_ble_eq_true rfl, by show _ ≤ 603072; omega, by show _ ≤ 7182442; omega⟩ (Nat.le_of_ble_eq_true rfl) (fun _ _ h => h.elim) (fun v8 p8 h8 => ?_)
  obtain ⟨a8, rfl, hb8, hm8, hk8⟩ := h8.int
  obtain ⟨hI8, f8, ho8, ha8⟩ := hG9.model hm8 hk8
  obtain ⟨fs8, hmo8⟩ := hm8.go
  refine e_istore hX iL_law_2299 (by decide) ?_
  refine e_aload_n hX 2 iL_law_2301 rfl rfl ?_
  refine e_callV hX iL_law_2302 hmo8 (w_thrown htr hm8) rfl rfl ⟨Nat.le_of_ble_eq_true rfl, Nat.le_of_ble_eq_true rfl, by show _ ≤ 603072; omega, by show _ ≤ 7182442; omega⟩ (Nat.le_of_ble_eq_true rfl) (fun _ _ h => h.elim) (fun v7 p7 h7 => ?_)
  obtain ⟨rfl, e7⟩ := h7
  subst p7
  refine e_iload hX iL_law_2305 rfl ?_
  refine e_icmp_eq hX iL_law_2307 (fun c2307 => ?_) (fun c2307 => ?_)
  · have hK3 : (k_err (xs (i + 1)) (xs (i + 2))) ≤ 3 := by unfold k_err; (repeat' split) <;> decide
    refine e_iload hX iL_law_2312 rfl ?_
    refine e_if_ne hX iL_law_2314 (fun c2314 => ?_) (fun c2314 => ?_)
    · refine e_goto hX iL_law_2329 ?_
      refine e_loc [0, 1, 2, 3, 4, 5] ?_
      refine e_wid (k' := k + 340) (n' := n + 2000) (by omega) (by omega) ?_
      exact back _ _ hI8
    · have hK : (k_err (xs (i + 1)) (xs (i + 2))) = 0 := (nI_eq (by omega) (by decide)).mp c2314
      refine e_aload_n hX 3 iL_law_2317 rfl rfl ?_
      refine e_iconst (v := 0) hX iL_law_2318 (by decide) ?_
      refine e_lald hX 0 iL_law_2319 ho8 rfl (by decide) (by decide) ?_
      refine e_iload hX iL_law_2320 rfl ?_
      refine e_i2l hX iL_law_2322 ?_
      refine e_lcmp hX iL_law_2323 ?_
      refine e_if_eq hX iL_law_2324 (fun c2324 => ?_) (fun c2324 => ?_)
      · refine e_goto hX iL_law_2329 ?_
        refine e_loc [0, 1, 2, 3, 4, 5] ?_
        refine e_wid (k' := k + 340) (n' := n + 2000) (by omega) (by omega) ?_
        exact back _ _ hI8
      · exact absurd ((lg_cmp_eq _ _).mpr (by rw [ha8 hK, hb8 hK])) c2324
  · exact absurd rfl c2307
/-- case 37 -/
theorem q_setFactor (htr : l.stackTraces = false) (hX : e_in cL_law RL nm 9 rt room_1 l θ x) (hN : e_nc x) (hS : e_scr θ x b L xs) (hL : L ≤ 3072) {i : Nat} (hi : i + 6 ≤ L) (hI : LI θ ph g mo μ o od σ) (hk : k + 340 ≤ 603072) (hn : n + 2000 ≤ 7182442) (back : ∀ p σ2, LI θ p g mo μ o od σ2 → EJ θ x 2943 [(0, .ref b), (1, .ref g), (2, .ref mo), (3, .ref o), (4, .ref od), (5, .int (nI i))] [] p (k + 340) (n + 2000)) : EJ θ x 2332 [(0, .ref b), (1, .ref g), (2, .ref mo), (3, .ref o), (4, .ref od), (5, .int (nI i))] [] ph k n := by
  have hIo := hI.2.2.1
  obtain ⟨f0, ho0⟩ := hIo
  refine e_aload_n hX 1 iL_law_2332 rfl rfl ?_
  refine e_aload_n hX 0 iL_law_2333 rfl rfl ?_
  refine e_iload hX iL_law_2334 rfl ?_
  refine e_iconst (v := 1) hX iL_law_2336 (by decide) ?_
  refine e_iadd hX iL_law_2337 ?_
  refine e_sld hX hS (i + 1) iL_law_2338 (nI_add i 1) (by omega) (by omega) ?_
  refine e_aload_n hX 3 iL_law_2339 rfl rfl ?_
  refine e_callW hX hN iW_law_2340 (l_setFactor htr hI.1 (Or.inr (Or.inl rfl)) ho0 (xs (i + 1))) rfl rfl ⟨Nat.le_of_ble_eq_true rfl, Nat.le_of_ble_eq_true rfl, by show _ ≤ 603072; omega, by show _ ≤ 7182442; omega⟩ (Nat.le_of_ble_eq_true rfl) (fun v9 p9 h9 => ?_)
  obtain ⟨rfl, hG9⟩ := hI.gate h9
  obtain ⟨t9, hm9⟩ := hG9.2.1
  obtain ⟨fs9, hmo9⟩ := hm9.go
  refine e_istore hX iL_law_2343 (by decide) ?_
  refine e_aload_n hX 2 iL_law_2345 rfl rfl ?_
  refine e_aload_n hX 0 iL_law_2346 rfl rfl ?_
  refine e_iload hX iL_law_2347 rfl ?_
  refine e_iconst (v := 1) hX iL_law_2349 (by decide) ?_
  refine e_iadd hX iL_law_2350 ?_
  refine e_sld hX hS (i + 1) iL_law_2351 (nI_add i 1) (by omega) (by omega) ?_
  refine e_callV hX iL_law_2352 hmo9 (w_setFactor htr hm9 (xs (i + 1))) rfl rfl ⟨Nat.le_of_ble_eq_true rfl, Nat.le_of_ble_eq_true rfl, by show _ ≤ 603072; omega, by show _ ≤ 7182442; omega⟩ (Nat.le_of_ble_eq_true rfl) (fun _ _ h => h.elim) (fun v8 p8 h8 => ?_)
  obtain ⟨a8, rfl, hb8, hm8, hk8⟩ := h8.int
  obtain ⟨hI8, f8, ho8, ha8⟩ := hG9.model hm8 hk8
  obtain ⟨fs8, hmo8⟩ := hm8.go
  refine e_istore hX iL_law_2355 (by decide) ?_
  refine e_aload_n hX 2 iL_law_2357 rfl rfl ?_
  refine e_callV hX iL_law_2358 hmo8 (w_thrown htr hm8) rfl rfl ⟨Nat.le_of_ble_eq_true rfl, Nat.le_of_ble_eq_true rfl, by show _ ≤ 603072; omega, by show _ ≤ 7182442; omega⟩ (Nat.le_of_ble_eq_true rfl) (fun _ _ h => h.elim) (fun v7 p7 h7 => ?_)
  obtain ⟨rfl, e7⟩ := h7
  subst p7
  refine e_iload hX iL_law_2361 rfl ?_
  refine e_icmp_eq hX iL_law_2363 (fun c2363 => ?_) (fun c2363 => ?_)
  · have hK3 : (k_fac (xs (i + 1))) ≤ 3 := by unfold k_fac; (repeat' split) <;> decide
    refine e_iload hX iL_law_2368 rfl ?_
    refine e_if_ne hX iL_law_2370 (fun c2370 => ?_) (fun c2370 => ?_)
    · refine e_goto hX iL_law_2385 ?_
      refine e_loc [0, 1, 2, 3, 4, 5] ?_
      refine e_wid (k' := k + 340) (n' := n + 2000) (by omega) (by omega) ?_
      exact back _ _ hI8
    · have hK : (k_fac (xs (i + 1))) = 0 := (nI_eq (by omega) (by decide)).mp c2370
      refine e_aload_n hX 3 iL_law_2373 rfl rfl ?_
      refine e_iconst (v := 0) hX iL_law_2374 (by decide) ?_
      refine e_lald hX 0 iL_law_2375 ho8 rfl (by decide) (by decide) ?_
      refine e_iload hX iL_law_2376 rfl ?_
      refine e_i2l hX iL_law_2378 ?_
      refine e_lcmp hX iL_law_2379 ?_
      refine e_if_eq hX iL_law_2380 (fun c2380 => ?_) (fun c2380 => ?_)
      · refine e_goto hX iL_law_2385 ?_
        refine e_loc [0, 1, 2, 3, 4, 5] ?_
        refine e_wid (k' := k + 340) (n' := n + 2000) (by omega) (by omega) ?_
        exact back _ _ hI8
      · exact absurd ((lg_cmp_eq _ _).mpr (by rw [ha8 hK, hb8 hK])) c2380
  · exact absurd rfl c2363
/-- case 38 -/
theorem q_medianOf (htr : l.stackTraces = false) (hX : e_in cL_law RL nm 9 rt room_1 l θ x) (hN : e_nc x) (hS : e_scr θ x b L xs) (hL : L ≤ 3072) {i : Nat} (hi : i + 6 ≤ L) (hI : LI θ ph g mo μ o od σ) (hk : k + 340 ≤ 603072) (hn : n + 2000 ≤ 7182442) (back : ∀ p σ2, LI θ p g mo μ o od σ2 → EJ θ x 2943 [(0, .ref b), (1, .ref g), (2, .ref mo), (3, .ref o), (4, .ref od), (5, .int (nI i))] [] p (k + 340) (n + 2000)) : EJ θ x 2388 [(0, .ref b), (1, .ref g), (2, .ref mo), (3, .ref o), (4, .ref od), (5, .int (nI i))] [] ph k n := by
  have hIo := hI.2.2.1
  obtain ⟨f0, ho0⟩ := hIo
  refine e_aload_n hX 1 iL_law_2388 rfl rfl ?_
  refine e_aload_n hX 0 iL_law_2389 rfl rfl ?_
  refine e_iload hX iL_law_2390 rfl ?_
  refine e_iconst (v := 1) hX iL_law_2392 (by decide) ?_
  refine e_iadd hX iL_law_2393 ?_
  refine e_sld hX hS (i + 1) iL_law_2394 (nI_add i 1) (by omega) (by omega) ?_
  refine e_aload_n hX 3 iL_law_2395 rfl rfl ?_
  refine e_callW hX hN iW_law_2396 (l_medianOf htr hI.1 (Or.inr (Or.inl rfl)) ho0 (xs (i + 1))) rfl rfl ⟨Nat.le_of_ble_eq_true rfl, Nat.le_of_ble_eq_true rfl, by show _ ≤ 603072; omega, by show _ ≤ 7182442; omega⟩ (Nat.le_of_ble_eq_true rfl) (fun v9 p9 h9 => ?_)
  obtain ⟨rfl, hG9⟩ := hI.gate h9
  rw [ite_self] at hG9
  obtain ⟨t9, hm9⟩ := hG9.2.1
  obtain ⟨fs9, hmo9⟩ := hm9.go
  refine e_istore hX iL_law_2399 (by decide) ?_
  refine e_aload_n hX 2 iL_law_2401 rfl rfl ?_
  refine e_aload_n hX 0 iL_law_2402 rfl rfl ?_
  refine e_iload hX iL_law_2403 rfl ?_
  refine e_iconst (v := 1) hX iL_law_2405 (by decide) ?_
  refine e_iadd hX iL_law_2406 ?_
  refine e_sld hX hS (i + 1) iL_law_2407 (nI_add i 1) (by omega) (by omega) ?_
  refine e_callV hX iL_law_2408 hmo9 (w_medianOf htr hm9 (xs (i + 1))) rfl rfl ⟨Nat.le_of_ble_eq_true rfl, Nat.le_of_ble_eq_true rfl, by show _ ≤ 603072; omega, by show _ ≤ 7182442; omega⟩ (Nat.le_of_ble_eq_true rfl) (fun _ _ h => h.elim) (fun v8 p8 h8 => ?_)
  obtain ⟨a8, rfl, hb8, hm8, hk8⟩ := h8.int
  obtain ⟨hI8, f8, ho8, ha8⟩ := hG9.model hm8 hk8
  obtain ⟨fs8, hmo8⟩ := hm8.go
  refine e_istore hX iL_law_2411 (by decide) ?_
  refine e_aload_n hX 2 iL_law_2413 rfl rfl ?_
  refine e_callV hX iL_law_2414 hmo8 (w_thrown htr hm8) rfl rfl ⟨Nat.le_of_ble_eq_true rfl, Nat.le_of_ble_eq_true rfl, by show _ ≤ 603072; omega, by show _ ≤ 7182442; omega⟩ (Nat.le_of_ble_eq_true rfl) (fun _ _ h => h.elim) (fun v7 p7 h7 => ?_)
  obtain ⟨rfl, e7⟩ := h7
  subst p7
  refine e_iload hX iL_law_2417 rfl ?_
  refine e_icmp_eq hX iL_law_2419 (fun c2419 => ?_) (fun c2419 => ?_)
  · have hK3 : (k_med σ (xs (i + 1))) ≤ 3 := by unfold k_med; (repeat' split) <;> decide
    refine e_iload hX iL_law_2424 rfl ?_
    refine e_if_ne hX iL_law_2426 (fun c2426 => ?_) (fun c2426 => ?_)
    · refine e_goto hX iL_law_2441 ?_
      refine e_loc [0, 1, 2, 3, 4, 5] ?_
      refine e_wid (k' := k + 340) (n' := n + 2000) (by omega) (by omega) ?_
      exact back _ _ hI8
    · have hK : (k_med σ (xs (i + 1))) = 0 := (nI_eq (by omega) (by decide)).mp c2426
      refine e_aload_n hX 3 iL_law_2429 rfl rfl ?_
      refine e_iconst (v := 0) hX iL_law_2430 (by decide) ?_
      refine e_lald hX 0 iL_law_2431 ho8 rfl (by decide) (by decide) ?_
      refine e_iload hX iL_law_2432 rfl ?_
      refine e_i2l hX iL_law_2434 ?_
      refine e_lcmp hX iL_law_2435 ?_
      refine e_if_eq hX iL_law_2436 (fun c2436 => ?_) (fun c2436 => ?_)
      · refine e_goto hX iL_law_2441 ?_
        refine e_loc [0, 1, 2, 3, 4, 5] ?_
        refine e_wid (k' := k + 340) (n' := n + 2000) (by omega) (by omega) ?_
        exact back _ _ hI8
      · exact absurd ((lg_cmp_eq _ _).mpr (by rw [ha8 hK, hb8 hK])) c2436
  · exact absurd rfl c2419
/-- case 39 -/
theorem q_spreadOf (htr : l.stackTraces = false) (hX : e_in cL_law RL nm 9 rt room_1 l θ x) (hN : e_nc x) (hS : e_scr θ x b L xs) (hL : L ≤ 3072) {i : Nat} (hi : i + 6 ≤ L) (hI : LI θ ph g mo μ o od σ) (hk : k + 340 ≤ 603072) (hn : n + 2000 ≤ 7182442) (back : ∀ p σ2, LI θ p g mo μ o od σ2 → EJ θ x 2943 [(0, .ref b), (1, .ref g), (2, .ref mo), (3, .ref o), (4, .ref od), (5, .int (nI i))] [] p (k + 340) (n + 2000)) : EJ θ x 2444 [(0, .ref b), (1, .ref g), (2, .ref mo), (3, .ref o), (4, .ref od), (5, .int (nI i))] [] ph k n := by
  have hIo := hI.2.2.1
  obtain ⟨f0, ho0⟩ := hIo
  refine e_aload_n hX 1 iL_law_2444 rfl rfl ?_
  refine e_aload_n hX 0 iL_law_2445 rfl rfl ?_
  refine e_iload hX iL_law_2446 rfl ?_
  refine e_iconst (v := 1) hX iL_law_2448 (by decide) ?_
  refine e_iadd hX iL_law_2449 ?_
  refine e_sld hX hS (i + 1) iL_law_2450 (nI_add i 1) (by omega) (by omega) ?_
  refine e_aload_n hX 3 iL_law_2451 rfl rfl ?_
  refine e_callW hX hN iW_law_2452 (l_spreadOf htr hI.1 (Or.inr (Or.inl rfl)) ho0 (xs (i + 1))) rfl rfl ⟨Nat.le_of_ble_eq_true rfl, Nat.le_of_ble_eq_true rfl, by show _ ≤ 603072; omega, by show _ ≤ 7182442; omega⟩ (Nat.le_of_ble_eq_true rfl) (fun v9 p9 h9 => ?_)
  obtain ⟨rfl, hG9⟩ := hI.gate h9
  rw [ite_self] at hG9
  obtain ⟨t9, hm9⟩ := hG9.2.1
  obtain ⟨fs9, hmo9⟩ := hm9.go
  refine e_istore hX iL_law_2455 (by decide) ?_
  refine e_aload_n hX 2 iL_law_2457 rfl rfl ?_
  refine e_aload_n hX 0 iL_law_2458 rfl rfl ?_
  refine e_iload hX iL_law_2459 rfl ?_
  refine e_iconst (v := 1) hX iL_law_2461 (by decide) ?_
  refine e_iadd hX iL_law_2462 ?_
  refine e_sld hX hS (i + 1) iL_law_2463 (nI_add i 1) (by omega) (by omega) ?_
  refine e_callV hX iL_law_2464 hmo9 (w_spreadOf htr hm9 (xs (i + 1))) rfl rfl ⟨Nat.le_of_ble_eq_true rfl, Nat.le_of_ble_eq_true rfl, by show _ ≤ 603072; omega, by show _ ≤ 7182442; omega⟩ (Nat.le_of_ble_eq_true rfl) (fun _ _ h => h.elim) (fun v8 p8 h8 => ?_)
  obtain ⟨a8, rfl, hb8, hm8, hk8⟩ := h8.int
  obtain ⟨hI8, f8, ho8, ha8⟩ := hG9.model hm8 hk8
  obtain ⟨fs8, hmo8⟩ := hm8.go
  refine e_istore hX iL_law_2467 (by decide) ?_
  refine e_aload_n hX 2 iL_law_2469 rfl rfl ?_
  refine e_callV hX iL_law_2470 hmo8 (w_thrown htr hm8) rfl rfl ⟨Nat.le_of_ble_eq_true rfl, Nat.le_of_ble_eq_true rfl, by show _ ≤ 603072; omega, by show _ ≤ 7182442; omega⟩ (Nat.le_of_ble_eq_true rfl) (fun _ _ h => h.elim) (fun v7 p7 h7 => ?_)
  obtain ⟨rfl, e7⟩ := h7
  subst p7
  refine e_iload hX iL_law_2473 rfl ?_
  refine e_icmp_eq hX iL_law_2475 (fun c2475 => ?_) (fun c2475 => ?_)
  · have hK3 : (k_med σ (xs (i + 1))) ≤ 3 := by unfold k_med; (repeat' split) <;> decide
    refine e_iload hX iL_law_2480 rfl ?_
    refine e_if_ne hX iL_law_2482 (fun c2482 => ?_) (fun c2482 => ?_)
    · refine e_goto hX iL_law_2497 ?_
      refine e_loc [0, 1, 2, 3, 4, 5] ?_
      refine e_wid (k' := k + 340) (n' := n + 2000) (by omega) (by omega) ?_
      exact back _ _ hI8
    · have hK : (k_med σ (xs (i + 1))) = 0 := (nI_eq (by omega) (by decide)).mp c2482
      refine e_aload_n hX 3 iL_law_2485 rfl rfl ?_
      refine e_iconst (v := 0) hX iL_law_2486 (by decide) ?_
      refine e_lald hX 0 iL_law_2487 ho8 rfl (by decide) (by decide) ?_
      refine e_iload hX iL_law_2488 rfl ?_
      refine e_i2l hX iL_law_2490 ?_
      refine e_lcmp hX iL_law_2491 ?_
      refine e_if_eq hX iL_law_2492 (fun c2492 => ?_) (fun c2492 => ?_)
      · refine e_goto hX iL_law_2497 ?_
        refine e_loc [0, 1, 2, 3, 4, 5] ?_
        refine e_wid (k' := k + 340) (n' := n + 2000) (by omega) (by omega) ?_
        exact back _ _ hI8
      · exact absurd ((lg_cmp_eq _ _).mpr (by rw [ha8 hK, hb8 hK])) c2492
  · exact absurd rfl c2475
/-- case 40 -/
theorem q_isOutlier (htr : l.stackTraces = false) (hX : e_in cL_law RL nm 9 rt room_1 l θ x) (hN : e_nc x) (hS : e_scr θ x b L xs) (hL : L ≤ 3072) {i : Nat} (hi : i + 6 ≤ L) (hI : LI θ ph g mo μ o od σ) (hk : k + 340 ≤ 603072) (hn : n + 2000 ≤ 7182442) (back : ∀ p σ2, LI θ p g mo μ o od σ2 → EJ θ x 2943 [(0, .ref b), (1, .ref g), (2, .ref mo), (3, .ref o), (4, .ref od), (5, .int (nI i))] [] p (k + 340) (n + 2000)) : EJ θ x 2500 [(0, .ref b), (1, .ref g), (2, .ref mo), (3, .ref o), (4, .ref od), (5, .int (nI i))] [] ph k n := by
  have hIo := hI.2.2.1
  obtain ⟨f0, ho0⟩ := hIo
  refine e_aload_n hX 1 iL_law_2500 rfl rfl ?_
  refine e_aload_n hX 0 iL_law_2501 rfl rfl ?_
  refine e_iload hX iL_law_2502 rfl ?_
  refine e_iconst (v := 1) hX iL_law_2504 (by decide) ?_
  refine e_iadd hX iL_law_2505 ?_
  refine e_sld hX hS (i + 1) iL_law_2506 (nI_add i 1) (by omega) (by omega) ?_
  refine e_aload_n hX 0 iL_law_2507 rfl rfl ?_
  refine e_iload hX iL_law_2508 rfl ?_
  refine e_iconst (v := 2) hX iL_law_2510 (by decide) ?_
  refine e_iadd hX iL_law_2511 ?_
  refine e_sld hX hS (i + 2) iL_law_2512 (nI_add i 2) (by omega) (by omega) ?_
  refine e_aload_n hX 3 iL_law_2513 rfl rfl ?_
  refine e_callW hX hN iW_law_2514 (l_isOutlier htr hI.1 (Or.inr (Or.inl rfl)) ho0 (xs (i + 1)) (xs (i + 2))) rfl rfl ⟨Nat.le_of_ble_eq_true rfl, Nat.le_of_ble_eq_true rfl, by show _ ≤ 603072; omega, by show _ ≤ 7182442; omega⟩ (Nat.le_of_ble_eq_true rfl) (fun v9 p9 h9 => ?_)
  obtain ⟨rfl, hG9⟩ := hI.gate h9
  rw [ite_self] at hG9
  obtain ⟨t9, hm9⟩ := hG9.2.1
  obtain ⟨fs9, hmo9⟩ := hm9.go
  refine e_istore hX iL_law_2517 (by decide) ?_
  refine e_aload_n hX 2 iL_law_2519 rfl rfl ?_
  refine e_aload_n hX 0 iL_law_2520 rfl rfl ?_
  refine e_iload hX iL_law_2521 rfl ?_
  refine e_iconst (v := 1) hX iL_law_2523 (by decide) ?_
  refine e_iadd hX iL_law_2524 ?_
  refine e_sld hX hS (i + 1) iL_law_2525 (nI_add i 1) (by omega) (by omega) ?_
  refine e_aload_n hX 0 iL_law_2526 rfl rfl ?_
  refine e_iload hX iL_law_2527 rfl ?_
  refine e_iconst (v := 2) hX iL_law_2529 (by decide) ?_
  refine e_iadd hX iL_law_2530 ?_
  refine e_sld hX hS (i + 2) iL_law_2531 (nI_add i 2) (by omega) (by omega) ?_
  refine e_callV hX iL_law_2532 hmo9 (w_isOutlier htr hm9 (xs (i + 1)) (xs (i + 2))) rfl rfl ⟨Nat.le_of_ble_eq_true rfl, Nat.le_of_ble_eq_true rfl, by show _ ≤ 603072; omega, by show _ ≤ 7182442; omega⟩ (Nat.le_of_ble_eq_true rfl) (fun _ _ h => h.elim) (fun v8 p8 h8 => ?_)
  obtain ⟨a8, rfl, hb8, hm8, hk8⟩ := h8.bool
  obtain ⟨hI8, f8, ho8, ha8⟩ := hG9.model hm8 hk8
  obtain ⟨fs8, hmo8⟩ := hm8.go
  refine e_istore hX iL_law_2535 (by decide) ?_
  refine e_aload_n hX 2 iL_law_2537 rfl rfl ?_
  refine e_callV hX iL_law_2538 hmo8 (w_thrown htr hm8) rfl rfl ⟨Nat.le_of_ble_eq_true rfl, Nat.le_of_ble_eq_true rfl, by show _ ≤ 603072; omega, by show _ ≤ 7182442; omega⟩ (Nat.le_of_ble_eq_true rfl) (fun _ _ h => h.elim) (fun v7 p7 h7 => ?_)
  obtain ⟨rfl, e7⟩ := h7
  subst p7
  refine e_iload hX iL_law_2541 rfl ?_
  refine e_icmp_eq hX iL_law_2543 (fun c2543 => ?_) (fun c2543 => ?_)
  · have hK3 : (k_idc σ (xs (i + 1)) (xs (i + 2))) ≤ 3 := by unfold k_idc; (repeat' split) <;> decide
    refine e_iload hX iL_law_2548 rfl ?_
    refine e_if_ne hX iL_law_2550 (fun c2550 => ?_) (fun c2550 => ?_)
    · refine e_goto hX iL_law_2572 ?_
      refine e_loc [0, 1, 2, 3, 4, 5] ?_
      refine e_wid (k' := k + 340) (n' := n + 2000) (by omega) (by omega) ?_
      exact back _ _ hI8
    · have hK : (k_idc σ (xs (i + 1)) (xs (i + 2))) = 0 := (nI_eq (by omega) (by decide)).mp c2550
      refine e_aload_n hX 3 iL_law_2553 rfl rfl ?_
      refine e_iconst (v := 0) hX iL_law_2554 (by decide) ?_
      refine e_lald hX 0 iL_law_2555 ho8 rfl (by decide) (by decide) ?_
      refine e_iload hX iL_law_2556 rfl ?_
      refine e_nzL hX iL_law_2558 iL_law_2561 iL_law_2562 iL_law_2565 ?_
      refine e_lcmp hX iL_law_2566 ?_
      refine e_if_eq hX iL_law_2567 (fun c2567 => ?_) (fun c2567 => ?_)
      · refine e_goto hX iL_law_2572 ?_
        refine e_loc [0, 1, 2, 3, 4, 5] ?_
        refine e_wid (k' := k + 340) (n' := n + 2000) (by omega) (by omega) ?_
        exact back _ _ hI8
      · exact absurd ((lg_cmp_eq _ _).mpr (by rw [nz_b, ha8 hK, hb8 hK])) c2567
  · exact absurd rfl c2543
/-- case 41 -/
theorem q_outliers (htr : l.stackTraces = false) (hX : e_in cL_law RL nm 9 rt room_1 l θ x) (hN : e_nc x) (hS : e_scr θ x b L xs) (hL : L ≤ 3072) {i : Nat} (hi : i + 6 ≤ L) (hI : LI θ ph g mo μ o od σ) (hk : k + 340 ≤ 603072) (hn : n + 2000 ≤ 7182442) (back : ∀ p σ2, LI θ p g mo μ o od σ2 → EJ θ x 2943 [(0, .ref b), (1, .ref g), (2, .ref mo), (3, .ref o), (4, .ref od), (5, .int (nI i))] [] p (k + 340) (n + 2000)) : EJ θ x 2575 [(0, .ref b), (1, .ref g), (2, .ref mo), (3, .ref o), (4, .ref od), (5, .int (nI i))] [] ph k n := by
  have hIo := hI.2.2.1
  obtain ⟨f0, ho0⟩ := hIo
  refine e_aload_n hX 1 iL_law_2575 rfl rfl ?_
  refine e_aload_n hX 0 iL_law_2576 rfl rfl ?_
  refine e_iload hX iL_law_2577 rfl ?_
  refine e_iconst (v := 1) hX iL_law_2579 (by decide) ?_
  refine e_iadd hX iL_law_2580 ?_
  refine e_sld hX hS (i + 1) iL_law_2581 (nI_add i 1) (by omega) (by omega) ?_
  refine e_aload_n hX 3 iL_law_2582 rfl rfl ?_
  refine e_callW hX hN iW_law_2583 (l_outliers htr hI.1 (Or.inr (Or.inl rfl)) ho0 (xs (i + 1))) rfl rfl ⟨Nat.le_of_ble_eq_true rfl, Nat.le_of_ble_eq_true rfl, by show _ ≤ 603072; omega, by show _ ≤ 7182442; omega⟩ (Nat.le_of_ble_eq_true rfl) (fun v9 p9 h9 => ?_)
  obtain ⟨rfl, hG9⟩ := hI.gate h9
  rw [ite_self] at hG9
  obtain ⟨t9, hm9⟩ := hG9.2.1
  obtain ⟨fs9, hmo9⟩ := hm9.go
  refine e_istore hX iL_law_2586 (by decide) ?_
  refine e_aload_n hX 2 iL_law_2588 rfl rfl ?_
  refine e_aload_n hX 0 iL_law_2589 rfl rfl ?_
  refine e_iload hX iL_law_2590 rfl ?_
  refine e_iconst (v := 1) hX iL_law_2592 (by decide) ?_
  refine e_iadd hX iL_law_2593 ?_
  refine e_sld hX hS (i + 1) iL_law_2594 (nI_add i 1) (by omega) (by omega) ?_
  refine e_callV hX iL_law_2595 hmo9 (w_outliers htr hm9 (xs (i + 1))) rfl rfl ⟨Nat.le_of_ble_eq_true rfl, Nat.le_of_ble_eq_true rfl, by show _ ≤ 603072; omega, by show _ ≤ 7182442; omega⟩ (Nat.le_of_ble_eq_true rfl) (fun _ _ h => h.elim) (fun v8 p8 h8 => ?_)
  obtain ⟨a8, rfl, hb8, hm8, hk8⟩ := h8.int
  obtain ⟨hI8, f8, ho8, ha8⟩ := hG9.model hm8 hk8
  obtain ⟨fs8, hmo8⟩ := hm8.go
  refine e_istore hX iL_law_2598 (by decide) ?_
  refine e_aload_n hX 2 iL_law_2600 rfl rfl ?_
  refine e_callV hX iL_law_2601 hmo8 (w_thrown htr hm8) rfl rfl ⟨Nat.le_of_ble_eq_true rfl, Nat.le_of_ble_eq_true rfl, by show _ ≤ 603072; omega, by show _ ≤ 7182442; omega⟩ (Nat.le_of_ble_eq_true rfl) (fun _ _ h => h.elim) (fun v7 p7 h7 => ?_)
  obtain ⟨rfl, e7⟩ := h7
  subst p7
  refine e_iload hX iL_law_2604 rfl ?_
  refine e_icmp_eq hX iL_law_2606 (fun c2606 => ?_) (fun c2606 => ?_)
  · have hK3 : (k_col (xs (i + 1))) ≤ 3 := by unfold k_col; (repeat' split) <;> decide
    refine e_iload hX iL_law_2611 rfl ?_
    refine e_if_ne hX iL_law_2613 (fun c2613 => ?_) (fun c2613 => ?_)
    · refine e_goto hX iL_law_2628 ?_
      refine e_loc [0, 1, 2, 3, 4, 5] ?_
      refine e_wid (k' := k + 340) (n' := n + 2000) (by omega) (by omega) ?_
      exact back _ _ hI8
    · have hK : (k_col (xs (i + 1))) = 0 := (nI_eq (by omega) (by decide)).mp c2613
      refine e_aload_n hX 3 iL_law_2616 rfl rfl ?_
      refine e_iconst (v := 0) hX iL_law_2617 (by decide) ?_
      refine e_lald hX 0 iL_law_2618 ho8 rfl (by decide) (by decide) ?_
      refine e_iload hX iL_law_2619 rfl ?_
      refine e_i2l hX iL_law_2621 ?_
      refine e_lcmp hX iL_law_2622 ?_
      refine e_if_eq hX iL_law_2623 (fun c2623 => ?_) (fun c2623 => ?_)
      · refine e_goto hX iL_law_2628 ?_
        refine e_loc [0, 1, 2, 3, 4, 5] ?_
        refine e_wid (k' := k + 340) (n' := n + 2000) (by omega) (by omega) ?_
        exact back _ _ hI8
      · exact absurd ((lg_cmp_eq _ _).mpr (by rw [ha8 hK, hb8 hK])) c2623
  · exact absurd rfl c2606
/-- case 42 -/
theorem q_saveProfile (htr : l.stackTraces = false) (hX : e_in cL_law RL nm 9 rt room_1 l θ x) (hN : e_nc x) (hS : e_scr θ x b L xs) (hL : L ≤ 3072) {i : Nat} (hi : i + 6 ≤ L) (hI : LI θ ph g mo μ o od σ) (hk : k + 340 ≤ 603072) (hn : n + 2000 ≤ 7182442) (back : ∀ p σ2, LI θ p g mo μ o od σ2 → EJ θ x 2943 [(0, .ref b), (1, .ref g), (2, .ref mo), (3, .ref o), (4, .ref od), (5, .int (nI i))] [] p (k + 340) (n + 2000)) : EJ θ x 2631 [(0, .ref b), (1, .ref g), (2, .ref mo), (3, .ref o), (4, .ref od), (5, .int (nI i))] [] ph k n := by
  have hIo := hI.2.2.1
  obtain ⟨f0, ho0⟩ := hIo
  refine e_aload_n hX 1 iL_law_2631 rfl rfl ?_
  refine e_aload_n hX 3 iL_law_2632 rfl rfl ?_
  refine e_callW hX hN iW_law_2633 (l_saveProfile htr hI.1 (Or.inr (Or.inl rfl)) ho0 ) rfl rfl ⟨Nat.le_of_ble_eq_true rfl, Nat.le_of_ble_eq_true rfl, by show _ ≤ 603072; omega, by show _ ≤ 7182442; omega⟩ (Nat.le_of_ble_eq_true rfl) (fun v9 p9 h9 => ?_)
  obtain ⟨rfl, hG9⟩ := hI.gate h9
  obtain ⟨t9, hm9⟩ := hG9.2.1
  obtain ⟨fs9, hmo9⟩ := hm9.go
  refine e_istore hX iL_law_2636 (by decide) ?_
  refine e_aload_n hX 2 iL_law_2638 rfl rfl ?_
  refine e_callV hX iL_law_2639 hmo9 (w_saveProfile htr hm9 ) rfl rfl ⟨Nat.le_of_ble_eq_true rfl, Nat.le_of_ble_eq_true rfl, by show _ ≤ 603072; omega, by show _ ≤ 7182442; omega⟩ (Nat.le_of_ble_eq_true rfl) (fun _ _ h => h.elim) (fun v8 p8 h8 => ?_)
  obtain ⟨a8, rfl, hb8, hm8, hk8⟩ := h8.int
  obtain ⟨hI8, f8, ho8, ha8⟩ := hG9.model hm8 hk8
  obtain ⟨fs8, hmo8⟩ := hm8.go
  refine e_istore hX iL_law_2642 (by decide) ?_
  refine e_aload_n hX 2 iL_law_2644 rfl rfl ?_
  refine e_callV hX iL_law_2645 hmo8 (w_thrown htr hm8) rfl rfl ⟨Nat.le_of_ble_eq_true rfl, Nat.le_of_ble_eq_true rfl, by show _ ≤ 603072; omega, by show _ ≤ 7182442; omega⟩ (Nat.le_of_ble_eq_true rfl) (fun _ _ h => h.elim) (fun v7 p7 h7 => ?_)
  obtain ⟨rfl, e7⟩ := h7
  subst p7
  refine e_iload hX iL_law_2648 rfl ?_
  refine e_icmp_eq hX iL_law_2650 (fun c2650 => ?_) (fun c2650 => ?_)
  · have hK3 : (k_save σ) ≤ 3 := by unfold k_save; (repeat' split) <;> decide
    refine e_iload hX iL_law_2655 rfl ?_
    refine e_if_ne hX iL_law_2657 (fun c2657 => ?_) (fun c2657 => ?_)
    · refine e_goto hX iL_law_2672 ?_
      refine e_loc [0, 1, 2, 3, 4, 5] ?_
      refine e_wid (k' := k + 340) (n' := n + 2000) (by omega) (by omega) ?_
      exact back _ _ hI8
    · have hK : (k_save σ) = 0 := (nI_eq (by omega) (by decide)).mp c2657
      refine e_aload_n hX 3 iL_law_2660 rfl rfl ?_
      refine e_iconst (v := 0) hX iL_law_2661 (by decide) ?_
      refine e_lald hX 0 iL_law_2662 ho8 rfl (by decide) (by decide) ?_
      refine e_iload hX iL_law_2663 rfl ?_
      refine e_i2l hX iL_law_2665 ?_
      refine e_lcmp hX iL_law_2666 ?_
      refine e_if_eq hX iL_law_2667 (fun c2667 => ?_) (fun c2667 => ?_)
      · refine e_goto hX iL_law_2672 ?_
        refine e_loc [0, 1, 2, 3, 4, 5] ?_
        refine e_wid (k' := k + 340) (n' := n + 2000) (by omega) (by omega) ?_
        exact back _ _ hI8
      · exact absurd ((lg_cmp_eq _ _).mpr (by rw [ha8 hK, hb8 hK])) c2667
  · exact absurd rfl c2650
/-- case 43 -/
theorem q_drift (htr : l.stackTraces = false) (hX : e_in cL_law RL nm 9 rt room_1 l θ x) (hN : e_nc x) (hS : e_scr θ x b L xs) (hL : L ≤ 3072) {i : Nat} (hi : i + 6 ≤ L) (hI : LI θ ph g mo μ o od σ) (hk : k + 340 ≤ 603072) (hn : n + 2000 ≤ 7182442) (back : ∀ p σ2, LI θ p g mo μ o od σ2 → EJ θ x 2943 [(0, .ref b), (1, .ref g), (2, .ref mo), (3, .ref o), (4, .ref od), (5, .int (nI i))] [] p (k + 340) (n + 2000)) : EJ θ x 2675 [(0, .ref b), (1, .ref g), (2, .ref mo), (3, .ref o), (4, .ref od), (5, .int (nI i))] [] ph k n := by
  have hIo := hI.2.2.1
  obtain ⟨f0, ho0⟩ := hIo
  refine e_aload_n hX 1 iL_law_2675 rfl rfl ?_
  refine e_aload_n hX 0 iL_law_2676 rfl rfl ?_
  refine e_iload hX iL_law_2677 rfl ?_
  refine e_iconst (v := 1) hX iL_law_2679 (by decide) ?_
  refine e_iadd hX iL_law_2680 ?_
  refine e_sld hX hS (i + 1) iL_law_2681 (nI_add i 1) (by omega) (by omega) ?_
  refine e_aload_n hX 3 iL_law_2682 rfl rfl ?_
  refine e_callW hX hN iW_law_2683 (l_drift htr hI.1 (Or.inr (Or.inl rfl)) ho0 (xs (i + 1))) rfl rfl ⟨Nat.le_of_ble_eq_true rfl, Nat.le_of_ble_eq_true rfl, by show _ ≤ 603072; omega, by show _ ≤ 7182442; omega⟩ (Nat.le_of_ble_eq_true rfl) (fun v9 p9 h9 => ?_)
  obtain ⟨rfl, hG9⟩ := hI.gate h9
  rw [ite_self] at hG9
  obtain ⟨t9, hm9⟩ := hG9.2.1
  obtain ⟨fs9, hmo9⟩ := hm9.go
  refine e_istore hX iL_law_2686 (by decide) ?_
  refine e_aload_n hX 2 iL_law_2688 rfl rfl ?_
  refine e_aload_n hX 0 iL_law_2689 rfl rfl ?_
  refine e_iload hX iL_law_2690 rfl ?_
  refine e_iconst (v := 1) hX iL_law_2692 (by decide) ?_
  refine e_iadd hX iL_law_2693 ?_
  refine e_sld hX hS (i + 1) iL_law_2694 (nI_add i 1) (by omega) (by omega) ?_
  refine e_callV hX iL_law_2695 hmo9 (w_drift htr hm9 (xs (i + 1))) rfl rfl ⟨Nat.le_of_ble_eq_true rfl, Nat.le_of_ble_eq_true rfl, by show _ ≤ 603072; omega, by show _ ≤ 7182442; omega⟩ (Nat.le_of_ble_eq_true rfl) (fun _ _ h => h.elim) (fun v8 p8 h8 => ?_)
  obtain ⟨a8, rfl, hb8, hm8, hk8⟩ := h8.int
  obtain ⟨hI8, f8, ho8, ha8⟩ := hG9.model hm8 hk8
  obtain ⟨fs8, hmo8⟩ := hm8.go
  refine e_istore hX iL_law_2698 (by decide) ?_
  refine e_aload_n hX 2 iL_law_2700 rfl rfl ?_
  refine e_callV hX iL_law_2701 hmo8 (w_thrown htr hm8) rfl rfl ⟨Nat.le_of_ble_eq_true rfl, Nat.le_of_ble_eq_true rfl, by show _ ≤ 603072; omega, by show _ ≤ 7182442; omega⟩ (Nat.le_of_ble_eq_true rfl) (fun _ _ h => h.elim) (fun v7 p7 h7 => ?_)
  obtain ⟨rfl, e7⟩ := h7
  subst p7
  refine e_iload hX iL_law_2704 rfl ?_
  refine e_icmp_eq hX iL_law_2706 (fun c2706 => ?_) (fun c2706 => ?_)
  · have hK3 : (k_drift σ (xs (i + 1))) ≤ 3 := by unfold k_drift; (repeat' split) <;> decide
    refine e_iload hX iL_law_2711 rfl ?_
    refine e_if_ne hX iL_law_2713 (fun c2713 => ?_) (fun c2713 => ?_)
    · refine e_goto hX iL_law_2728 ?_
      refine e_loc [0, 1, 2, 3, 4, 5] ?_
      refine e_wid (k' := k + 340) (n' := n + 2000) (by omega) (by omega) ?_
      exact back _ _ hI8
    · have hK : (k_drift σ (xs (i + 1))) = 0 := (nI_eq (by omega) (by decide)).mp c2713
      refine e_aload_n hX 3 iL_law_2716 rfl rfl ?_
      refine e_iconst (v := 0) hX iL_law_2717 (by decide) ?_
      refine e_lald hX 0 iL_law_2718 ho8 rfl (by decide) (by decide) ?_
      refine e_iload hX iL_law_2719 rfl ?_
      refine e_i2l hX iL_law_2721 ?_
      refine e_lcmp hX iL_law_2722 ?_
      refine e_if_eq hX iL_law_2723 (fun c2723 => ?_) (fun c2723 => ?_)
      · refine e_goto hX iL_law_2728 ?_
        refine e_loc [0, 1, 2, 3, 4, 5] ?_
        refine e_wid (k' := k + 340) (n' := n + 2000) (by omega) (by omega) ?_
        exact back _ _ hI8
      · exact absurd ((lg_cmp_eq _ _).mpr (by rw [ha8 hK, hb8 hK])) c2723
  · exact absurd rfl c2706
/-- case 44 -/
theorem q_mostDrifted (htr : l.stackTraces = false) (hX : e_in cL_law RL nm 9 rt room_1 l θ x) (hN : e_nc x) (hS : e_scr θ x b L xs) (hL : L ≤ 3072) {i : Nat} (hi : i + 6 ≤ L) (hI : LI θ ph g mo μ o od σ) (hk : k + 340 ≤ 603072) (hn : n + 2000 ≤ 7182442) (back : ∀ p σ2, LI θ p g mo μ o od σ2 → EJ θ x 2943 [(0, .ref b), (1, .ref g), (2, .ref mo), (3, .ref o), (4, .ref od), (5, .int (nI i))] [] p (k + 340) (n + 2000)) : EJ θ x 2731 [(0, .ref b), (1, .ref g), (2, .ref mo), (3, .ref o), (4, .ref od), (5, .int (nI i))] [] ph k n := by
  have hIo := hI.2.2.1
  obtain ⟨f0, ho0⟩ := hIo
  refine e_aload_n hX 1 iL_law_2731 rfl rfl ?_
  refine e_aload_n hX 3 iL_law_2732 rfl rfl ?_
  refine e_callW hX hN iW_law_2733 (l_mostDrifted htr hI.1 (Or.inr (Or.inl rfl)) ho0 ) rfl rfl ⟨Nat.le_of_ble_eq_true rfl, Nat.le_of_ble_eq_true rfl, by show _ ≤ 603072; omega, by show _ ≤ 7182442; omega⟩ (Nat.le_of_ble_eq_true rfl) (fun v9 p9 h9 => ?_)
  obtain ⟨rfl, hG9⟩ := hI.gate h9
  rw [ite_self] at hG9
  obtain ⟨t9, hm9⟩ := hG9.2.1
  obtain ⟨fs9, hmo9⟩ := hm9.go
  refine e_istore hX iL_law_2736 (by decide) ?_
  refine e_aload_n hX 2 iL_law_2738 rfl rfl ?_
  refine e_callV hX iL_law_2739 hmo9 (w_mostDrifted htr hm9 ) rfl rfl ⟨Nat.le_of_ble_eq_true rfl, Nat.le_of_ble_eq_true rfl, by show _ ≤ 603072; omega, by show _ ≤ 7182442; omega⟩ (Nat.le_of_ble_eq_true rfl) (fun _ _ h => h.elim) (fun v8 p8 h8 => ?_)
  obtain ⟨a8, rfl, hb8, hm8, hk8⟩ := h8.int
  obtain ⟨hI8, f8, ho8, ha8⟩ := hG9.model hm8 hk8
  obtain ⟨fs8, hmo8⟩ := hm8.go
  refine e_istore hX iL_law_2742 (by decide) ?_
  refine e_aload_n hX 2 iL_law_2744 rfl rfl ?_
  refine e_callV hX iL_law_2745 hmo8 (w_thrown htr hm8) rfl rfl ⟨Nat.le_of_ble_eq_true rfl, Nat.le_of_ble_eq_true rfl, by show _ ≤ 603072; omega, by show _ ≤ 7182442; omega⟩ (Nat.le_of_ble_eq_true rfl) (fun _ _ h => h.elim) (fun v7 p7 h7 => ?_)
  obtain ⟨rfl, e7⟩ := h7
  subst p7
  refine e_iload hX iL_law_2748 rfl ?_
  refine e_icmp_eq hX iL_law_2750 (fun c2750 => ?_) (fun c2750 => ?_)
  · have hK3 : (k_most σ) ≤ 3 := by unfold k_most; (repeat' split) <;> decide
    refine e_iload hX iL_law_2755 rfl ?_
    refine e_if_ne hX iL_law_2757 (fun c2757 => ?_) (fun c2757 => ?_)
    · refine e_goto hX iL_law_2772 ?_
      refine e_loc [0, 1, 2, 3, 4, 5] ?_
      refine e_wid (k' := k + 340) (n' := n + 2000) (by omega) (by omega) ?_
      exact back _ _ hI8
    · have hK : (k_most σ) = 0 := (nI_eq (by omega) (by decide)).mp c2757
      refine e_aload_n hX 3 iL_law_2760 rfl rfl ?_
      refine e_iconst (v := 0) hX iL_law_2761 (by decide) ?_
      refine e_lald hX 0 iL_law_2762 ho8 rfl (by decide) (by decide) ?_
      refine e_iload hX iL_law_2763 rfl ?_
      refine e_i2l hX iL_law_2765 ?_
      refine e_lcmp hX iL_law_2766 ?_
      refine e_if_eq hX iL_law_2767 (fun c2767 => ?_) (fun c2767 => ?_)
      · refine e_goto hX iL_law_2772 ?_
        refine e_loc [0, 1, 2, 3, 4, 5] ?_
        refine e_wid (k' := k + 340) (n' := n + 2000) (by omega) (by omega) ?_
        exact back _ _ hI8
      · exact absurd ((lg_cmp_eq _ _).mpr (by rw [ha8 hK, hb8 hK])) c2767
  · exact absurd rfl c2750
/-- case 45 -/
theorem q_meanOf (htr : l.stackTraces = false) (hX : e_in cL_law RL nm 9 rt room_1 l θ x) (hN : e_nc x) (hS : e_scr θ x b L xs) (hL : L ≤ 3072) {i : Nat} (hi : i + 6 ≤ L) (hI : LI θ ph g mo μ o od σ) (hk : k + 340 ≤ 603072) (hn : n + 2000 ≤ 7182442) (back : ∀ p σ2, LI θ p g mo μ o od σ2 → EJ θ x 2943 [(0, .ref b), (1, .ref g), (2, .ref mo), (3, .ref o), (4, .ref od), (5, .int (nI i))] [] p (k + 340) (n + 2000)) : EJ θ x 2775 [(0, .ref b), (1, .ref g), (2, .ref mo), (3, .ref o), (4, .ref od), (5, .int (nI i))] [] ph k n := by
  have hIo := hI.2.2.2
  obtain ⟨f0, ho0⟩ := hIo
  refine e_aload_n hX 1 iL_law_2775 rfl rfl ?_
  refine e_aload_n hX 0 iL_law_2776 rfl rfl ?_
  refine e_iload hX iL_law_2777 rfl ?_
  refine e_iconst (v := 1) hX iL_law_2779 (by decide) ?_
  refine e_iadd hX iL_law_2780 ?_
  refine e_sld hX hS (i + 1) iL_law_2781 (nI_add i 1) (by omega) (by omega) ?_
  refine e_aload hX iL_law_2782 rfl ?_
  refine e_callW hX hN iW_law_2784 (l_meanOf htr hI.1 (Or.inr (Or.inr rfl)) ho0 (xs (i + 1))) rfl rfl ⟨Nat.le_of_ble_eq_true rfl, Nat.le_of_ble_eq_true rfl, by show _ ≤ 603072; omega, by show _ ≤ 7182442; omega⟩ (Nat.le_of_ble_eq_true rfl) (fun v9 p9 h9 => ?_)
  obtain ⟨rfl, hG9⟩ := hI.gateD h9
  obtain ⟨t9, hm9⟩ := hG9.2.1
  obtain ⟨fs9, hmo9⟩ := hm9.go
  refine e_istore hX iL_law_2787 (by decide) ?_
  refine e_aload_n hX 2 iL_law_2789 rfl rfl ?_
  refine e_aload_n hX 0 iL_law_2790 rfl rfl ?_
  refine e_iload hX iL_law_2791 rfl ?_
  refine e_iconst (v := 1) hX iL_law_2793 (by decide) ?_
  refine e_iadd hX iL_law_2794 ?_
  refine e_sld hX hS (i + 1) iL_law_2795 (nI_add i 1) (by omega) (by omega) ?_
  refine e_callV hX iL_law_2796 hmo9 (w_meanOf htr hm9 (xs (i + 1))) rfl rfl ⟨Nat.le_of_ble_eq_true rfl, Nat.le_of_ble_eq_true rfl, by show _ ≤ 603072; omega, by show _ ≤ 7182442; omega⟩ (Nat.le_of_ble_eq_true rfl) (fun _ _ h => h.elim) (fun v8 p8 h8 => ?_)
  obtain ⟨⟨a8, rfl, hb8⟩, hm8, hk8⟩ := h8
  obtain ⟨hI8, f8, ho8, ha8⟩ := hG9.model hm8 hk8
  obtain ⟨fs8, hmo8⟩ := hm8.go
  refine e_dstore hX iL_law_2799 (by decide) ?_
  refine e_aload_n hX 2 iL_law_2801 rfl rfl ?_
  refine e_callV hX iL_law_2802 hmo8 (w_thrown htr hm8) rfl rfl ⟨Nat.le_of_ble_eq_true rfl, Nat.le_of_ble_eq_true rfl, by show _ ≤ 603072; omega, by show _ ≤ 7182442; omega⟩ (Nat.le_of_ble_eq_true rfl) (fun _ _ h => h.elim) (fun v7 p7 h7 => ?_)
  obtain ⟨rfl, e7⟩ := h7
  subst p7
  refine e_iload hX iL_law_2805 rfl ?_
  refine e_icmp_eq hX iL_law_2807 (fun c2807 => ?_) (fun c2807 => ?_)
  · have hK3 : (k_med σ (xs (i + 1))) ≤ 3 := by unfold k_med; (repeat' split) <;> decide
    refine e_iload hX iL_law_2812 rfl ?_
    refine e_if_ne hX iL_law_2814 (fun c2814 => ?_) (fun c2814 => ?_)
    · refine e_goto hX iL_law_2849 ?_
      refine e_loc [0, 1, 2, 3, 4, 5] ?_
      refine e_wid (k' := k + 340) (n' := n + 2000) (by omega) (by omega) ?_
      exact back _ _ hI8
    · have hK : (k_med σ (xs (i + 1))) = 0 := (nI_eq (by omega) (by decide)).mp c2814
      refine e_aload hX iL_law_2817 rfl ?_
      refine e_iconst (v := 0) hX iL_law_2819 (by decide) ?_
      refine e_dald hX 0 iL_law_2820 ho8 rfl (by decide) (by decide) ?_
      rw [ha8 hK]
      have e8 := hb8 hK
      subst e8
      refine e_dload hX iL_law_2821 rfl ?_
      refine e_dcmp hX iL_law_2823 ?_
      refine e_if_eq hX iL_law_2824 (fun c2824 => ?_) (fun c2824 => ?_)
      · refine e_goto hX iL_law_2849 ?_
        refine e_loc [0, 1, 2, 3, 4, 5] ?_
        refine e_wid (k' := k + 340) (n' := n + 2000) (by omega) (by omega) ?_
        exact back _ _ hI8
      · refine e_aload hX iL_law_2827 rfl ?_
        refine e_iconst (v := 0) hX iL_law_2829 (by decide) ?_
        refine e_dald hX 0 iL_law_2830 ho8 rfl (by decide) (by decide) ?_
        refine e_aload hX iL_law_2831 rfl ?_
        refine e_iconst (v := 0) hX iL_law_2833 (by decide) ?_
        refine e_dald hX 0 iL_law_2834 ho8 rfl (by decide) (by decide) ?_
        rw [ha8 hK]
        refine e_dcmp hX iL_law_2835 ?_
        refine e_if_eq hX iL_law_2836 (fun c2836 => ?_) (fun c2836 => ?_)
        · exact absurd c2836 c2824
        · refine e_dload hX iL_law_2839 rfl ?_
          refine e_dload hX iL_law_2841 rfl ?_
          refine e_dcmp hX iL_law_2843 ?_
          refine e_if_ne hX iL_law_2844 (fun c2844 => ?_) (fun c2844 => ?_)
          · refine e_goto hX iL_law_2849 ?_
            refine e_loc [0, 1, 2, 3, 4, 5] ?_
            refine e_wid (k' := k + 340) (n' := n + 2000) (by omega) (by omega) ?_
            exact back _ _ hI8
          · exact absurd c2844 c2824
  · exact absurd rfl c2807
/-- case 46 -/
theorem q_missingShare (htr : l.stackTraces = false) (hX : e_in cL_law RL nm 9 rt room_1 l θ x) (hN : e_nc x) (hS : e_scr θ x b L xs) (hL : L ≤ 3072) {i : Nat} (hi : i + 6 ≤ L) (hI : LI θ ph g mo μ o od σ) (hk : k + 340 ≤ 603072) (hn : n + 2000 ≤ 7182442) (back : ∀ p σ2, LI θ p g mo μ o od σ2 → EJ θ x 2943 [(0, .ref b), (1, .ref g), (2, .ref mo), (3, .ref o), (4, .ref od), (5, .int (nI i))] [] p (k + 340) (n + 2000)) : EJ θ x 2852 [(0, .ref b), (1, .ref g), (2, .ref mo), (3, .ref o), (4, .ref od), (5, .int (nI i))] [] ph k n := by
  have hIo := hI.2.2.2
  obtain ⟨f0, ho0⟩ := hIo
  refine e_aload_n hX 1 iL_law_2852 rfl rfl ?_
  refine e_aload_n hX 0 iL_law_2853 rfl rfl ?_
  refine e_iload hX iL_law_2854 rfl ?_
  refine e_iconst (v := 1) hX iL_law_2856 (by decide) ?_
  refine e_iadd hX iL_law_2857 ?_
  refine e_sld hX hS (i + 1) iL_law_2858 (nI_add i 1) (by omega) (by omega) ?_
  refine e_aload hX iL_law_2859 rfl ?_
  refine e_callW hX hN iW_law_2861 (l_missingShare htr hI.1 (Or.inr (Or.inr rfl)) ho0 (xs (i + 1))) rfl rfl ⟨Nat.le_of_ble_eq_true rfl, Nat.le_of_ble_eq_true rfl, by show _ ≤ 603072; omega, by show _ ≤ 7182442; omega⟩ (Nat.le_of_ble_eq_true rfl) (fun v9 p9 h9 => ?_)
  obtain ⟨rfl, hG9⟩ := hI.gateD h9
  obtain ⟨t9, hm9⟩ := hG9.2.1
  obtain ⟨fs9, hmo9⟩ := hm9.go
  refine e_istore hX iL_law_2864 (by decide) ?_
  refine e_aload_n hX 2 iL_law_2866 rfl rfl ?_
  refine e_aload_n hX 0 iL_law_2867 rfl rfl ?_
  refine e_iload hX iL_law_2868 rfl ?_
  refine e_iconst (v := 1) hX iL_law_2870 (by decide) ?_
  refine e_iadd hX iL_law_2871 ?_
  refine e_sld hX hS (i + 1) iL_law_2872 (nI_add i 1) (by omega) (by omega) ?_
  refine e_callV hX iL_law_2873 hmo9 (w_missingShare htr hm9 (xs (i + 1))) rfl rfl ⟨Nat.le_of_ble_eq_true rfl, Nat.le_of_ble_eq_true rfl, by show _ ≤ 603072; omega, by show _ ≤ 7182442; omega⟩ (Nat.le_of_ble_eq_true rfl) (fun _ _ h => h.elim) (fun v8 p8 h8 => ?_)
  obtain ⟨⟨a8, rfl, hb8⟩, hm8, hk8⟩ := h8
  obtain ⟨hI8, f8, ho8, ha8⟩ := hG9.model hm8 hk8
  obtain ⟨fs8, hmo8⟩ := hm8.go
  refine e_fstore hX iL_law_2876 (by decide) ?_
  refine e_aload_n hX 2 iL_law_2878 rfl rfl ?_
  refine e_callV hX iL_law_2879 hmo8 (w_thrown htr hm8) rfl rfl ⟨Nat.le_of_ble_eq_true rfl, Nat.le_of_ble_eq_true rfl, by show _ ≤ 603072; omega, by show _ ≤ 7182442; omega⟩ (Nat.le_of_ble_eq_true rfl) (fun _ _ h => h.elim) (fun v7 p7 h7 => ?_)
  obtain ⟨rfl, e7⟩ := h7
  subst p7
  refine e_iload hX iL_law_2882 rfl ?_
  refine e_icmp_eq hX iL_law_2884 (fun c2884 => ?_) (fun c2884 => ?_)
  · have hK3 : (k_share σ (xs (i + 1))) ≤ 3 := by unfold k_share; (repeat' split) <;> decide
    refine e_iload hX iL_law_2889 rfl ?_
    refine e_if_ne hX iL_law_2891 (fun c2891 => ?_) (fun c2891 => ?_)
    · refine e_goto hX iL_law_2927 ?_
      refine e_loc [0, 1, 2, 3, 4, 5] ?_
      refine e_wid (k' := k + 340) (n' := n + 2000) (by omega) (by omega) ?_
      exact back _ _ hI8
    · have hK : (k_share σ (xs (i + 1))) = 0 := (nI_eq (by omega) (by decide)).mp c2891
      refine e_aload hX iL_law_2894 rfl ?_
      refine e_iconst (v := 0) hX iL_law_2896 (by decide) ?_
      refine e_dald hX 0 iL_law_2897 ho8 rfl (by decide) (by decide) ?_
      rw [ha8 hK]
      have e8 := hb8 hK
      subst e8
      refine e_fload hX iL_law_2898 rfl ?_
      refine e_f2d hX iL_law_2900 (share_ok hI.1.ok.1 hK) ?_
      refine e_dcmp hX iL_law_2901 ?_
      refine e_if_eq hX iL_law_2902 (fun c2902 => ?_) (fun c2902 => ?_)
      · refine e_goto hX iL_law_2927 ?_
        refine e_loc [0, 1, 2, 3, 4, 5] ?_
        refine e_wid (k' := k + 340) (n' := n + 2000) (by omega) (by omega) ?_
        exact back _ _ hI8
      · exact absurd (share_eq hI.1.ok.1 hK) c2902
  · exact absurd rfl c2884
/-- case 47 -/
theorem q_isConsistent (htr : l.stackTraces = false) (hX : e_in cL_law RL nm 9 rt room_1 l θ x) (hN : e_nc x) (hS : e_scr θ x b L xs) (hL : L ≤ 3072) {i : Nat} (hi : i + 6 ≤ L) (hI : LI θ ph g mo μ o od σ) (hk : k + 340 ≤ 603072) (hn : n + 2000 ≤ 7182442) (back : ∀ p σ2, LI θ p g mo μ o od σ2 → EJ θ x 2943 [(0, .ref b), (1, .ref g), (2, .ref mo), (3, .ref o), (4, .ref od), (5, .int (nI i))] [] p (k + 340) (n + 2000)) : EJ θ x 2930 [(0, .ref b), (1, .ref g), (2, .ref mo), (3, .ref o), (4, .ref od), (5, .int (nI i))] [] ph k n := by
  have hn12 := hI.1.ok.1
  refine e_aload_n hX 1 iL_law_2930 rfl rfl ?_
  obtain ⟨fsg, hgo⟩ := hI.1.go
  refine e_callV hX iL_law_2931 hgo (m_isConsistent htr hI.1) rfl rfl ⟨Nat.le_of_ble_eq_true rfl, Nat.le_of_ble_eq_true rfl, by show _ ≤ 603072; omega, by show _ ≤ 7182442; omega⟩ (Nat.le_of_ble_eq_true rfl) (fun _ _ h => h.elim) (fun v9 p9 h9 => ?_)
  obtain ⟨-, rfl, hg9, hx9⟩ := h9
  have hG9 := hI.keep hg9 hx9
  obtain ⟨t9, hm9⟩ := hG9.2.1
  obtain ⟨fs9, hmo9⟩ := hm9.go
  refine e_aload_n hX 2 iL_law_2934 rfl rfl ?_
  refine e_callV hX iL_law_2935 hmo9 (w_isConsistent htr hm9) rfl rfl ⟨Nat.le_of_ble_eq_true rfl, Nat.le_of_ble_eq_true rfl, by show _ ≤ 603072; omega, by show _ ≤ 7182442; omega⟩ (Nat.le_of_ble_eq_true rfl) (fun _ _ h => h.elim) (fun v8 p8 h8 => ?_)
  obtain ⟨rfl, hm8, hk8⟩ := h8
  obtain ⟨hI8, -⟩ := hG9.model hm8 hk8
  refine e_icmp_eq hX iL_law_2938 (fun c2938 => ?_) (fun c2938 => ?_)
  · refine e_loc [0, 1, 2, 3, 4, 5] ?_
    refine e_wid (k' := k + 340) (n' := n + 2000) (by omega) (by omega) ?_
    exact back _ _ hI8
  · exact absurd (by first | rfl | (rw [frL_eq hn12, try_eq hn12]; done) | (rw [frL_eq hn12]; done)) c2938
end XA3
