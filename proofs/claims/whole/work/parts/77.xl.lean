/-! the law's loop -/
section XL7
variable {θ : e_T} {x : e_X} {ph : e_PH} {k n : Nat} {nm : String} {rt : Option FieldType} {l : Launch} {b L : Nat} {xs : Nat → Int32} {g mo o od : Nat} {μ : Nat → Nat} {σ : SG}
theorem law_case (htr : l.stackTraces = false) (hX : e_in cL_law RL nm 9 rt room_1 l θ x) (hN : e_nc x) (hS : e_scr θ x b L xs) (hL : L ≤ 3072) {i : Nat} (hi : i + 6 ≤ L) (hI : LI θ ph g mo μ o od σ) (hk : k + 340 ≤ 603072) (hn : n + 2000 ≤ 7182442) (back : ∀ p σ2, LI θ p g mo μ o od σ2 → EJ θ x 2943 [(0, .ref b), (1, .ref g), (2, .ref mo), (3, .ref o), (4, .ref od), (5, .int (nI i))] [] p (k + 340) (n + 2000)) {j : Nat} (hj : j < 64) : EJ θ x 45 [(0, .ref b), (1, .ref g), (2, .ref mo), (3, .ref o), (4, .ref od), (5, .int (nI i))] [.int (nI j)] ph k n := by
  by_cases h0 : j = 0
  · subst h0
    refine e_tsIn hX (tgt := 252) (off := 207) iL_law_45 (by decide) (by decide) (by decide +kernel) (by decide) ?_
    exact q_stage htr hX hN hS hL hi hI hk hn back
  by_cases h1 : j = 1
  · subst h1
    refine e_tsIn hX (tgt := 356) (off := 311) iL_law_45 (by decide) (by decide) (by decide +kernel) (by decide) ?_
    exact q_commit htr hX hN hS hL hi hI hk hn back
  by_cases h2 : j = 2
  · subst h2
    refine e_tsIn hX (tgt := 400) (off := 355) iL_law_45 (by decide) (by decide) (by decide +kernel) (by decide) ?_
    exact q_discard htr hX hN hS hL hi hI hk hn back
  by_cases h3 : j = 3
  · subst h3
    refine e_tsIn hX (tgt := 413) (off := 368) iL_law_45 (by decide) (by decide) (by decide +kernel) (by decide) ?_
    exact q_staged htr hX hN hS hL hi hI hk hn back
  by_cases h4 : j = 4
  · subst h4
    refine e_tsIn hX (tgt := 426) (off := 381) iL_law_45 (by decide) (by decide) (by decide +kernel) (by decide) ?_
    exact q_rejectedRow htr hX hN hS hL hi hI hk hn back
  by_cases h5 : j = 5
  · subst h5
    refine e_tsIn hX (tgt := 470) (off := 425) iL_law_45 (by decide) (by decide) (by decide +kernel) (by decide) ?_
    exact q_rejectedRule htr hX hN hS hL hi hI hk hn back
  by_cases h6 : j = 6
  · subst h6
    refine e_tsIn hX (tgt := 514) (off := 469) iL_law_45 (by decide) (by decide) (by decide +kernel) (by decide) ?_
    exact q_rejectedOther htr hX hN hS hL hi hI hk hn back
  by_cases h7 : j = 7
  · subst h7
    refine e_tsIn hX (tgt := 558) (off := 513) iL_law_45 (by decide) (by decide) (by decide +kernel) (by decide) ?_
    exact q_isOtherStaged htr hX hN hS hL hi hI hk hn back
  by_cases h8 : j = 8
  · subst h8
    refine e_tsIn hX (tgt := 609) (off := 564) iL_law_45 (by decide) (by decide) (by decide +kernel) (by decide) ?_
    exact q_removeRow htr hX hN hS hL hi hI hk hn back
  by_cases h9 : j = 9
  · subst h9
    refine e_tsIn hX (tgt := 665) (off := 620) iL_law_45 (by decide) (by decide) (by decide +kernel) (by decide) ?_
    exact q_setValue htr hX hN hS hL hi hI hk hn back
  by_cases h10 : j = 10
  · subst h10
    refine e_tsIn hX (tgt := 745) (off := 700) iL_law_45 (by decide) (by decide) (by decide +kernel) (by decide) ?_
    exact q_valueAt htr hX hN hS hL hi hI hk hn back
  by_cases h11 : j = 11
  · subst h11
    refine e_tsIn hX (tgt := 813) (off := 768) iL_law_45 (by decide) (by decide) (by decide +kernel) (by decide) ?_
    exact q_rowCount htr hX hN hS hL hi hI hk hn back
  by_cases h12 : j = 12
  · subst h12
    refine e_tsIn hX (tgt := 826) (off := 781) iL_law_45 (by decide) (by decide) (by decide +kernel) (by decide) ?_
    exact q_rowAt htr hX hN hS hL hi hI hk hn back
  by_cases h13 : j = 13
  · subst h13
    refine e_tsIn hX (tgt := 882) (off := 837) iL_law_45 (by decide) (by decide) (by decide +kernel) (by decide) ?_
    exact q_addRange htr hX hN hS hL hi hI hk hn back
  by_cases h14 : j = 14
  · subst h14
    refine e_tsIn hX (tgt := 990) (off := 945) iL_law_45 (by decide) (by decide) (by decide +kernel) (by decide) ?_
    exact q_addRequired htr hX hN hS hL hi hI hk hn back
  by_cases h15 : j = 15
  · subst h15
    refine e_tsIn hX (tgt := 1074) (off := 1029) iL_law_45 (by decide) (by decide) (by decide +kernel) (by decide) ?_
    exact q_addOrder htr hX hN hS hL hi hI hk hn back
  by_cases h16 : j = 16
  · subst h16
    refine e_tsIn hX (tgt := 1170) (off := 1125) iL_law_45 (by decide) (by decide) (by decide +kernel) (by decide) ?_
    exact q_addUnique htr hX hN hS hL hi hI hk hn back
  by_cases h17 : j = 17
  · subst h17
    refine e_tsIn hX (tgt := 1254) (off := 1209) iL_law_45 (by decide) (by decide) (by decide +kernel) (by decide) ?_
    exact q_addDependency htr hX hN hS hL hi hI hk hn back
  by_cases h18 : j = 18
  · subst h18
    refine e_tsIn hX (tgt := 1350) (off := 1305) iL_law_45 (by decide) (by decide) (by decide +kernel) (by decide) ?_
    exact q_dropRule htr hX hN hS hL hi hI hk hn back
  by_cases h19 : j = 19
  · subst h19
    refine e_tsIn hX (tgt := 1406) (off := 1361) iL_law_45 (by decide) (by decide) (by decide +kernel) (by decide) ?_
    exact q_violations htr hX hN hS hL hi hI hk hn back
  by_cases h20 : j = 20
  · subst h20
    refine e_tsIn hX (tgt := 1462) (off := 1417) iL_law_45 (by decide) (by decide) (by decide +kernel) (by decide) ?_
    exact q_isBad htr hX hN hS hL hi hI hk hn back
  by_cases h21 : j = 21
  · subst h21
    refine e_tsIn hX (tgt := 1525) (off := 1480) iL_law_45 (by decide) (by decide) (by decide +kernel) (by decide) ?_
    exact q_conflict htr hX hN hS hL hi hI hk hn back
  by_cases h22 : j = 22
  · subst h22
    refine e_tsIn hX (tgt := 1600) (off := 1555) iL_law_45 (by decide) (by decide) (by decide +kernel) (by decide) ?_
    exact q_groups htr hX hN hS hL hi hI hk hn back
  by_cases h23 : j = 23
  · subst h23
    refine e_tsIn hX (tgt := 1613) (off := 1568) iL_law_45 (by decide) (by decide) (by decide +kernel) (by decide) ?_
    exact q_groupSize htr hX hN hS hL hi hI hk hn back
  by_cases h24 : j = 24
  · subst h24
    refine e_tsIn hX (tgt := 1669) (off := 1624) iL_law_45 (by decide) (by decide) (by decide +kernel) (by decide) ?_
    exact q_fewestRemovals htr hX hN hS hL hi hI hk hn back
  by_cases h25 : j = 25
  · subst h25
    refine e_tsIn hX (tgt := 1682) (off := 1637) iL_law_45 (by decide) (by decide) (by decide +kernel) (by decide) ?_
    exact q_fewestRemovalsByTrying htr hX hN hS hL hi hI hk hn back
  by_cases h26 : j = 26
  · subst h26
    refine e_tsIn hX (tgt := 1695) (off := 1650) iL_law_45 (by decide) (by decide) (by decide +kernel) (by decide) ?_
    exact q_isInRepair htr hX hN hS hL hi hI hk hn back
  by_cases h27 : j = 27
  · subst h27
    refine e_tsIn hX (tgt := 1758) (off := 1713) iL_law_45 (by decide) (by decide) (by decide +kernel) (by decide) ?_
    exact q_repair htr hX hN hS hL hi hI hk hn back
  by_cases h28 : j = 28
  · subst h28
    refine e_tsIn hX (tgt := 1771) (off := 1726) iL_law_45 (by decide) (by decide) (by decide +kernel) (by decide) ?_
    exact q_determines htr hX hN hS hL hi hI hk hn back
  by_cases h29 : j = 29
  · subst h29
    refine e_tsIn hX (tgt := 1846) (off := 1801) iL_law_45 (by decide) (by decide) (by decide +kernel) (by decide) ?_
    exact q_determinesByPairs htr hX hN hS hL hi hI hk hn back
  by_cases h30 : j = 30
  · subst h30
    refine e_tsIn hX (tgt := 1921) (off := 1876) iL_law_45 (by decide) (by decide) (by decide +kernel) (by decide) ?_
    exact q_minimalCount htr hX hN hS hL hi hI hk hn back
  by_cases h31 : j = 31
  · subst h31
    refine e_tsIn hX (tgt := 1977) (off := 1932) iL_law_45 (by decide) (by decide) (by decide +kernel) (by decide) ?_
    exact q_minimalCountByTrying htr hX hN hS hL hi hI hk hn back
  by_cases h32 : j = 32
  · subst h32
    refine e_tsIn hX (tgt := 2033) (off := 1988) iL_law_45 (by decide) (by decide) (by decide +kernel) (by decide) ?_
    exact q_minimalAt htr hX hN hS hL hi hI hk hn back
  by_cases h33 : j = 33
  · subst h33
    refine e_tsIn hX (tgt := 2101) (off := 2056) iL_law_45 (by decide) (by decide) (by decide +kernel) (by decide) ?_
    exact q_closureOf htr hX hN hS hL hi hI hk hn back
  by_cases h34 : j = 34
  · subst h34
    refine e_tsIn hX (tgt := 2157) (off := 2112) iL_law_45 (by decide) (by decide) (by decide +kernel) (by decide) ?_
    exact q_isKey htr hX hN hS hL hi hI hk hn back
  by_cases h35 : j = 35
  · subst h35
    refine e_tsIn hX (tgt := 2220) (off := 2175) iL_law_45 (by decide) (by decide) (by decide +kernel) (by decide) ?_
    exact q_smallestKey htr hX hN hS hL hi hI hk hn back
  by_cases h36 : j = 36
  · subst h36
    refine e_tsIn hX (tgt := 2264) (off := 2219) iL_law_45 (by decide) (by decide) (by decide +kernel) (by decide) ?_
    exact q_errorOf htr hX hN hS hL hi hI hk hn back
  by_cases h37 : j = 37
  · subst h37
    refine e_tsIn hX (tgt := 2332) (off := 2287) iL_law_45 (by decide) (by decide) (by decide +kernel) (by decide) ?_
    exact q_setFactor htr hX hN hS hL hi hI hk hn back
  by_cases h38 : j = 38
  · subst h38
    refine e_tsIn hX (tgt := 2388) (off := 2343) iL_law_45 (by decide) (by decide) (by decide +kernel) (by decide) ?_
    exact q_medianOf htr hX hN hS hL hi hI hk hn back
  by_cases h39 : j = 39
  · subst h39
    refine e_tsIn hX (tgt := 2444) (off := 2399) iL_law_45 (by decide) (by decide) (by decide +kernel) (by decide) ?_
    exact q_spreadOf htr hX hN hS hL hi hI hk hn back
  by_cases h40 : j = 40
  · subst h40
    refine e_tsIn hX (tgt := 2500) (off := 2455) iL_law_45 (by decide) (by decide) (by decide +kernel) (by decide) ?_
    exact q_isOutlier htr hX hN hS hL hi hI hk hn back
  by_cases h41 : j = 41
  · subst h41
    refine e_tsIn hX (tgt := 2575) (off := 2530) iL_law_45 (by decide) (by decide) (by decide +kernel) (by decide) ?_
    exact q_outliers htr hX hN hS hL hi hI hk hn back
  by_cases h42 : j = 42
  · subst h42
    refine e_tsIn hX (tgt := 2631) (off := 2586) iL_law_45 (by decide) (by decide) (by decide +kernel) (by decide) ?_
    exact q_saveProfile htr hX hN hS hL hi hI hk hn back
  by_cases h43 : j = 43
  · subst h43
    refine e_tsIn hX (tgt := 2675) (off := 2630) iL_law_45 (by decide) (by decide) (by decide +kernel) (by decide) ?_
    exact q_drift htr hX hN hS hL hi hI hk hn back
  by_cases h44 : j = 44
  · subst h44
    refine e_tsIn hX (tgt := 2731) (off := 2686) iL_law_45 (by decide) (by decide) (by decide +kernel) (by decide) ?_
    exact q_mostDrifted htr hX hN hS hL hi hI hk hn back
  by_cases h45 : j = 45
  · subst h45
    refine e_tsIn hX (tgt := 2775) (off := 2730) iL_law_45 (by decide) (by decide) (by decide +kernel) (by decide) ?_
    exact q_meanOf htr hX hN hS hL hi hI hk hn back
  by_cases h46 : j = 46
  · subst h46
    refine e_tsIn hX (tgt := 2852) (off := 2807) iL_law_45 (by decide) (by decide) (by decide +kernel) (by decide) ?_
    exact q_missingShare htr hX hN hS hL hi hI hk hn back
  by_cases h47 : j = 47
  · subst h47
    refine e_tsIn hX (tgt := 2930) (off := 2885) iL_law_45 (by decide) (by decide) (by decide +kernel) (by decide) ?_
    exact q_isConsistent htr hX hN hS hL hi hI hk hn back
  refine e_tsOut hX (tgt := 2943) iL_law_45 (Or.inr (by rw [nI_toInt (by omega)]; omega)) (by decide) ?_
  refine e_wid (k' := k + 340) (n' := n + 2000) (by omega) (by omega) ?_
  exact back _ _ hI
theorem len6 {L i : Nat} (hL : L ≤ 3072) (hi : i ≤ 4000) (h : ¬ nI L - 6 < nI i) : i + 6 ≤ L := by
  rw [Int32.lt_iff_toInt_lt, show (6 : Int32) = nI 6 from rfl, pk_sub_toInt (by omega) (by omega), nI_toInt (by omega)] at h
  omega
theorem law_loop (htr : l.stackTraces = false) (hX : e_in cL_law RL nm 9 rt room_1 l θ x) (hN : e_nc x) (hS : e_scr θ x b L xs) (hL : L ≤ 3072) (fin : ∀ ph k n, k ≤ 603072 → n ≤ 7182442 → EJ θ x 2949 [] [] ph k n) : ∀ (z q : Nat) (ph : e_PH) (σ : SG), 513 - q < z → q ≤ 512 → LI θ ph g mo μ o od σ → EJ θ x 28 [(0, .ref b), (1, .ref g), (2, .ref mo), (3, .ref o), (4, .ref od), (5, .int (nI (6 * q)))] [] ph (100 + 340 * q) (1000 + 2000 * q) := by
  intro z
  induction z with
  | zero => intro q ph σ hz; omega
  | succ z ih =>
    intro q ph σ hz hq hI
    refine e_iload hX iL_law_28 rfl ?_
    refine e_aload_n hX 0 iL_law_30 rfl rfl ?_
    refine e_slen hX hS iL_law_31 ?_
    refine e_bipush (v := 6) hX iL_law_32 (by decide) ?_
    refine e_isub hX iL_law_34 ?_
    refine e_icmp_gt hX iL_law_35 (fun c35 => ?_) (fun c35 => ?_)
    · refine e_loc [] ?_
      exact fin _ _ _ (by omega) (by omega)
    · have h6 := len6 hL (by omega) c35
      refine e_aload_n hX 0 iL_law_38 rfl rfl ?_
      refine e_iload hX iL_law_39 rfl ?_
      refine e_sld hX hS (6 * q) iL_law_41 rfl (by omega) (by omega) ?_
      refine e_bipush (v := 63) hX iL_law_42 (by decide) ?_
      refine e_iand hX iL_law_44 ?_
      obtain ⟨j, hj, ej⟩ := pk_andE (xs (6 * q)) (m := 63) 6 (by decide)
      rw [ej]
      refine law_case htr hX hN hS hL h6 hI (by omega) (by omega) (fun p σ2 hI2 => ?_) (show j < 64 by omega)
      refine e_iinc (v := nI (6 * (q + 1))) hX iL_law_2943 rfl (nI_add (6 * q) 6) (by decide) ?_
      refine e_goto hX iL_law_2946 ?_
      refine e_loc [0, 1, 2, 3, 4, 5] ?_
      refine e_wid (k' := 100 + 340 * (q + 1)) (n' := 1000 + 2000 * (q + 1)) (by omega) (by omega) ?_
      exact ih (q + 1) p σ2 (by omega) (by omega) hI2
end XL7
