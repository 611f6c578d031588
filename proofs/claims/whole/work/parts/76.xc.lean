/-! the steps of the law's loop (printed by gen76.py) -/
section XA2
variable {θ : e_T} {x : e_X} {ph : e_PH} {k n : Nat} {nm : String} {rt : Option FieldType} {l : Launch} {b L : Nat} {xs : Nat → Int32} {g mo o od : Nat} {μ : Nat → Nat} {σ : SG}
/-- case 24 -/
theorem q_fewestRemovals (htr : l.stackTraces = false) (hX : e_in cL_law RL nm 9 rt room_1 l θ x) (hN : e_nc x) (hS : e_scr θ x b L xs) (hL : L ≤ 3072) {i : Nat} (hi : i + 6 ≤ L) (hI : LI θ ph g mo μ o od σ) (hk : k + 340 ≤ 603072) (hn : n + 2000 ≤ 7182442) (back : ∀ p σ2, LI θ p g mo μ o od σ2 → EJ θ x 2943 [(0, .ref b), (1, .ref g), (2, .ref mo), (3, .ref o), (4, .ref od), (5, .int (nI i))] [] p (k + 340) (n + 2000)) : EJ θ x 1669 [(0, .ref b), (1, .ref g), (2, .ref mo), (3, .ref o), (4, .ref od), (5, .int (nI i))] [] ph k n := by
  have hn12 := hI.1.ok.1
  refine e_aload_n hX 1 iL_law_1669 rfl rfl ?_
  obtain ⟨fsg, hgo⟩ := hI.1.go
  refine e_callV hX iL_law_1670 hgo (m_fewest htr hI.1) rfl rfl ⟨Nat.le_of_ble_eq_true rfl, Nat.le_of_ble_eq_true rfl, by show _ ≤ 603072; omega, by show _ ≤ 7182442; omega⟩ (Nat.le_of_ble_eq_true rfl) (fun _ _ h => h.elim) (fun v9 p9 h9 => ?_)
  obtain ⟨-, rfl, hg9, hx9⟩ := h9
  have hG9 := hI.keep hg9 hx9
  obtain ⟨t9, hm9⟩ := hG9.2.1
  obtain ⟨fs9, hmo9⟩ := hm9.go
  refine e_aload_n hX 2 iL_law_1673 rfl rfl ?_
  refine e_callV hX iL_law_1674 hmo9 (w_fewest htr hm9) rfl rfl ⟨Nat.le_of_ble_eq_true rfl, Nat.le_of_ble_eq_true rfl, by show _ ≤ 603072; omega, by show _ ≤ 7182442; omega⟩ (Nat.le_of_ble_eq_true rfl) (fun _ _ h => h.elim) (fun v8 p8 h8 => ?_)
  obtain ⟨rfl, hm8, hk8⟩ := h8
  obtain ⟨hI8, -⟩ := hG9.model hm8 hk8
  refine e_icmp_eq hX iL_law_1677 (fun c1677 => ?_) (fun c1677 => ?_)
  · refine e_loc [0, 1, 2, 3, 4, 5] ?_
    refine e_wid (k' := k + 340) (n' := n + 2000) (by omega) (by omega) ?_
    exact back _ _ hI8
  · exact absurd (by first | rfl | (rw [frL_eq hn12, try_eq hn12]; done) | (rw [frL_eq hn12]; done)) c1677
/-- case 25 -/
theorem q_fewestRemovalsByTrying (htr : l.stackTraces = false) (hX : e_in cL_law RL nm 9 rt room_1 l θ x) (hN : e_nc x) (hS : e_scr θ x b L xs) (hL : L ≤ 3072) {i : Nat} (hi : i + 6 ≤ L) (hI : LI θ ph g mo μ o od σ) (hk : k + 340 ≤ 603072) (hn : n + 2000 ≤ 7182442) (back : ∀ p σ2, LI θ p g mo μ o od σ2 → EJ θ x 2943 [(0, .ref b), (1, .ref g), (2, .ref mo), (3, .ref o), (4, .ref od), (5, .int (nI i))] [] p (k + 340) (n + 2000)) : EJ θ x 1682 [(0, .ref b), (1, .ref g), (2, .ref mo), (3, .ref o), (4, .ref od), (5, .int (nI i))] [] ph k n := by
  have hn12 := hI.1.ok.1
  refine e_aload_n hX 1 iL_law_1682 rfl rfl ?_
  obtain ⟨fsg, hgo⟩ := hI.1.go
  refine e_callV hX iL_law_1683 hgo (m_fewestT htr hI.1) rfl rfl ⟨Nat.le_of_ble_eq_true rfl, Nat.le_of_ble_eq_true rfl, by show _ ≤ 603072; omega, by show _ ≤ 7182442; omega⟩ (Nat.le_of_ble_eq_true rfl) (fun _ _ h => h.elim) (fun v9 p9 h9 => ?_)
  obtain ⟨-, rfl, hg9, hx9⟩ := h9
  have hG9 := hI.keep hg9 hx9
  obtain ⟨t9, hm9⟩ := hG9.2.1
  obtain ⟨fs9, hmo9⟩ := hm9.go
  refine e_aload_n hX 2 iL_law_1686 rfl rfl ?_
  refine e_callV hX iL_law_1687 hmo9 (w_fewestT htr hm9) rfl rfl ⟨Nat.le_of_ble_eq_true rfl, Nat.le_of_ble_eq_true rfl, by show _ ≤ 603072; omega, by show _ ≤ 7182442; omega⟩ (Nat.le_of_ble_eq_true rfl) (fun _ _ h => h.elim) (fun v8 p8 h8 => ?_)
  obtain ⟨rfl, hm8, hk8⟩ := h8
  obtain ⟨hI8, -⟩ := hG9.model hm8 hk8
  refine e_icmp_eq hX iL_law_1690 (fun c1690 => ?_) (fun c1690 => ?_)
  · refine e_loc [0, 1, 2, 3, 4, 5] ?_
    refine e_wid (k' := k + 340) (n' := n + 2000) (by omega) (by omega) ?_
    exact back _ _ hI8
  · exact absurd (by first | rfl | (rw [frL_eq hn12, try_eq hn12]; done) | (rw [frL_eq hn12]; done)) c1690
/-- case 26 -/
theorem q_isInRepair (htr : l.stackTraces = false) (hX : e_in cL_law RL nm 9 rt room_1 l θ x) (hN : e_nc x) (hS : e_scr θ x b L xs) (hL : L ≤ 3072) {i : Nat} (hi : i + 6 ≤ L) (hI : LI θ ph g mo μ o od σ) (hk : k + 340 ≤ 603072) (hn : n + 2000 ≤ 7182442) (back : ∀ p σ2, LI θ p g mo μ o od σ2 → EJ θ x 2943 [(0, .ref b), (1, .ref g), (2, .ref mo), (3, .ref o), (4, .ref od), (5, .int (nI i))] [] p (k + 340) (n + 2000)) : EJ θ x 1695 [(0, .ref b), (1, .ref g), (2, .ref mo), (3, .ref o), (4, .ref od), (5, .int (nI i))] [] ph k n := by
  have hIo := hI.2.2.1
  obtain ⟨f0, ho0⟩ := hIo
  refine e_aload_n hX 1 iL_law_1695 rfl rfl ?_
  refine e_aload_n hX 0 iL_law_1696 rfl rfl ?_
  refine e_iload hX iL_law_1697 rfl ?_
  refine e_iconst (v := 1) hX iL_law_1699 (by decide) ?_
  refine e_iadd hX iL_law_1700 ?_
  refine e_sld hX hS (i + 1) iL_law_1701 (nI_add i 1) (by omega) (by omega) ?_
  refine e_aload_n hX 3 iL_law_1702 rfl rfl ?_
  refine e_callW hX hN iW_law_1703 (l_isInRepair htr hI.1 (Or.inr (Or.inl rfl)) ho0 (xs (i + 1))) rfl rfl ⟨Nat.le_of_ble_eq_true rfl, Nat.le_of_ble_eq_true rfl, by show _ ≤ 603072; omega, by show _ ≤ 7182442; omega⟩ (Nat.le_of_ble_eq_true rfl) (fun v9 p9 h9 => ?_)
  obtain ⟨rfl, hG9⟩ := hI.gate h9
  rw [ite_self] at hG9
  obtain ⟨t9, hm9⟩ := hG9.2.1
  obtain ⟨fs9, hmo9⟩ := hm9.go
  refine e_istore hX iL_law_1706 (by decide) ?_
  refine e_aload_n hX 2 iL_law_1708 rfl rfl ?_
  refine e_aload_n hX 0 iL_law_1709 rfl rfl ?_
  refine e_iload hX iL_law_1710 rfl ?_
  refine e_iconst (v := 1) hX iL_law_1712 (by decide) ?_
  refine e_iadd hX iL_law_1713 ?_
  refine e_sld hX hS (i + 1) iL_law_1714 (nI_add i 1) (by omega) (by omega) ?_
  refine e_callV hX iL_law_1715 hmo9 (w_isInRepair htr hm9 (xs (i + 1))) rfl rfl ⟨Nat.le_of_ble_eq_true rfl, Nat.le_of_ble_eq_true rfl, by show _ ≤ 603072; omega, by show _ ≤ 7182442; omega⟩ (Nat.le_of_ble_eq_true rfl) (fun _ _ h => h.elim) (fun v8 p8 h8 => ?_)
  obtain ⟨a8, rfl, hb8, hm8, hk8⟩ := h8.bool
  obtain ⟨hI8, f8, ho8, ha8⟩ := hG9.model hm8 hk8
  obtain ⟨fs8, hmo8⟩ := hm8.go
  refine e_istore hX iL_law_1718 (by decide) ?_
  refine e_aload_n hX 2 iL_law_1720 rfl rfl ?_
  refine e_callV hX iL_law_1721 hmo8 (w_thrown htr hm8) rfl rfl ⟨Nat.le_of_ble_eq_true rfl, Nat.le_of_ble_eq_true rfl, by show _ ≤ 603072; omega, by show _ ≤ 7182442; omega⟩ (Nat.le_of_ble_eq_true rfl) (fun _ _ h => h.elim) (fun v7 p7 h7 => ?_)
  obtain ⟨rfl, e7⟩ := h7
  subst p7
  refine e_iload hX iL_law_1724 rfl ?_
  refine e_icmp_eq hX iL_law_1726 (fun c1726 => ?_) (fun c1726 => ?_)
  · have hK3 : (k_id σ (xs (i + 1))) ≤ 3 := by unfold k_id; (repeat' split) <;> decide
    refine e_iload hX iL_law_1731 rfl ?_
    refine e_if_ne hX iL_law_1733 (fun c1733 => ?_) (fun c1733 => ?_)
    · refine e_goto hX iL_law_1755 ?_
      refine e_loc [0, 1, 2, 3, 4, 5] ?_
      refine e_wid (k' := k + 340) (n' := n + 2000) (by omega) (by omega) ?_
      exact back _ _ hI8
    · have hK : (k_id σ (xs (i + 1))) = 0 := (nI_eq (by omega) (by decide)).mp c1733
      refine e_aload_n hX 3 iL_law_1736 rfl rfl ?_
      refine e_iconst (v := 0) hX iL_law_1737 (by decide) ?_
      refine e_lald hX 0 iL_law_1738 ho8 rfl (by decide) (by decide) ?_
      refine e_iload hX iL_law_1739 rfl ?_
      refine e_nzL hX iL_law_1741 iL_law_1744 iL_law_1745 iL_law_1748 ?_
      refine e_lcmp hX iL_law_1749 ?_
      refine e_if_eq hX iL_law_1750 (fun c1750 => ?_) (fun c1750 => ?_)
      · refine e_goto hX iL_law_1755 ?_
        refine e_loc [0, 1, 2, 3, 4, 5] ?_
        refine e_wid (k' := k + 340) (n' := n + 2000) (by omega) (by omega) ?_
        exact back _ _ hI8
      · exact absurd ((lg_cmp_eq _ _).mpr (by rw [nz_b, ha8 hK, hb8 hK])) c1750
  · exact absurd rfl c1726
/-- case 27 -/
theorem q_repair (htr : l.stackTraces = false) (hX : e_in cL_law RL nm 9 rt room_1 l θ x) (hN : e_nc x) (hS : e_scr θ x b L xs) (hL : L ≤ 3072) {i : Nat} (hi : i + 6 ≤ L) (hI : LI θ ph g mo μ o od σ) (hk : k + 340 ≤ 603072) (hn : n + 2000 ≤ 7182442) (back : ∀ p σ2, LI θ p g mo μ o od σ2 → EJ θ x 2943 [(0, .ref b), (1, .ref g), (2, .ref mo), (3, .ref o), (4, .ref od), (5, .int (nI i))] [] p (k + 340) (n + 2000)) : EJ θ x 1758 [(0, .ref b), (1, .ref g), (2, .ref mo), (3, .ref o), (4, .ref od), (5, .int (nI i))] [] ph k n := by
  have hn12 := hI.1.ok.1
  refine e_aload_n hX 1 iL_law_1758 rfl rfl ?_
  obtain ⟨fsg, hgo⟩ := hI.1.go
  refine e_callV hX iL_law_1759 hgo (m_repair htr hI.1) rfl rfl ⟨Nat.le_of_ble_eq_true rfl, Nat.le_of_ble_eq_true rfl, by show _ ≤ 603072; omega, by show _ ≤ 7182442; omega⟩ (Nat.le_of_ble_eq_true rfl) (fun _ _ h => h.elim) (fun v9 p9 h9 => ?_)
  obtain ⟨-, rfl, hg9, hx9⟩ := h9
  have hG9 := hI.keep hg9 hx9
  obtain ⟨t9, hm9⟩ := hG9.2.1
  obtain ⟨fs9, hmo9⟩ := hm9.go
  refine e_aload_n hX 2 iL_law_1762 rfl rfl ?_
  refine e_callV hX iL_law_1763 hmo9 (w_repair htr hm9) rfl rfl ⟨Nat.le_of_ble_eq_true rfl, Nat.le_of_ble_eq_true rfl, by show _ ≤ 603072; omega, by show _ ≤ 7182442; omega⟩ (Nat.le_of_ble_eq_true rfl) (fun _ _ h => h.elim) (fun v8 p8 h8 => ?_)
  obtain ⟨rfl, hm8, hk8⟩ := h8
  obtain ⟨hI8, -⟩ := hG9.model hm8 hk8
  refine e_icmp_eq hX iL_law_1766 (fun c1766 => ?_) (fun c1766 => ?_)
  · refine e_loc [0, 1, 2, 3, 4, 5] ?_
    refine e_wid (k' := k + 340) (n' := n + 2000) (by omega) (by omega) ?_
    exact back _ _ hI8
  · exact absurd (by first | rfl | (rw [frL_eq hn12, try_eq hn12]; done) | (rw [frL_eq hn12]; done)) c1766
/-- case 28 -/
theorem q_determines (htr : l.stackTraces = false) (hX : e_in cL_law RL nm 9 rt room_1 l θ x) (hN : e_nc x) (hS : e_scr θ x b L xs) (hL : L ≤ 3072) {i : Nat} (hi : i + 6 ≤ L) (hI : LI θ ph g mo μ o od σ) (hk : k + 340 ≤ 603072) (hn : n + 2000 ≤ 7182442) (back : ∀ p σ2, LI θ p g mo μ o od σ2 → EJ θ x 2943 [(0, .ref b), (1, .ref g), (2, .ref mo), (3, .ref o), (4, .ref od), (5, .int (nI i))] [] p (k + 340) (n + 2000)) : EJ θ x 1771 [(0, .ref b), (1, .ref g), (2, .ref mo), (3, .ref o), (4, .ref od), (5, .int (nI i))] [] ph k n := by
  have hIo := hI.2.2.1
  obtain ⟨f0, ho0⟩ := hIo
  refine e_aload_n hX 1 iL_law_1771 rfl rfl ?_
  refine e_aload_n hX 0 iL_law_1772 rfl rfl ?_
  refine e_iload hX iL_law_1773 rfl ?_
  refine e_iconst (v := 1) hX iL_law_1775 (by decide) ?_
  refine e_iadd hX iL_law_1776 ?_
  refine e_sld hX hS (i + 1) iL_law_1777 (nI_add i 1) (by omega) (by omega) ?_
  refine e_aload_n hX 0 iL_law_1778 rfl rfl ?_
  refine e_iload hX iL_law_1779 rfl ?_
  refine e_iconst (v := 2) hX iL_law_1781 (by decide) ?_
  refine e_iadd hX iL_law_1782 ?_
  refine e_sld hX hS (i + 2) iL_law_1783 (nI_add i 2) (by omega) (by omega) ?_
  refine e_aload_n hX 3 iL_law_1784 rfl rfl ?_
  refine e_callW hX hN iW_law_1785 (l_determines htr hI.1 (Or.inr (Or.inl rfl)) ho0 (xs (i + 1)) (xs (i + 2))) rfl rfl ⟨Nat.le_of_ble_eq_true rfl, Nat.le_of_ble_eq_true rfl, by show _ ≤ 603072; omega, by show _ ≤ 7182442; omega⟩ (Nat.le_of_ble_eq_true rfl) (fun v9 p9 h9 => ?_)
  obtain ⟨rfl, hG9⟩ := hI.gate h9
  rw [ite_self] at hG9
  obtain ⟨t9, hm9⟩ := hG9.2.1
  obtain ⟨fs9, hmo9⟩ := hm9.go
  refine e_istore hX iL_law_1788 (by decide) ?_
  refine e_aload_n hX 2 iL_law_1790 rfl rfl ?_
  refine e_aload_n hX 0 iL_law_1791 rfl rfl ?_
  refine e_iload hX iL_law_1792 rfl ?_
  refine e_iconst (v := 1) hX iL_law_1794 (by decide) ?_
  refine e_iadd hX iL_law_1795 ?_
  refine e_sld hX hS (i + 1) iL_law_1796 (nI_add i 1) (by omega) (by omega) ?_
  refine e_aload_n hX 0 iL_law_1797 rfl rfl ?_
  refine e_iload hX iL_law_1798 rfl ?_
  refine e_iconst (v := 2) hX iL_law_1800 (by decide) ?_
  refine e_iadd hX iL_law_1801 ?_
  refine e_sld hX hS (i + 2) iL_law_1802 (nI_add i 2) (by omega) (by omega) ?_
  refine e_callV hX iL_law_1803 hmo9 (w_determines htr hm9 (xs (i + 1)) (xs (i + 2))) rfl rfl ⟨Nat.le_of_ble_eq_true rfl, Nat.le_of_ble_eq_true rfl, by show _ ≤ 603072; omega, by show _ ≤ 7182442; omega⟩ (Nat.le_of_ble_eq_true rfl) (fun _ _ h => h.elim) (fun v8 p8 h8 => ?_)
  obtain ⟨a8, rfl, hb8, hm8, hk8⟩ := h8.bool
  obtain ⟨hI8, f8, ho8, ha8⟩ := hG9.model hm8 hk8
  obtain ⟨fs8, hmo8⟩ := hm8.go
  refine e_istore hX iL_law_1806 (by decide) ?_
  refine e_aload_n hX 2 iL_law_1808 rfl rfl ?_
  refine e_callV hX iL_law_1809 hmo8 (w_thrown htr hm8) rfl rfl ⟨Nat.le_of_ble_eq_true rfl, Nat.le_of_ble_eq_true rfl, by show _ ≤ 603072; omega, by show _ ≤ 7182442; omega⟩ (Nat.le_of_ble_eq_true rfl) (fun _ _ h => h.elim) (fun v7 p7 h7 => ?_)
  obtain ⟨rfl, e7⟩ := h7
  subst p7
  refine e_iload hX iL_law_1812 rfl ?_
  refine e_icmp_eq hX iL_law_1814 (fun c1814 => ?_) (fun c1814 => ?_)
  · have hK3 : (k_det (xs (i + 1)) (xs (i + 2))) ≤ 3 := by unfold k_det; (repeat' split) <;> decide
    refine e_iload hX iL_law_1819 rfl ?_
    refine e_if_ne hX iL_law_1821 (fun c1821 => ?_) (fun c1821 => ?_)
    · refine e_goto hX iL_law_1843 ?_
      refine e_loc [0, 1, 2, 3, 4, 5] ?_
      refine e_wid (k' := k + 340) (n' := n + 2000) (by omega) (by omega) ?_
      exact back _ _ hI8
    · have hK : (k_det (xs (i + 1)) (xs (i + 2))) = 0 := (nI_eq (by omega) (by decide)).mp c1821
      refine e_aload_n hX 3 iL_law_1824 rfl rfl ?_
      refine e_iconst (v := 0) hX iL_law_1825 (by decide) ?_
      refine e_lald hX 0 iL_law_1826 ho8 rfl (by decide) (by decide) ?_
      refine e_iload hX iL_law_1827 rfl ?_
      refine e_nzL hX iL_law_1829 iL_law_1832 iL_law_1833 iL_law_1836 ?_
      refine e_lcmp hX iL_law_1837 ?_
      refine e_if_eq hX iL_law_1838 (fun c1838 => ?_) (fun c1838 => ?_)
      · refine e_goto hX iL_law_1843 ?_
        refine e_loc [0, 1, 2, 3, 4, 5] ?_
        refine e_wid (k' := k + 340) (n' := n + 2000) (by omega) (by omega) ?_
        exact back _ _ hI8
      · exact absurd ((lg_cmp_eq _ _).mpr (by rw [nz_b, ha8 hK, hb8 hK])) c1838
  · exact absurd rfl c1814
/-- case 29 -/
theorem q_determinesByPairs (htr : l.stackTraces = false) (hX : e_in cL_law RL nm 9 rt room_1 l θ x) (hN : e_nc x) (hS : e_scr θ x b L xs) (hL : L ≤ 3072) {i : Nat} (hi : i + 6 ≤ L) (hI : LI θ ph g mo μ o od σ) (hk : k + 340 ≤ 603072) (hn : n + 2000 ≤ 7182442) (back : ∀ p σ2, LI θ p g mo μ o od σ2 → EJ θ x 2943 [(0, .ref b), (1, .ref g), (2, .ref mo), (3, .ref o), (4, .ref od), (5, .int (nI i))] [] p (k + 340) (n + 2000)) : EJ θ x 1846 [(0, .ref b), (1, .ref g), (2, .ref mo), (3, .ref o), (4, .ref od), (5, .int (nI i))] [] ph k n := by
  have hIo := hI.2.2.1
  obtain ⟨f0, ho0⟩ := hIo
  refine e_aload_n hX 1 iL_law_1846 rfl rfl ?_
  refine e_aload_n hX 0 iL_law_1847 rfl rfl ?_
  refine e_iload hX iL_law_1848 rfl ?_
  refine e_iconst (v := 1) hX iL_law_1850 (by decide) ?_
  refine e_iadd hX iL_law_1851 ?_
  refine e_sld hX hS (i + 1) iL_law_1852 (nI_add i 1) (by omega) (by omega) ?_
  refine e_aload_n hX 0 iL_law_1853 rfl rfl ?_
  refine e_iload hX iL_law_1854 rfl ?_
  refine e_iconst (v := 2) hX iL_law_1856 (by decide) ?_
  refine e_iadd hX iL_law_1857 ?_
  refine e_sld hX hS (i + 2) iL_law_1858 (nI_add i 2) (by omega) (by omega) ?_
  refine e_aload_n hX 3 iL_law_1859 rfl rfl ?_
  refine e_callW hX hN iW_law_1860 (l_determinesByPairs htr hI.1 (Or.inr (Or.inl rfl)) ho0 (xs (i + 1)) (xs (i + 2))) rfl rfl ⟨Nat.le_of_ble_eq_true rfl, Nat.le_of_ble_eq_true rfl, by show _ ≤ 603072; omega, by show _ ≤ 7182442; omega⟩ (Nat.le_of_ble_eq_true rfl) (fun v9 p9 h9 => ?_)
  obtain ⟨rfl, hG9⟩ := hI.gate h9
  rw [ite_self] at hG9
  obtain ⟨t9, hm9⟩ := hG9.2.1
  obtain ⟨fs9, hmo9⟩ := hm9.go
  refine e_istore hX iL_law_1863 (by decide) ?_
  refine e_aload_n hX 2 iL_law_1865 rfl rfl ?_
  refine e_aload_n hX 0 iL_law_1866 rfl rfl ?_
  refine e_iload hX iL_law_1867 rfl ?_
  refine e_iconst (v := 1) hX iL_law_1869 (by decide) ?_
  refine e_iadd hX iL_law_1870 ?_
  refine e_sld hX hS (i + 1) iL_law_1871 (nI_add i 1) (by omega) (by omega) ?_
  refine e_aload_n hX 0 iL_law_1872 rfl rfl ?_
  refine e_iload hX iL_law_1873 rfl ?_
  refine e_iconst (v := 2) hX iL_law_1875 (by decide) ?_
  refine e_iadd hX iL_law_1876 ?_
  refine e_sld hX hS (i + 2) iL_law_1877 (nI_add i 2) (by omega) (by omega) ?_
  refine e_callV hX iL_law_1878 hmo9 (w_determinesP htr hm9 (xs (i + 1)) (xs (i + 2))) rfl rfl ⟨Nat.le_of_ble_eq_true rfl, Nat.le_of_ble_eq_true rfl, by show _ ≤ 603072; omega, by show _ ≤ 7182442; omega⟩ (Nat.le_of_ble_eq_true rfl) (fun _ _ h => h.elim) (fun v8 p8 h8 => ?_)
  obtain ⟨a8, rfl, hb8, hm8, hk8⟩ := h8.bool
  obtain ⟨hI8, f8, ho8, ha8⟩ := hG9.model hm8 hk8
  obtain ⟨fs8, hmo8⟩ := hm8.go
  refine e_istore hX iL_law_1881 (by decide) ?_
  refine e_aload_n hX 2 iL_law_1883 rfl rfl ?_
  refine e_callV hX iL_law_1884 hmo8 (w_thrown htr hm8) rfl rfl ⟨Nat.le_of_ble_eq_true rfl, Nat.le_of_ble_eq_true rfl, by show _ ≤ 603072; omega, by show _ ≤ 7182442; omega⟩ (Nat.le_of_ble_eq_true rfl) (fun _ _ h => h.elim) (fun v7 p7 h7 => ?_)
  obtain ⟨rfl, e7⟩ := h7
  subst p7
  refine e_iload hX iL_law_1887 rfl ?_
  refine e_icmp_eq hX iL_law_1889 (fun c1889 => ?_) (fun c1889 => ?_)
  · have hK3 : (k_det (xs (i + 1)) (xs (i + 2))) ≤ 3 := by unfold k_det; (repeat' split) <;> decide
    refine e_iload hX iL_law_1894 rfl ?_
    refine e_if_ne hX iL_law_1896 (fun c1896 => ?_) (fun c1896 => ?_)
    · refine e_goto hX iL_law_1918 ?_
      refine e_loc [0, 1, 2, 3, 4, 5] ?_
      refine e_wid (k' := k + 340) (n' := n + 2000) (by omega) (by omega) ?_
      exact back _ _ hI8
    · have hK : (k_det (xs (i + 1)) (xs (i + 2))) = 0 := (nI_eq (by omega) (by decide)).mp c1896
      refine e_aload_n hX 3 iL_law_1899 rfl rfl ?_
      refine e_iconst (v := 0) hX iL_law_1900 (by decide) ?_
      refine e_lald hX 0 iL_law_1901 ho8 rfl (by decide) (by decide) ?_
      refine e_iload hX iL_law_1902 rfl ?_
      refine e_nzL hX iL_law_1904 iL_law_1907 iL_law_1908 iL_law_1911 ?_
      refine e_lcmp hX iL_law_1912 ?_
      refine e_if_eq hX iL_law_1913 (fun c1913 => ?_) (fun c1913 => ?_)
      · refine e_goto hX iL_law_1918 ?_
        refine e_loc [0, 1, 2, 3, 4, 5] ?_
        refine e_wid (k' := k + 340) (n' := n + 2000) (by omega) (by omega) ?_
        exact back _ _ hI8
      · exact absurd ((lg_cmp_eq _ _).mpr (by rw [nz_b, ha8 hK, hb8 hK])) c1913
  · exact absurd rfl c1889
/-- case 30 -/
theorem q_minimalCount (htr : l.stackTraces = false) (hX : e_in cL_law RL nm 9 rt room_1 l θ x) (hN : e_nc x) (hS : e_scr θ x b L xs) (hL : L ≤ 3072) {i : Nat} (hi : i + 6 ≤ L) (hI : LI θ ph g mo μ o od σ) (hk : k + 340 ≤ 603072) (hn : n + 2000 ≤ 7182442) (back : ∀ p σ2, LI θ p g mo μ o od σ2 → EJ θ x 2943 [(0, .ref b), (1, .ref g), (2, .ref mo), (3, .ref o), (4, .ref od), (5, .int (nI i))] [] p (k + 340) (n + 2000)) : EJ θ x 1921 [(0, .ref b), (1, .ref g), (2, .ref mo), (3, .ref o), (4, .ref od), (5, .int (nI i))] [] ph k n := by
  have hIo := hI.2.2.1
  obtain ⟨f0, ho0⟩ := hIo
  refine e_aload_n hX 1 iL_law_1921 rfl rfl ?_
  refine e_aload_n hX 0 iL_law_1922 rfl rfl ?_
  refine e_iload hX iL_law_1923 rfl ?_
  refine e_iconst (v := 1) hX iL_law_1925 (by decide) ?_
  refine e_iadd hX iL_law_1926 ?_
  refine e_sld hX hS (i + 1) iL_law_1927 (nI_add i 1) (by omega) (by omega) ?_
  refine e_aload_n hX 3 iL_law_1928 rfl rfl ?_
  refine e_callW hX hN iW_law_1929 (l_minimalCount htr hI.1 (Or.inr (Or.inl rfl)) ho0 (xs (i + 1))) rfl rfl ⟨Nat.le_of_ble_eq_true rfl, Nat.le_of_ble_eq_true rfl, by show _ ≤ 603072; omega, by show _ ≤ 7182442; omega⟩ (Nat.le_of_ble_eq_true rfl) (fun v9 p9 h9 => ?_)
  obtain ⟨rfl, hG9⟩ := hI.gate h9
  rw [ite_self] at hG9
  obtain ⟨t9, hm9⟩ := hG9.2.1
  obtain ⟨fs9, hmo9⟩ := hm9.go
  refine e_istore hX iL_law_1932 (by decide) ?_
  refine e_aload_n hX 2 iL_law_1934 rfl rfl ?_
  refine e_aload_n hX 0 iL_law_1935 rfl rfl ?_
  refine e_iload hX iL_law_1936 rfl ?_
  refine e_iconst (v := 1) hX iL_law_1938 (by decide) ?_
  refine e_iadd hX iL_law_1939 ?_
  refine e_sld hX hS (i + 1) iL_law_1940 (nI_add i 1) (by omega) (by omega) ?_
  refine e_callV hX iL_law_1941 hmo9 (w_minimalCount htr hm9 (xs (i + 1))) rfl rfl ⟨Nat.le_of_ble_eq_true rfl, Nat.le_of_ble_eq_true rfl, by show _ ≤ 603072; omega, by show _ ≤ 7182442; omega⟩ (Nat.le_of_ble_eq_true rfl) (fun _ _ h => h.elim) (fun v8 p8 h8 => ?_)
  obtain ⟨a8, rfl, hb8, hm8, hk8⟩ := h8.int
  obtain ⟨hI8, f8, ho8, ha8⟩ := hG9.model hm8 hk8
  obtain ⟨fs8, hmo8⟩ := hm8.go
  refine e_istore hX iL_law_1944 (by decide) ?_
  refine e_aload_n hX 2 iL_law_1946 rfl rfl ?_
  refine e_callV hX iL_law_1947 hmo8 (w_thrown htr hm8) rfl rfl ⟨Nat.le_of_ble_eq_true rfl, Nat.le_of_ble_eq_true rfl, by show _ ≤ 603072; omega, by show _ ≤ 7182442; omega⟩ (Nat.le_of_ble_eq_true rfl) (fun _ _ h => h.elim) (fun v7 p7 h7 => ?_)
  obtain ⟨rfl, e7⟩ := h7
  subst p7
  refine e_iload hX iL_law_1950 rfl ?_
  refine e_icmp_eq hX iL_law_1952 (fun c1952 => ?_) (fun c1952 => ?_)
  · have hK3 : (k_col (xs (i + 1))) ≤ 3 := by unfold k_col; (repeat' split) <;> decide
    refine e_iload hX iL_law_1957 rfl ?_
    refine e_if_ne hX iL_law_1959 (fun c1959 => ?_) (fun c1959 => ?_)
    · refine e_goto hX iL_law_1974 ?_
      refine e_loc [0, 1, 2, 3, 4, 5] ?_
      refine e_wid (k' := k + 340) (n' := n + 2000) (by omega) (by omega) ?_
      exact back _ _ hI8
    · have hK : (k_col (xs (i + 1))) = 0 := (nI_eq (by omega) (by decide)).mp c1959
      refine e_aload_n hX 3 iL_law_1962 rfl rfl ?_
      refine e_iconst (v := 0) hX iL_law_1963 (by decide) ?_
      refine e_lald hX 0 iL_law_1964 ho8 rfl (by decide) (by decide) ?_
      refine e_iload hX iL_law_1965 rfl ?_
      refine e_i2l hX iL_law_1967 ?_
      refine e_lcmp hX iL_law_1968 ?_
      refine e_if_eq hX iL_law_1969 (fun c1969 => ?_) (fun c1969 => ?_)
      · refine e_goto hX iL_law_1974 ?_
        refine e_loc [0, 1, 2, 3, 4, 5] ?_
        refine e_wid (k' := k + 340) (n' := n + 2000) (by omega) (by omega) ?_
        exact back _ _ hI8
      · exact absurd ((lg_cmp_eq _ _).mpr (by rw [ha8 hK, hb8 hK, minCnt_p])) c1969
  · exact absurd rfl c1952
/-- case 31 -/
theorem q_minimalCountByTrying (htr : l.stackTraces = false) (hX : e_in cL_law RL nm 9 rt room_1 l θ x) (hN : e_nc x) (hS : e_scr θ x b L xs) (hL : L ≤ 3072) {i : Nat} (hi : i + 6 ≤ L) (hI : LI θ ph g mo μ o od σ) (hk : k + 340 ≤ 603072) (hn : n + 2000 ≤ 7182442) (back : ∀ p σ2, LI θ p g mo μ o od σ2 → EJ θ x 2943 [(0, .ref b), (1, .ref g), (2, .ref mo), (3, .ref o), (4, .ref od), (5, .int (nI i))] [] p (k + 340) (n + 2000)) : EJ θ x 1977 [(0, .ref b), (1, .ref g), (2, .ref mo), (3, .ref o), (4, .ref od), (5, .int (nI i))] [] ph k n := by
  have hIo := hI.2.2.1
  obtain ⟨f0, ho0⟩ := hIo
  refine e_aload_n hX 1 iL_law_1977 rfl rfl ?_
  refine e_aload_n hX 0 iL_law_1978 rfl rfl ?_
  refine e_iload hX iL_law_1979 rfl ?_
  refine e_iconst (v := 1) hX iL_law_1981 (by decide) ?_
  refine e_iadd hX iL_law_1982 ?_
  refine e_sld hX hS (i + 1) iL_law_1983 (nI_add i 1) (by omega) (by omega) ?_
  refine e_aload_n hX 3 iL_law_1984 rfl rfl ?_
  refine e_callW hX hN iW_law_1985 (l_minimalCountByTrying htr hI.1 (Or.inr (Or.inl rfl)) ho0 (xs (i + 1))) rfl rfl ⟨Nat.le_of_ble_eq_true rfl, Nat.le_of_ble_eq_true rfl, by show _ ≤ 603072; omega, by show _ ≤ 7182442; omega⟩ (Nat.le_of_ble_eq_true rfl) (fun v9 p9 h9 => ?_)
  obtain ⟨rfl, hG9⟩ := hI.gate h9
  rw [ite_self] at hG9
  obtain ⟨t9, hm9⟩ := hG9.2.1
  obtain ⟨fs9, hmo9⟩ := hm9.go
  refine e_istore hX iL_law_1988 (by decide) ?_
  refine e_aload_n hX 2 iL_law_1990 rfl rfl ?_
  refine e_aload_n hX 0 iL_law_1991 rfl rfl ?_
  refine e_iload hX iL_law_1992 rfl ?_
  refine e_iconst (v := 1) hX iL_law_1994 (by decide) ?_
  refine e_iadd hX iL_law_1995 ?_
  refine e_sld hX hS (i + 1) iL_law_1996 (nI_add i 1) (by omega) (by omega) ?_
  refine e_callV hX iL_law_1997 hmo9 (w_minimalCountT htr hm9 (xs (i + 1))) rfl rfl ⟨Nat.le_of_ble_eq_true rfl, Nat.le_of_ble_eq_true rfl, by show _ ≤ 603072; omega, by show _ ≤ 7182442; omega⟩ (Nat.le_of_ble_eq_true rfl) (fun _ _ h => h.elim) (fun v8 p8 h8 => ?_)
  obtain ⟨a8, rfl, hb8, hm8, hk8⟩ := h8.int
  obtain ⟨hI8, f8, ho8, ha8⟩ := hG9.model hm8 hk8
  obtain ⟨fs8, hmo8⟩ := hm8.go
  refine e_istore hX iL_law_2000 (by decide) ?_
  refine e_aload_n hX 2 iL_law_2002 rfl rfl ?_
  refine e_callV hX iL_law_2003 hmo8 (w_thrown htr hm8) rfl rfl ⟨Nat.le_of_ble_eq_true rfl, Nat.le_of_ble_eq_true rfl, by show _ ≤ 603072; omega, by show _ ≤ 7182442; omega⟩ (Nat.le_of_ble_eq_true rfl) (fun _ _ h => h.elim) (fun v7 p7 h7 => ?_)
  obtain ⟨rfl, e7⟩ := h7
  subst p7
  refine e_iload hX iL_law_2006 rfl ?_
  refine e_icmp_eq hX iL_law_2008 (fun c2008 => ?_) (fun c2008 => ?_)
  · have hK3 : (k_col (xs (i + 1))) ≤ 3 := by unfold k_col; (repeat' split) <;> decide
    refine e_iload hX iL_law_2013 rfl ?_
    refine e_if_ne hX iL_law_2015 (fun c2015 => ?_) (fun c2015 => ?_)
    · refine e_goto hX iL_law_2030 ?_
      refine e_loc [0, 1, 2, 3, 4, 5] ?_
      refine e_wid (k' := k + 340) (n' := n + 2000) (by omega) (by omega) ?_
      exact back _ _ hI8
    · have hK : (k_col (xs (i + 1))) = 0 := (nI_eq (by omega) (by decide)).mp c2015
      refine e_aload_n hX 3 iL_law_2018 rfl rfl ?_
      refine e_iconst (v := 0) hX iL_law_2019 (by decide) ?_
      refine e_lald hX 0 iL_law_2020 ho8 rfl (by decide) (by decide) ?_
      refine e_iload hX iL_law_2021 rfl ?_
      refine e_i2l hX iL_law_2023 ?_
      refine e_lcmp hX iL_law_2024 ?_
      refine e_if_eq hX iL_law_2025 (fun c2025 => ?_) (fun c2025 => ?_)
      · refine e_goto hX iL_law_2030 ?_
        refine e_loc [0, 1, 2, 3, 4, 5] ?_
        refine e_wid (k' := k + 340) (n' := n + 2000) (by omega) (by omega) ?_
        exact back _ _ hI8
      · exact absurd ((lg_cmp_eq _ _).mpr (by rw [ha8 hK, hb8 hK, minCnt_T])) c2025
  · exact absurd rfl c2008
/-- case 32 -/
theorem q_minimalAt (htr : l.stackTraces = false) (hX : e_in cL_law RL nm 9 rt room_1 l θ x) (hN : e_nc x) (hS : e_scr θ x b L xs) (hL : L ≤ 3072) {i : Nat} (hi : i + 6 ≤ L) (hI : LI θ ph g mo μ o od σ) (hk : k + 340 ≤ 603072) (hn : n + 2000 ≤ 7182442) (back : ∀ p σ2, LI θ p g mo μ o od σ2 → EJ θ x 2943 [(0, .ref b), (1, .ref g), (2, .ref mo), (3, .ref o), (4, .ref od), (5, .int (nI i))] [] p (k + 340) (n + 2000)) : EJ θ x 2033 [(0, .ref b), (1, .ref g), (2, .ref mo), (3, .ref o), (4, .ref od), (5, .int (nI i))] [] ph k n := by
  have hIo := hI.2.2.1
  obtain ⟨f0, ho0⟩ := hIo
  refine e_aload_n hX 1 iL_law_2033 rfl rfl ?_
  refine e_aload_n hX 0 iL_law_2034 rfl rfl ?_
  refine e_iload hX iL_law_2035 rfl ?_
  refine e_iconst (v := 1) hX iL_law_2037 (by decide) ?_
  refine e_iadd hX iL_law_2038 ?_
  refine e_sld hX hS (i + 1) iL_law_2039 (nI_add i 1) (by omega) (by omega) ?_
  refine e_aload_n hX 0 iL_law_2040 rfl rfl ?_
  refine e_iload hX iL_law_2041 rfl ?_
  refine e_iconst (v := 2) hX iL_law_2043 (by decide) ?_
  refine e_iadd hX iL_law_2044 ?_
  refine e_sld hX hS (i + 2) iL_law_2045 (nI_add i 2) (by omega) (by omega) ?_
  refine e_aload_n hX 3 iL_law_2046 rfl rfl ?_
  refine e_callW hX hN iW_law_2047 (l_minimalAt htr hI.1 (Or.inr (Or.inl rfl)) ho0 (xs (i + 1)) (xs (i + 2))) rfl rfl ⟨Nat.le_of_ble_eq_true rfl, Nat.le_of_ble_eq_true rfl, by show _ ≤ 603072; omega, by show _ ≤ 7182442; omega⟩ (Nat.le_of_ble_eq_true rfl) (fun v9 p9 h9 => ?_)
  obtain ⟨rfl, hG9⟩ := hI.gate h9
  rw [ite_self] at hG9
  obtain ⟨t9, hm9⟩ := hG9.2.1
  obtain ⟨fs9, hmo9⟩ := hm9.go
  refine e_istore hX iL_law_2050 (by decide) ?_
  refine e_aload_n hX 2 iL_law_2052 rfl rfl ?_
  refine e_aload_n hX 0 iL_law_2053 rfl rfl ?_
  refine e_iload hX iL_law_2054 rfl ?_
  refine e_iconst (v := 1) hX iL_law_2056 (by decide) ?_
  refine e_iadd hX iL_law_2057 ?_
  refine e_sld hX hS (i + 1) iL_law_2058 (nI_add i 1) (by omega) (by omega) ?_
  refine e_aload_n hX 0 iL_law_2059 rfl rfl ?_
  refine e_iload hX iL_law_2060 rfl ?_
  refine e_iconst (v := 2) hX iL_law_2062 (by decide) ?_
  refine e_iadd hX iL_law_2063 ?_
  refine e_sld hX hS (i + 2) iL_law_2064 (nI_add i 2) (by omega) (by omega) ?_
  refine e_callV hX iL_law_2065 hmo9 (w_minimalAt htr hm9 (xs (i + 1)) (xs (i + 2))) rfl rfl ⟨Nat.le_of_ble_eq_true rfl, Nat.le_of_ble_eq_true rfl, by show _ ≤ 603072; omega, by show _ ≤ 7182442; omega⟩ (Nat.le_of_ble_eq_true rfl) (fun _ _ h => h.elim) (fun v8 p8 h8 => ?_)
  obtain ⟨a8, rfl, hb8, hm8, hk8⟩ := h8.int
  obtain ⟨hI8, f8, ho8, ha8⟩ := hG9.model hm8 hk8
  obtain ⟨fs8, hmo8⟩ := hm8.go
  refine e_istore hX iL_law_2068 (by decide) ?_
  refine e_aload_n hX 2 iL_law_2070 rfl rfl ?_
  refine e_callV hX iL_law_2071 hmo8 (w_thrown htr hm8) rfl rfl ⟨Nat.le_of_ble_eq_true rfl, Nat.le_of_ble_eq_true rfl, by show _ ≤ 603072; omega, by show _ ≤ 7182442; omega⟩ (Nat.le_of_ble_eq_true rfl) (fun _ _ h => h.elim) (fun v7 p7 h7 => ?_)
  obtain ⟨rfl, e7⟩ := h7
  subst p7
  refine e_iload hX iL_law_2074 rfl ?_
  refine e_icmp_eq hX iL_law_2076 (fun c2076 => ?_) (fun c2076 => ?_)
  · have hK3 : (k_minAt σ (xs (i + 1)) (xs (i + 2))) ≤ 3 := by unfold k_minAt; (repeat' split) <;> decide
    refine e_iload hX iL_law_2081 rfl ?_
    refine e_if_ne hX iL_law_2083 (fun c2083 => ?_) (fun c2083 => ?_)
    · refine e_goto hX iL_law_2098 ?_
      refine e_loc [0, 1, 2, 3, 4, 5] ?_
      refine e_wid (k' := k + 340) (n' := n + 2000) (by omega) (by omega) ?_
      exact back _ _ hI8
    · have hK : (k_minAt σ (xs (i + 1)) (xs (i + 2))) = 0 := (nI_eq (by omega) (by decide)).mp c2083
      refine e_aload_n hX 3 iL_law_2086 rfl rfl ?_
      refine e_iconst (v := 0) hX iL_law_2087 (by decide) ?_
      refine e_lald hX 0 iL_law_2088 ho8 rfl (by decide) (by decide) ?_
      refine e_iload hX iL_law_2089 rfl ?_
      refine e_i2l hX iL_law_2091 ?_
      refine e_lcmp hX iL_law_2092 ?_
      refine e_if_eq hX iL_law_2093 (fun c2093 => ?_) (fun c2093 => ?_)
      · refine e_goto hX iL_law_2098 ?_
        refine e_loc [0, 1, 2, 3, 4, 5] ?_
        refine e_wid (k' := k + 340) (n' := n + 2000) (by omega) (by omega) ?_
        exact back _ _ hI8
      · exact absurd ((lg_cmp_eq _ _).mpr (by rw [ha8 hK, hb8 hK])) c2093
  · exact absurd rfl c2076
/-- case 33 -/
theorem q_closureOf (htr : l.stackTraces = false) (hX : e_in cL_law RL nm 9 rt room_1 l θ x) (hN : e_nc x) (hS : e_scr θ x b L xs) (hL : L ≤ 3072) {i : Nat} (hi : i + 6 ≤ L) (hI : LI θ ph g mo μ o od σ) (hk : k + 340 ≤ 603072) (hn : n + 2000 ≤ 7182442) (back : ∀ p σ2, LI θ p g mo μ o od σ2 → EJ θ x 2943 [(0, .ref b), (1, .ref g), (2, .ref mo), (3, .ref o), (4, .ref od), (5, .int (nI i))] [] p (k + 340) (n + 2000)) : EJ θ x 2101 [(0, .ref b), (1, .ref g), (2, .ref mo), (3, .ref o), (4, .ref od), (5, .int (nI i))] [] ph k n := by
  have hIo := hI.2.2.1
  obtain ⟨f0, ho0⟩ := hIo
  refine e_aload_n hX 1 iL_law_2101 rfl rfl ?_
  refine e_aload_n hX 0 iL_law_2102 rfl rfl ?_
  refine e_iload hX iL_law_2103 rfl ?_
  refine e_iconst (v := 1) hX iL_law_2105 (by decide) ?_
  refine e_iadd hX iL_law_2106 ?_
  refine e_sld hX hS (i + 1) iL_law_2107 (nI_add i 1) (by omega) (by omega) ?_
  refine e_aload_n hX 3 iL_law_2108 rfl rfl ?_
  refine e_callW hX hN iW_law_2109 (l_closureOf htr hI.1 (Or.inr (Or.inl rfl)) ho0 (xs (i + 1))) rfl rfl ⟨Nat.le_of_ble_eq_true rfl, Nat.le_of_ble_eq_true rfl, by show _ ≤ 603072; omega, by show _ ≤ 7182442; omega⟩ (Nat.le_of_ble_eq_true rfl) (fun v9 p9 h9 => ?_)
  obtain ⟨rfl, hG9⟩ := hI.gate h9
  rw [ite_self] at hG9
  obtain ⟨t9, hm9⟩ := hG9.2.1
  obtain ⟨fs9, hmo9⟩ := hm9.go
  refine e_istore hX iL_law_2112 (by decide) ?_
  refine e_aload_n hX 2 iL_law_2114 rfl rfl ?_
  refine e_aload_n hX 0 iL_law_2115 rfl rfl ?_
  refine e_iload hX iL_law_2116 rfl ?_
  refine e_iconst (v := 1) hX iL_law_2118 (by decide) ?_
  refine e_iadd hX iL_law_2119 ?_
  refine e_sld hX hS (i + 1) iL_law_2120 (nI_add i 1) (by omega) (by omega) ?_
  refine e_callV hX iL_law_2121 hmo9 (w_closureOf htr hm9 (xs (i + 1))) rfl rfl ⟨Nat.le_of_ble_eq_true rfl, Nat.le_of_ble_eq_true rfl, by show _ ≤ 603072; omega, by show _ ≤ 7182442; omega⟩ (Nat.le_of_ble_eq_true rfl) (fun _ _ h => h.elim) (fun v8 p8 h8 => ?_)
  obtain ⟨a8, rfl, hb8, hm8, hk8⟩ := h8.int
  obtain ⟨hI8, f8, ho8, ha8⟩ := hG9.model hm8 hk8
  obtain ⟨fs8, hmo8⟩ := hm8.go
  refine e_istore hX iL_law_2124 (by decide) ?_
  refine e_aload_n hX 2 iL_law_2126 rfl rfl ?_
  refine e_callV hX iL_law_2127 hmo8 (w_thrown htr hm8) rfl rfl ⟨Nat.le_of_ble_eq_true rfl, Nat.le_of_ble_eq_true rfl, by show _ ≤ 603072; omega, by show _ ≤ 7182442; omega⟩ (Nat.le_of_ble_eq_true rfl) (fun _ _ h => h.elim) (fun v7 p7 h7 => ?_)
  obtain ⟨rfl, e7⟩ := h7
  subst p7
  refine e_iload hX iL_law_2130 rfl ?_
  refine e_icmp_eq hX iL_law_2132 (fun c2132 => ?_) (fun c2132 => ?_)
  · have hK3 : (k_set (xs (i + 1))) ≤ 3 := by unfold k_set; (repeat' split) <;> decide
    refine e_iload hX iL_law_2137 rfl ?_
    refine e_if_ne hX iL_law_2139 (fun c2139 => ?_) (fun c2139 => ?_)
    · refine e_goto hX iL_law_2154 ?_
      refine e_loc [0, 1, 2, 3, 4, 5] ?_
      refine e_wid (k' := k + 340) (n' := n + 2000) (by omega) (by omega) ?_
      exact back _ _ hI8
    · have hK : (k_set (xs (i + 1))) = 0 := (nI_eq (by omega) (by decide)).mp c2139
      refine e_aload_n hX 3 iL_law_2142 rfl rfl ?_
      refine e_iconst (v := 0) hX iL_law_2143 (by decide) ?_
      refine e_lald hX 0 iL_law_2144 ho8 rfl (by decide) (by decide) ?_
      refine e_iload hX iL_law_2145 rfl ?_
      refine e_i2l hX iL_law_2147 ?_
      refine e_lcmp hX iL_law_2148 ?_
      refine e_if_eq hX iL_law_2149 (fun c2149 => ?_) (fun c2149 => ?_)
      · refine e_goto hX iL_law_2154 ?_
        refine e_loc [0, 1, 2, 3, 4, 5] ?_
        refine e_wid (k' := k + 340) (n' := n + 2000) (by omega) (by omega) ?_
        exact back _ _ hI8
      · exact absurd ((lg_cmp_eq _ _).mpr (by rw [ha8 hK, hb8 hK])) c2149
  · exact absurd rfl c2132
/-- case 34 -/
theorem q_isKey (htr : l.stackTraces = false) (hX : e_in cL_law RL nm 9 rt room_1 l θ x) (hN : e_nc x) (hS : e_scr θ x b L xs) (hL : L ≤ 3072) {i : Nat} (hi : i + 6 ≤ L) (hI : LI θ ph g mo μ o od σ) (hk : k + 340 ≤ 603072) (hn : n + 2000 ≤ 7182442) (back : ∀ p σ2, LI θ p g mo μ o od σ2 → EJ θ x 2943 [(0, .ref b), (1, .ref g), (2, .ref mo), (3, .ref o), (4, .ref od), (5, .int (nI i))] [] p (k + 340) (n + 2000)) : EJ θ x 2157 [(0, .ref b), (1, .ref g), (2, .ref mo), (3, .ref o), (4, .ref od), (5, .int (nI i))] [] ph k n := by
  have hIo := hI.2.2.1
  obtain ⟨f0, ho0⟩ := hIo
  refine e_aload_n hX 1 iL_law_2157 rfl rfl ?_
  refine e_aload_n hX 0 iL_law_2158 rfl rfl ?_
  refine e_iload hX iL_law_2159 rfl ?_
  refine e_iconst (v := 1) hX iL_law_2161 (by decide) ?_
  refine e_iadd hX iL_law_2162 ?_
  refine e_sld hX hS (i + 1) iL_law_2163 (nI_add i 1) (by omega) (by omega) ?_
  refine e_aload_n hX 3 iL_law_2164 rfl rfl ?_
  refine e_callW hX hN iW_law_2165 (l_isKey htr hI.1 (Or.inr (Or.inl rfl)) ho0 (xs (i + 1))) rfl rfl ⟨Nat.le_of_ble_eq_true rfl, Nat.le_of_ble_eq_true rfl, by show _ ≤ 603072; omega, by show _ ≤ 7182442; omega⟩ (Nat.le_of_ble_eq_true rfl) (fun v9 p9 h9 => ?_)
  obtain ⟨rfl, hG9⟩ := hI.gate h9
  rw [ite_self] at hG9
  obtain ⟨t9, hm9⟩ := hG9.2.1
  obtain ⟨fs9, hmo9⟩ := hm9.go
  refine e_istore hX iL_law_2168 (by decide) ?_
  refine e_aload_n hX 2 iL_law_2170 rfl rfl ?_
  refine e_aload_n hX 0 iL_law_2171 rfl rfl ?_
  refine e_iload hX iL_law_2172 rfl ?_
  refine e_iconst (v := 1) hX iL_law_2174 (by decide) ?_
  refine e_iadd hX iL_law_2175 ?_
  refine e_sld hX hS (i + 1) iL_law_2176 (nI_add i 1) (by omega) (by omega) ?_
  refine e_callV hX iL_law_2177 hmo9 (w_isKey htr hm9 (xs (i + 1))) rfl rfl ⟨Nat.le_of_ble_eq_true rfl, Nat.le_of_ble_eq_true rfl, by show _ ≤ 603072; omega, by show _ ≤ 7182442; omega⟩ (Nat.le_of_ble_eq_true rfl) (fun _ _ h => h.elim) (fun v8 p8 h8 => ?_)
  obtain ⟨a8, rfl, hb8, hm8, hk8⟩ := h8.bool
  obtain ⟨hI8, f8, ho8, ha8⟩ := hG9.model hm8 hk8
  obtain ⟨fs8, hmo8⟩ := hm8.go
  refine e_istore hX iL_law_2180 (by decide) ?_
  refine e_aload_n hX 2 iL_law_2182 rfl rfl ?_
  refine e_callV hX iL_law_2183 hmo8 (w_thrown htr hm8) rfl rfl ⟨Nat.le_of_ble_eq_true rfl, Nat.le_of_ble_eq_true rfl, by show _ ≤ 603072; omega, by show _ ≤ 7182442; omega⟩ (Nat.le_of_ble_eq_true rfl) (fun _ _ h => h.elim) (fun v7 p7 h7 => ?_)
  obtain ⟨rfl, e7⟩ := h7
  subst p7
  refine e_iload hX iL_law_2186 rfl ?_
  refine e_icmp_eq hX iL_law_2188 (fun c2188 => ?_) (fun c2188 => ?_)
  · have hK3 : (k_set (xs (i + 1))) ≤ 3 := by unfold k_set; (repeat' split) <;> decide
    refine e_iload hX iL_law_2193 rfl ?_
    refine e_if_ne hX iL_law_2195 (fun c2195 => ?_) (fun c2195 => ?_)
    · refine e_goto hX iL_law_2217 ?_
      refine e_loc [0, 1, 2, 3, 4, 5] ?_
      refine e_wid (k' := k + 340) (n' := n + 2000) (by omega) (by omega) ?_
      exact back _ _ hI8
    · have hK : (k_set (xs (i + 1))) = 0 := (nI_eq (by omega) (by decide)).mp c2195
      refine e_aload_n hX 3 iL_law_2198 rfl rfl ?_
      refine e_iconst (v := 0) hX iL_law_2199 (by decide) ?_
      refine e_lald hX 0 iL_law_2200 ho8 rfl (by decide) (by decide) ?_
      refine e_iload hX iL_law_2201 rfl ?_
      refine e_nzL hX iL_law_2203 iL_law_2206 iL_law_2207 iL_law_2210 ?_
      refine e_lcmp hX iL_law_2211 ?_
      refine e_if_eq hX iL_law_2212 (fun c2212 => ?_) (fun c2212 => ?_)
      · refine e_goto hX iL_law_2217 ?_
        refine e_loc [0, 1, 2, 3, 4, 5] ?_
        refine e_wid (k' := k + 340) (n' := n + 2000) (by omega) (by omega) ?_
        exact back _ _ hI8
      · exact absurd ((lg_cmp_eq _ _).mpr (by rw [nz_b, ha8 hK, hb8 hK])) c2212
  · exact absurd rfl c2188
/-- case 35 -/
theorem q_smallestKey (htr : l.stackTraces = false) (hX : e_in cL_law RL nm 9 rt room_1 l θ x) (hN : e_nc x) (hS : e_scr θ x b L xs) (hL : L ≤ 3072) {i : Nat} (hi : i + 6 ≤ L) (hI : LI θ ph g mo μ o od σ) (hk : k + 340 ≤ 603072) (hn : n + 2000 ≤ 7182442) (back : ∀ p σ2, LI θ p g mo μ o od σ2 → EJ θ x 2943 [(0, .ref b), (1, .ref g), (2, .ref mo), (3, .ref o), (4, .ref od), (5, .int (nI i))] [] p (k + 340) (n + 2000)) : EJ θ x 2220 [(0, .ref b), (1, .ref g), (2, .ref mo), (3, .ref o), (4, .ref od), (5, .int (nI i))] [] ph k n := by
  have hIo := hI.2.2.1
  obtain ⟨f0, ho0⟩ := hIo
  refine e_aload_n hX 1 iL_law_2220 rfl rfl ?_
  refine e_aload_n hX 3 iL_law_2221 rfl rfl ?_
  refine e_callW hX hN iW_law_2222 (l_smallestKey htr hI.1 (Or.inr (Or.inl rfl)) ho0 ) rfl rfl ⟨Nat.le_of_ble_eq_true rfl, Nat.le_of_ble_eq_true rfl, by show _ ≤ 603072; omega, by show _ ≤ 7182442; omega⟩ (Nat.le_of_ble_eq_true rfl) (fun v9 p9 h9 => ?_)
  obtain ⟨rfl, hG9⟩ := hI.gate h9
  rw [ite_self] at hG9
  obtain ⟨t9, hm9⟩ := hG9.2.1
  obtain ⟨fs9, hmo9⟩ := hm9.go
  refine e_istore hX iL_law_2225 (by decide) ?_
  refine e_aload_n hX 2 iL_law_2227 rfl rfl ?_
  refine e_callV hX iL_law_2228 hmo9 (w_smallestKey htr hm9 ) rfl rfl ⟨Nat.le_of_ble_eq_true rfl, Nat.le_of_ble_eq_true rfl, by show _ ≤ 603072; omega, by show _ ≤ 7182442; omega⟩ (Nat.le_of_ble_eq_true rfl) (fun _ _ h => h.elim) (fun v8 p8 h8 => ?_)
  obtain ⟨a8, rfl, hb8, hm8, hk8⟩ := h8.int
  obtain ⟨hI8, f8, ho8, ha8⟩ := hG9.model hm8 hk8
  obtain ⟨fs8, hmo8⟩ := hm8.go
  refine e_istore hX iL_law_2231 (by decide) ?_
  refine e_aload_n hX 2 iL_law_2233 rfl rfl ?_
  refine e_callV hX iL_law_2234 hmo8 (w_thrown htr hm8) rfl rfl ⟨Nat.le_of_ble_eq_true rfl, Nat.le_of_ble_eq_true rfl, by show _ ≤ 603072; omega, by show _ ≤ 7182442; omega⟩ (Nat.le_of_ble_eq_true rfl) (fun _ _ h => h.elim) (fun v7 p7 h7 => ?_)
  obtain ⟨rfl, e7⟩ := h7
  subst p7
  refine e_iload hX iL_law_2237 rfl ?_
  refine e_icmp_eq hX iL_law_2239 (fun c2239 => ?_) (fun c2239 => ?_)
  · have hK3 : (k_sk σ) ≤ 3 := by unfold k_sk; (repeat' split) <;> decide
    refine e_iload hX iL_law_2244 rfl ?_
    refine e_if_ne hX iL_law_2246 (fun c2246 => ?_) (fun c2246 => ?_)
    · refine e_goto hX iL_law_2261 ?_
      refine e_loc [0, 1, 2, 3, 4, 5] ?_
      refine e_wid (k' := k + 340) (n' := n + 2000) (by omega) (by omega) ?_
      exact back _ _ hI8
    · have hK : (k_sk σ) = 0 := (nI_eq (by omega) (by decide)).mp c2246
      refine e_aload_n hX 3 iL_law_2249 rfl rfl ?_
      refine e_iconst (v := 0) hX iL_law_2250 (by decide) ?_
      refine e_lald hX 0 iL_law_2251 ho8 rfl (by decide) (by decide) ?_
      refine e_iload hX iL_law_2252 rfl ?_
      refine e_i2l hX iL_law_2254 ?_
      refine e_lcmp hX iL_law_2255 ?_
      refine e_if_eq hX iL_law_2256 (fun c2256 => ?_) (fun c2256 => ?_)
      · refine e_goto hX iL_law_2261 ?_
        refine e_loc [0, 1, 2, 3, 4, 5] ?_
        refine e_wid (k' := k + 340) (n' := n + 2000) (by omega) (by omega) ?_
        exact back _ _ hI8
      · exact absurd ((lg_cmp_eq _ _).mpr (by rw [ha8 hK, hb8 hK])) c2256
  · exact absurd rfl c2239
end XA2
