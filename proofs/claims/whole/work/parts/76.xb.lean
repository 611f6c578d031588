/-! the steps of the law's loop (printed by gen76.py) -/
section XA1
variable {θ : e_T} {x : e_X} {ph : e_PH} {k n : Nat} {nm : String} {rt : Option FieldType} {l : Launch} {b L : Nat} {xs : Nat → Int32} {g mo o od : Nat} {μ : Nat → Nat} {σ : SG}
/-- case 12 -/
theorem q_rowAt (htr : l.stackTraces = false) (hX : e_in cL_law RL nm 9 rt room_1 l θ x) (hN : e_nc x) (hS : e_scr θ x b L xs) (hL : L ≤ 3072) {i : Nat} (hi : i + 6 ≤ L) (hI : LI θ ph g mo μ o od σ) (hk : k + 340 ≤ 603072) (hn : n + 2000 ≤ 7182442) (back : ∀ p σ2, LI θ p g mo μ o od σ2 → EJ θ x 2943 [(0, .ref b), (1, .ref g), (2, .ref mo), (3, .ref o), (4, .ref od), (5, .int (nI i))] [] p (k + 340) (n + 2000)) : EJ θ x 826 [(0, .ref b), (1, .ref g), (2, .ref mo), (3, .ref o), (4, .ref od), (5, .int (nI i))] [] ph k n := by
  have hIo := hI.2.2.1
  obtain ⟨f0, ho0⟩ := hIo
  refine e_aload_n hX 1 iL_law_826 rfl rfl ?_
  refine e_aload_n hX 0 iL_law_827 rfl rfl ?_
  refine e_iload hX iL_law_828 rfl ?_
  refine e_iconst (v := 1) hX iL_law_830 (by decide) ?_
  refine e_iadd hX iL_law_831 ?_
  refine e_sld hX hS (i + 1) iL_law_832 (nI_add i 1) (by omega) (by omega) ?_
  refine e_aload_n hX 3 iL_law_833 rfl rfl ?_
  refine e_callW hX hN iW_law_834 (l_rowAt htr hI.1 (Or.inr (Or.inl rfl)) ho0 (xs (i + 1))) rfl rfl ⟨Nat.le_of_ble_eq_true rfl, Nat.le_of_ble_eq_true rfl, by show _ ≤ 603072; omega, by show _ ≤ 7182442; omega⟩ (Nat.le_of_ble_eq_true rfl) (fun v9 p9 h9 => ?_)
  obtain ⟨rfl, hG9⟩ := hI.gate h9
  rw [ite_self] at hG9
  obtain ⟨t9, hm9⟩ := hG9.2.1
  obtain ⟨fs9, hmo9⟩ := hm9.go
  refine e_istore hX iL_law_837 (by decide) ?_
  refine e_aload_n hX 2 iL_law_839 rfl rfl ?_
  refine e_aload_n hX 0 iL_law_840 rfl rfl ?_
  refine e_iload hX iL_law_841 rfl ?_
  refine e_iconst (v := 1) hX iL_law_843 (by decide) ?_
  refine e_iadd hX iL_law_844 ?_
  refine e_sld hX hS (i + 1) iL_law_845 (nI_add i 1) (by omega) (by omega) ?_
  refine e_callV hX iL_law_846 hmo9 (w_rowAt htr hm9 (xs (i + 1))) rfl rfl ⟨Nat.le_of_ble_eq_true rfl, Nat.le_of_ble_eq_true rfl, by show _ ≤ 603072; omega, by show _ ≤ 7182442; omega⟩ (Nat.le_of_ble_eq_true rfl) (fun _ _ h => h.elim) (fun v8 p8 h8 => ?_)
  obtain ⟨a8, rfl, hb8, hm8, hk8⟩ := h8.int
  obtain ⟨hI8, f8, ho8, ha8⟩ := hG9.model hm8 hk8
  obtain ⟨fs8, hmo8⟩ := hm8.go
  refine e_istore hX iL_law_849 (by decide) ?_
  refine e_aload_n hX 2 iL_law_851 rfl rfl ?_
  refine e_callV hX iL_law_852 hmo8 (w_thrown htr hm8) rfl rfl ⟨Nat.le_of_ble_eq_true rfl, Nat.le_of_ble_eq_true rfl, by show _ ≤ 603072; omega, by show _ ≤ 7182442; omega⟩ (Nat.le_of_ble_eq_true rfl) (fun _ _ h => h.elim) (fun v7 p7 h7 => ?_)
  obtain ⟨rfl, e7⟩ := h7
  subst p7
  refine e_iload hX iL_law_855 rfl ?_
  refine e_icmp_eq hX iL_law_857 (fun c857 => ?_) (fun c857 => ?_)
  · have hK3 : (k_at σ (xs (i + 1))) ≤ 3 := by unfold k_at; (repeat' split) <;> decide
    refine e_iload hX iL_law_862 rfl ?_
    refine e_if_ne hX iL_law_864 (fun c864 => ?_) (fun c864 => ?_)
    · refine e_goto hX iL_law_879 ?_
      refine e_loc [0, 1, 2, 3, 4, 5] ?_
      refine e_wid (k' := k + 340) (n' := n + 2000) (by omega) (by omega) ?_
      exact back _ _ hI8
    · have hK : (k_at σ (xs (i + 1))) = 0 := (nI_eq (by omega) (by decide)).mp c864
      refine e_aload_n hX 3 iL_law_867 rfl rfl ?_
      refine e_iconst (v := 0) hX iL_law_868 (by decide) ?_
      refine e_lald hX 0 iL_law_869 ho8 rfl (by decide) (by decide) ?_
      refine e_iload hX iL_law_870 rfl ?_
      refine e_i2l hX iL_law_872 ?_
      refine e_lcmp hX iL_law_873 ?_
      refine e_if_eq hX iL_law_874 (fun c874 => ?_) (fun c874 => ?_)
      · refine e_goto hX iL_law_879 ?_
        refine e_loc [0, 1, 2, 3, 4, 5] ?_
        refine e_wid (k' := k + 340) (n' := n + 2000) (by omega) (by omega) ?_
        exact back _ _ hI8
      · exact absurd ((lg_cmp_eq _ _).mpr (by rw [ha8 hK, hb8 hK])) c874
  · exact absurd rfl c857
/-- case 13 -/
theorem q_addRange (htr : l.stackTraces = false) (hX : e_in cL_law RL nm 9 rt room_1 l θ x) (hN : e_nc x) (hS : e_scr θ x b L xs) (hL : L ≤ 3072) {i : Nat} (hi : i + 6 ≤ L) (hI : LI θ ph g mo μ o od σ) (hk : k + 340 ≤ 603072) (hn : n + 2000 ≤ 7182442) (back : ∀ p σ2, LI θ p g mo μ o od σ2 → EJ θ x 2943 [(0, .ref b), (1, .ref g), (2, .ref mo), (3, .ref o), (4, .ref od), (5, .int (nI i))] [] p (k + 340) (n + 2000)) : EJ θ x 882 [(0, .ref b), (1, .ref g), (2, .ref mo), (3, .ref o), (4, .ref od), (5, .int (nI i))] [] ph k n := by
  have hIo := hI.2.2.1
  obtain ⟨f0, ho0⟩ := hIo
  refine e_aload_n hX 1 iL_law_882 rfl rfl ?_
  refine e_aload_n hX 0 iL_law_883 rfl rfl ?_
  refine e_iload hX iL_law_884 rfl ?_
  refine e_iconst (v := 1) hX iL_law_886 (by decide) ?_
  refine e_iadd hX iL_law_887 ?_
  refine e_sld hX hS (i + 1) iL_law_888 (nI_add i 1) (by omega) (by omega) ?_
  refine e_aload_n hX 0 iL_law_889 rfl rfl ?_
  refine e_iload hX iL_law_890 rfl ?_
  refine e_iconst (v := 2) hX iL_law_892 (by decide) ?_
  refine e_iadd hX iL_law_893 ?_
  refine e_sld hX hS (i + 2) iL_law_894 (nI_add i 2) (by omega) (by omega) ?_
  refine e_aload_n hX 0 iL_law_895 rfl rfl ?_
  refine e_iload hX iL_law_896 rfl ?_
  refine e_iconst (v := 3) hX iL_law_898 (by decide) ?_
  refine e_iadd hX iL_law_899 ?_
  refine e_sld hX hS (i + 3) iL_law_900 (nI_add i 3) (by omega) (by omega) ?_
  refine e_aload_n hX 0 iL_law_901 rfl rfl ?_
  refine e_iload hX iL_law_902 rfl ?_
  refine e_iconst (v := 4) hX iL_law_904 (by decide) ?_
  refine e_iadd hX iL_law_905 ?_
  refine e_sld hX hS (i + 4) iL_law_906 (nI_add i 4) (by omega) (by omega) ?_
  refine e_nz hX iL_law_907 iL_law_910 iL_law_911 iL_law_914 ?_
  refine e_aload_n hX 3 iL_law_915 rfl rfl ?_
  refine e_callW hX hN iW_law_916 (l_addRange htr hI.1 (Or.inr (Or.inl rfl)) ho0 (xs (i + 1)) (xs (i + 2)) (xs (i + 3)) (nzB (xs (i + 4)))) rfl rfl ⟨Nat.le_of_ble_eq_true rfl, Nat.le_of_ble_eq_true rfl, by show _ ≤ 603072; omega, by show _ ≤ 7182442; omega⟩ (Nat.le_of_ble_eq_true rfl) (fun v9 p9 h9 => ?_)
  obtain ⟨rfl, hG9⟩ := hI.gate h9
  obtain ⟨t9, hm9⟩ := hG9.2.1
  obtain ⟨fs9, hmo9⟩ := hm9.go
  refine e_istore hX iL_law_919 (by decide) ?_
  refine e_aload_n hX 2 iL_law_921 rfl rfl ?_
  refine e_aload_n hX 0 iL_law_922 rfl rfl ?_
  refine e_iload hX iL_law_923 rfl ?_
  refine e_iconst (v := 1) hX iL_law_925 (by decide) ?_
  refine e_iadd hX iL_law_926 ?_
  refine e_sld hX hS (i + 1) iL_law_927 (nI_add i 1) (by omega) (by omega) ?_
  refine e_aload_n hX 0 iL_law_928 rfl rfl ?_
  refine e_iload hX iL_law_929 rfl ?_
  refine e_iconst (v := 2) hX iL_law_931 (by decide) ?_
  refine e_iadd hX iL_law_932 ?_
  refine e_sld hX hS (i + 2) iL_law_933 (nI_add i 2) (by omega) (by omega) ?_
  refine e_aload_n hX 0 iL_law_934 rfl rfl ?_
  refine e_iload hX iL_law_935 rfl ?_
  refine e_iconst (v := 3) hX iL_law_937 (by decide) ?_
  refine e_iadd hX iL_law_938 ?_
  refine e_sld hX hS (i + 3) iL_law_939 (nI_add i 3) (by omega) (by omega) ?_
  refine e_aload_n hX 0 iL_law_940 rfl rfl ?_
  refine e_iload hX iL_law_941 rfl ?_
  refine e_iconst (v := 4) hX iL_law_943 (by decide) ?_
  refine e_iadd hX iL_law_944 ?_
  refine e_sld hX hS (i + 4) iL_law_945 (nI_add i 4) (by omega) (by omega) ?_
  refine e_nz hX iL_law_946 iL_law_949 iL_law_950 iL_law_953 ?_
  refine e_callV hX iL_law_954 hmo9 (w_addRange htr hm9 (xs (i + 1)) (xs (i + 2)) (xs (i + 3)) (nzB (xs (i + 4)))) rfl rfl ⟨Nat.le_of_ble_eq_true rfl, Nat.le_of_ble_eq_true rfl, by show _ ≤ 603072; omega, by show _ ≤ 7182442; omega⟩ (Nat.le_of_ble_eq_true rfl) (fun _ _ h => h.elim) (fun v8 p8 h8 => ?_)
  obtain ⟨a8, rfl, hb8, hm8, hk8⟩ := h8.int
  obtain ⟨hI8, f8, ho8, ha8⟩ := hG9.model hm8 hk8
  obtain ⟨fs8, hmo8⟩ := hm8.go
  refine e_istore hX iL_law_957 (by decide) ?_
  refine e_aload_n hX 2 iL_law_959 rfl rfl ?_
  refine e_callV hX iL_law_960 hmo8 (w_thrown htr hm8) rfl rfl ⟨Nat.le_of_ble_eq_true rfl, Nat.le_of_ble_eq_true rfl, by show _ ≤ 603072; omega, by show _ ≤ 7182442; omega⟩ (Nat.le_of_ble_eq_true rfl) (fun _ _ h => h.elim) (fun v7 p7 h7 => ?_)
  obtain ⟨rfl, e7⟩ := h7
  subst p7
  refine e_iload hX iL_law_963 rfl ?_
  refine e_icmp_eq hX iL_law_965 (fun c965 => ?_) (fun c965 => ?_)
  · have hK3 : (k_rng σ (xs (i + 1)) (xs (i + 2)) (xs (i + 3))) ≤ 3 := by unfold k_rng k_add; (repeat' split) <;> decide
    refine e_iload hX iL_law_970 rfl ?_
    refine e_if_ne hX iL_law_972 (fun c972 => ?_) (fun c972 => ?_)
    · refine e_goto hX iL_law_987 ?_
      refine e_loc [0, 1, 2, 3, 4, 5] ?_
      refine e_wid (k' := k + 340) (n' := n + 2000) (by omega) (by omega) ?_
      exact back _ _ hI8
    · have hK : (k_rng σ (xs (i + 1)) (xs (i + 2)) (xs (i + 3))) = 0 := (nI_eq (by omega) (by decide)).mp c972
      refine e_aload_n hX 3 iL_law_975 rfl rfl ?_
      refine e_iconst (v := 0) hX iL_law_976 (by decide) ?_
      refine e_lald hX 0 iL_law_977 ho8 rfl (by decide) (by decide) ?_
      refine e_iload hX iL_law_978 rfl ?_
      refine e_i2l hX iL_law_980 ?_
      refine e_lcmp hX iL_law_981 ?_
      refine e_if_eq hX iL_law_982 (fun c982 => ?_) (fun c982 => ?_)
      · refine e_goto hX iL_law_987 ?_
        refine e_loc [0, 1, 2, 3, 4, 5] ?_
        refine e_wid (k' := k + 340) (n' := n + 2000) (by omega) (by omega) ?_
        exact back _ _ hI8
      · exact absurd ((lg_cmp_eq _ _).mpr (by rw [ha8 hK, hb8 hK])) c982
  · exact absurd rfl c965
/-- case 14 -/
theorem q_addRequired (htr : l.stackTraces = false) (hX : e_in cL_law RL nm 9 rt room_1 l θ x) (hN : e_nc x) (hS : e_scr θ x b L xs) (hL : L ≤ 3072) {i : Nat} (hi : i + 6 ≤ L) (hI : LI θ ph g mo μ o od σ) (hk : k + 340 ≤ 603072) (hn : n + 2000 ≤ 7182442) (back : ∀ p σ2, LI θ p g mo μ o od σ2 → EJ θ x 2943 [(0, .ref b), (1, .ref g), (2, .ref mo), (3, .ref o), (4, .ref od), (5, .int (nI i))] [] p (k + 340) (n + 2000)) : EJ θ x 990 [(0, .ref b), (1, .ref g), (2, .ref mo), (3, .ref o), (4, .ref od), (5, .int (nI i))] [] ph k n := by
  have hIo := hI.2.2.1
  obtain ⟨f0, ho0⟩ := hIo
  refine e_aload_n hX 1 iL_law_990 rfl rfl ?_
  refine e_aload_n hX 0 iL_law_991 rfl rfl ?_
  refine e_iload hX iL_law_992 rfl ?_
  refine e_iconst (v := 1) hX iL_law_994 (by decide) ?_
  refine e_iadd hX iL_law_995 ?_
  refine e_sld hX hS (i + 1) iL_law_996 (nI_add i 1) (by omega) (by omega) ?_
  refine e_aload_n hX 0 iL_law_997 rfl rfl ?_
  refine e_iload hX iL_law_998 rfl ?_
  refine e_iconst (v := 2) hX iL_law_1000 (by decide) ?_
  refine e_iadd hX iL_law_1001 ?_
  refine e_sld hX hS (i + 2) iL_law_1002 (nI_add i 2) (by omega) (by omega) ?_
  refine e_nz hX iL_law_1003 iL_law_1006 iL_law_1007 iL_law_1010 ?_
  refine e_aload_n hX 3 iL_law_1011 rfl rfl ?_
  refine e_callW hX hN iW_law_1012 (l_addRequired htr hI.1 (Or.inr (Or.inl rfl)) ho0 (xs (i + 1)) (nzB (xs (i + 2)))) rfl rfl ⟨Nat.le_of_ble_eq_true rfl, Nat.le_of_ble_eq_true rfl, by show _ ≤ 603072; omega, by show _ ≤ 7182442; omega⟩ (Nat.le_of_ble_eq_true rfl) (fun v9 p9 h9 => ?_)
  obtain ⟨rfl, hG9⟩ := hI.gate h9
  obtain ⟨t9, hm9⟩ := hG9.2.1
  obtain ⟨fs9, hmo9⟩ := hm9.go
  refine e_istore hX iL_law_1015 (by decide) ?_
  refine e_aload_n hX 2 iL_law_1017 rfl rfl ?_
  refine e_aload_n hX 0 iL_law_1018 rfl rfl ?_
  refine e_iload hX iL_law_1019 rfl ?_
  refine e_iconst (v := 1) hX iL_law_1021 (by decide) ?_
  refine e_iadd hX iL_law_1022 ?_
  refine e_sld hX hS (i + 1) iL_law_1023 (nI_add i 1) (by omega) (by omega) ?_
  refine e_aload_n hX 0 iL_law_1024 rfl rfl ?_
  refine e_iload hX iL_law_1025 rfl ?_
  refine e_iconst (v := 2) hX iL_law_1027 (by decide) ?_
  refine e_iadd hX iL_law_1028 ?_
  refine e_sld hX hS (i + 2) iL_law_1029 (nI_add i 2) (by omega) (by omega) ?_
  refine e_nz hX iL_law_1030 iL_law_1033 iL_law_1034 iL_law_1037 ?_
  refine e_callV hX iL_law_1038 hmo9 (w_addRequired htr hm9 (xs (i + 1)) (nzB (xs (i + 2)))) rfl rfl ⟨Nat.le_of_ble_eq_true rfl, Nat.le_of_ble_eq_true rfl, by show _ ≤ 603072; omega, by show _ ≤ 7182442; omega⟩ (Nat.le_of_ble_eq_true rfl) (fun _ _ h => h.elim) (fun v8 p8 h8 => ?_)
  obtain ⟨a8, rfl, hb8, hm8, hk8⟩ := h8.int
  obtain ⟨hI8, f8, ho8, ha8⟩ := hG9.model hm8 hk8
  obtain ⟨fs8, hmo8⟩ := hm8.go
  refine e_istore hX iL_law_1041 (by decide) ?_
  refine e_aload_n hX 2 iL_law_1043 rfl rfl ?_
  refine e_callV hX iL_law_1044 hmo8 (w_thrown htr hm8) rfl rfl ⟨Nat.le_of_ble_eq_true rfl, Nat.le_of_ble_eq_true rfl, by show _ ≤ 603072; omega, by show _ ≤ 7182442; omega⟩ (Nat.le_of_ble_eq_true rfl) (fun _ _ h => h.elim) (fun v7 p7 h7 => ?_)
  obtain ⟨rfl, e7⟩ := h7
  subst p7
  refine e_iload hX iL_law_1047 rfl ?_
  refine e_icmp_eq hX iL_law_1049 (fun c1049 => ?_) (fun c1049 => ?_)
  · have hK3 : (k_req σ (xs (i + 1))) ≤ 3 := by unfold k_req k_add; (repeat' split) <;> decide
    refine e_iload hX iL_law_1054 rfl ?_
    refine e_if_ne hX iL_law_1056 (fun c1056 => ?_) (fun c1056 => ?_)
    · refine e_goto hX iL_law_1071 ?_
      refine e_loc [0, 1, 2, 3, 4, 5] ?_
      refine e_wid (k' := k + 340) (n' := n + 2000) (by omega) (by omega) ?_
      exact back _ _ hI8
    · have hK : (k_req σ (xs (i + 1))) = 0 := (nI_eq (by omega) (by decide)).mp c1056
      refine e_aload_n hX 3 iL_law_1059 rfl rfl ?_
      refine e_iconst (v := 0) hX iL_law_1060 (by decide) ?_
      refine e_lald hX 0 iL_law_1061 ho8 rfl (by decide) (by decide) ?_
      refine e_iload hX iL_law_1062 rfl ?_
      refine e_i2l hX iL_law_1064 ?_
      refine e_lcmp hX iL_law_1065 ?_
      refine e_if_eq hX iL_law_1066 (fun c1066 => ?_) (fun c1066 => ?_)
      · refine e_goto hX iL_law_1071 ?_
        refine e_loc [0, 1, 2, 3, 4, 5] ?_
        refine e_wid (k' := k + 340) (n' := n + 2000) (by omega) (by omega) ?_
        exact back _ _ hI8
      · exact absurd ((lg_cmp_eq _ _).mpr (by rw [ha8 hK, hb8 hK])) c1066
  · exact absurd rfl c1049
/-- case 15 -/
theorem q_addOrder (htr : l.stackTraces = false) (hX : e_in cL_law RL nm 9 rt room_1 l θ x) (hN : e_nc x) (hS : e_scr θ x b L xs) (hL : L ≤ 3072) {i : Nat} (hi : i + 6 ≤ L) (hI : LI θ ph g mo μ o od σ) (hk : k + 340 ≤ 603072) (hn : n + 2000 ≤ 7182442) (back : ∀ p σ2, LI θ p g mo μ o od σ2 → EJ θ x 2943 [(0, .ref b), (1, .ref g), (2, .ref mo), (3, .ref o), (4, .ref od), (5, .int (nI i))] [] p (k + 340) (n + 2000)) : EJ θ x 1074 [(0, .ref b), (1, .ref g), (2, .ref mo), (3, .ref o), (4, .ref od), (5, .int (nI i))] [] ph k n := by
  have hIo := hI.2.2.1
  obtain ⟨f0, ho0⟩ := hIo
  refine e_aload_n hX 1 iL_law_1074 rfl rfl ?_
  refine e_aload_n hX 0 iL_law_1075 rfl rfl ?_
  refine e_iload hX iL_law_1076 rfl ?_
  refine e_iconst (v := 1) hX iL_law_1078 (by decide) ?_
  refine e_iadd hX iL_law_1079 ?_
  refine e_sld hX hS (i + 1) iL_law_1080 (nI_add i 1) (by omega) (by omega) ?_
  refine e_aload_n hX 0 iL_law_1081 rfl rfl ?_
  refine e_iload hX iL_law_1082 rfl ?_
  refine e_iconst (v := 2) hX iL_law_1084 (by decide) ?_
  refine e_iadd hX iL_law_1085 ?_
  refine e_sld hX hS (i + 2) iL_law_1086 (nI_add i 2) (by omega) (by omega) ?_
  refine e_aload_n hX 0 iL_law_1087 rfl rfl ?_
  refine e_iload hX iL_law_1088 rfl ?_
  refine e_iconst (v := 3) hX iL_law_1090 (by decide) ?_
  refine e_iadd hX iL_law_1091 ?_
  refine e_sld hX hS (i + 3) iL_law_1092 (nI_add i 3) (by omega) (by omega) ?_
  refine e_nz hX iL_law_1093 iL_law_1096 iL_law_1097 iL_law_1100 ?_
  refine e_aload_n hX 3 iL_law_1101 rfl rfl ?_
  refine e_callW hX hN iW_law_1102 (l_addOrder htr hI.1 (Or.inr (Or.inl rfl)) ho0 (xs (i + 1)) (xs (i + 2)) (nzB (xs (i + 3)))) rfl rfl ⟨Nat.le_of_ble_eq_true rfl, Nat.le_of_ble_eq_true rfl, by show _ ≤ 603072; omega, by show _ ≤ 7182442; omega⟩ (Nat.le_of_ble_eq_true rfl) (fun v9 p9 h9 => ?_)
  obtain ⟨rfl, hG9⟩ := hI.gate h9
  obtain ⟨t9, hm9⟩ := hG9.2.1
  obtain ⟨fs9, hmo9⟩ := hm9.go
  refine e_istore hX iL_law_1105 (by decide) ?_
  refine e_aload_n hX 2 iL_law_1107 rfl rfl ?_
  refine e_aload_n hX 0 iL_law_1108 rfl rfl ?_
  refine e_iload hX iL_law_1109 rfl ?_
  refine e_iconst (v := 1) hX iL_law_1111 (by decide) ?_
  refine e_iadd hX iL_law_1112 ?_
  refine e_sld hX hS (i + 1) iL_law_1113 (nI_add i 1) (by omega) (by omega) ?_
  refine e_aload_n hX 0 iL_law_1114 rfl rfl ?_
  refine e_iload hX iL_law_1115 rfl ?_
  refine e_iconst (v := 2) hX iL_law_1117 (by decide) ?_
  refine e_iadd hX iL_law_1118 ?_
  refine e_sld hX hS (i + 2) iL_law_1119 (nI_add i 2) (by omega) (by omega) ?_
  refine e_aload_n hX 0 iL_law_1120 rfl rfl ?_
  refine e_iload hX iL_law_1121 rfl ?_
  refine e_iconst (v := 3) hX iL_law_1123 (by decide) ?_
  refine e_iadd hX iL_law_1124 ?_
  refine e_sld hX hS (i + 3) iL_law_1125 (nI_add i 3) (by omega) (by omega) ?_
  refine e_nz hX iL_law_1126 iL_law_1129 iL_law_1130 iL_law_1133 ?_
  refine e_callV hX iL_law_1134 hmo9 (w_addOrder htr hm9 (xs (i + 1)) (xs (i + 2)) (nzB (xs (i + 3)))) rfl rfl ⟨Nat.le_of_ble_eq_true rfl, Nat.le_of_ble_eq_true rfl, by show _ ≤ 603072; omega, by show _ ≤ 7182442; omega⟩ (Nat.le_of_ble_eq_true rfl) (fun _ _ h => h.elim) (fun v8 p8 h8 => ?_)
  obtain ⟨a8, rfl, hb8, hm8, hk8⟩ := h8.int
  obtain ⟨hI8, f8, ho8, ha8⟩ := hG9.model hm8 hk8
  obtain ⟨fs8, hmo8⟩ := hm8.go
  refine e_istore hX iL_law_1137 (by decide) ?_
  refine e_aload_n hX 2 iL_law_1139 rfl rfl ?_
  refine e_callV hX iL_law_1140 hmo8 (w_thrown htr hm8) rfl rfl ⟨Nat.le_of_ble_eq_true rfl, Nat.le_of_ble_eq_true rfl, by show _ ≤ 603072; omega, by show _ ≤ 7182442; omega⟩ (Nat.le_of_ble_eq_true rfl) (fun _ _ h => h.elim) (fun v7 p7 h7 => ?_)
  obtain ⟨rfl, e7⟩ := h7
  subst p7
  refine e_iload hX iL_law_1143 rfl ?_
  refine e_icmp_eq hX iL_law_1145 (fun c1145 => ?_) (fun c1145 => ?_)
  · have hK3 : (k_ord σ (xs (i + 1)) (xs (i + 2))) ≤ 3 := by unfold k_ord k_add; (repeat' split) <;> decide
    refine e_iload hX iL_law_1150 rfl ?_
    refine e_if_ne hX iL_law_1152 (fun c1152 => ?_) (fun c1152 => ?_)
    · refine e_goto hX iL_law_1167 ?_
      refine e_loc [0, 1, 2, 3, 4, 5] ?_
      refine e_wid (k' := k + 340) (n' := n + 2000) (by omega) (by omega) ?_
      exact back _ _ hI8
    · have hK : (k_ord σ (xs (i + 1)) (xs (i + 2))) = 0 := (nI_eq (by omega) (by decide)).mp c1152
      refine e_aload_n hX 3 iL_law_1155 rfl rfl ?_
      refine e_iconst (v := 0) hX iL_law_1156 (by decide) ?_
      refine e_lald hX 0 iL_law_1157 ho8 rfl (by decide) (by decide) ?_
      refine e_iload hX iL_law_1158 rfl ?_
      refine e_i2l hX iL_law_1160 ?_
      refine e_lcmp hX iL_law_1161 ?_
      refine e_if_eq hX iL_law_1162 (fun c1162 => ?_) (fun c1162 => ?_)
      · refine e_goto hX iL_law_1167 ?_
        refine e_loc [0, 1, 2, 3, 4, 5] ?_
        refine e_wid (k' := k + 340) (n' := n + 2000) (by omega) (by omega) ?_
        exact back _ _ hI8
      · exact absurd ((lg_cmp_eq _ _).mpr (by rw [ha8 hK, hb8 hK])) c1162
  · exact absurd rfl c1145
/-- case 16 -/
theorem q_addUnique (htr : l.stackTraces = false) (hX : e_in cL_law RL nm 9 rt room_1 l θ x) (hN : e_nc x) (hS : e_scr θ x b L xs) (hL : L ≤ 3072) {i : Nat} (hi : i + 6 ≤ L) (hI : LI θ ph g mo μ o od σ) (hk : k + 340 ≤ 603072) (hn : n + 2000 ≤ 7182442) (back : ∀ p σ2, LI θ p g mo μ o od σ2 → EJ θ x 2943 [(0, .ref b), (1, .ref g), (2, .ref mo), (3, .ref o), (4, .ref od), (5, .int (nI i))] [] p (k + 340) (n + 2000)) : EJ θ x 1170 [(0, .ref b), (1, .ref g), (2, .ref mo), (3, .ref o), (4, .ref od), (5, .int (nI i))] [] ph k n := by
  have hIo := hI.2.2.1
  obtain ⟨f0, ho0⟩ := hIo
  refine e_aload_n hX 1 iL_law_1170 rfl rfl ?_
  refine e_aload_n hX 0 iL_law_1171 rfl rfl ?_
  refine e_iload hX iL_law_1172 rfl ?_
  refine e_iconst (v := 1) hX iL_law_1174 (by decide) ?_
  refine e_iadd hX iL_law_1175 ?_
  refine e_sld hX hS (i + 1) iL_law_1176 (nI_add i 1) (by omega) (by omega) ?_
  refine e_aload_n hX 0 iL_law_1177 rfl rfl ?_
  refine e_iload hX iL_law_1178 rfl ?_
  refine e_iconst (v := 2) hX iL_law_1180 (by decide) ?_
  refine e_iadd hX iL_law_1181 ?_
  refine e_sld hX hS (i + 2) iL_law_1182 (nI_add i 2) (by omega) (by omega) ?_
  refine e_nz hX iL_law_1183 iL_law_1186 iL_law_1187 iL_law_1190 ?_
  refine e_aload_n hX 3 iL_law_1191 rfl rfl ?_
  refine e_callW hX hN iW_law_1192 (l_addUnique htr hI.1 (Or.inr (Or.inl rfl)) ho0 (xs (i + 1)) (nzB (xs (i + 2)))) rfl rfl ⟨Nat.le_of_ble_eq_true rfl, Nat.le_of_ble_eq_true rfl, by show _ ≤ 603072; omega, by show _ ≤ 7182442; omega⟩ (Nat.le_of_ble_eq_true rfl) (fun v9 p9 h9 => ?_)
  obtain ⟨rfl, hG9⟩ := hI.gate h9
  obtain ⟨t9, hm9⟩ := hG9.2.1
  obtain ⟨fs9, hmo9⟩ := hm9.go
  refine e_istore hX iL_law_1195 (by decide) ?_
  refine e_aload_n hX 2 iL_law_1197 rfl rfl ?_
  refine e_aload_n hX 0 iL_law_1198 rfl rfl ?_
  refine e_iload hX iL_law_1199 rfl ?_
  refine e_iconst (v := 1) hX iL_law_1201 (by decide) ?_
  refine e_iadd hX iL_law_1202 ?_
  refine e_sld hX hS (i + 1) iL_law_1203 (nI_add i 1) (by omega) (by omega) ?_
  refine e_aload_n hX 0 iL_law_1204 rfl rfl ?_
  refine e_iload hX iL_law_1205 rfl ?_
  refine e_iconst (v := 2) hX iL_law_1207 (by decide) ?_
  refine e_iadd hX iL_law_1208 ?_
  refine e_sld hX hS (i + 2) iL_law_1209 (nI_add i 2) (by omega) (by omega) ?_
  refine e_nz hX iL_law_1210 iL_law_1213 iL_law_1214 iL_law_1217 ?_
  refine e_callV hX iL_law_1218 hmo9 (w_addUnique htr hm9 (xs (i + 1)) (nzB (xs (i + 2)))) rfl rfl ⟨Nat.le_of_ble_eq_true rfl, Nat.le_of_ble_eq_true rfl, by show _ ≤ 603072; omega, by show _ ≤ 7182442; omega⟩ (Nat.le_of_ble_eq_true rfl) (fun _ _ h => h.elim) (fun v8 p8 h8 => ?_)
  obtain ⟨a8, rfl, hb8, hm8, hk8⟩ := h8.int
  obtain ⟨hI8, f8, ho8, ha8⟩ := hG9.model hm8 hk8
  obtain ⟨fs8, hmo8⟩ := hm8.go
  refine e_istore hX iL_law_1221 (by decide) ?_
  refine e_aload_n hX 2 iL_law_1223 rfl rfl ?_
  refine e_callV hX iL_law_1224 hmo8 (w_thrown htr hm8) rfl rfl ⟨Nat.le_of_ble_eq_true rfl, Nat.le_of_ble_eq_true rfl, by show _ ≤ 603072; omega, by show _ ≤ 7182442; omega⟩ (Nat.le_of_ble_eq_true rfl) (fun _ _ h => h.elim) (fun v7 p7 h7 => ?_)
  obtain ⟨rfl, e7⟩ := h7
  subst p7
  refine e_iload hX iL_law_1227 rfl ?_
  refine e_icmp_eq hX iL_law_1229 (fun c1229 => ?_) (fun c1229 => ?_)
  · have hK3 : (k_req σ (xs (i + 1))) ≤ 3 := by unfold k_req k_add; (repeat' split) <;> decide
    refine e_iload hX iL_law_1234 rfl ?_
    refine e_if_ne hX iL_law_1236 (fun c1236 => ?_) (fun c1236 => ?_)
    · refine e_goto hX iL_law_1251 ?_
      refine e_loc [0, 1, 2, 3, 4, 5] ?_
      refine e_wid (k' := k + 340) (n' := n + 2000) (by omega) (by omega) ?_
      exact back _ _ hI8
    · have hK : (k_req σ (xs (i + 1))) = 0 := (nI_eq (by omega) (by decide)).mp c1236
      refine e_aload_n hX 3 iL_law_1239 rfl rfl ?_
      refine e_iconst (v := 0) hX iL_law_1240 (by decide) ?_
      refine e_lald hX 0 iL_law_1241 ho8 rfl (by decide) (by decide) ?_
      refine e_iload hX iL_law_1242 rfl ?_
      refine e_i2l hX iL_law_1244 ?_
      refine e_lcmp hX iL_law_1245 ?_
      refine e_if_eq hX iL_law_1246 (fun c1246 => ?_) (fun c1246 => ?_)
      · refine e_goto hX iL_law_1251 ?_
        refine e_loc [0, 1, 2, 3, 4, 5] ?_
        refine e_wid (k' := k + 340) (n' := n + 2000) (by omega) (by omega) ?_
        exact back _ _ hI8
      · exact absurd ((lg_cmp_eq _ _).mpr (by rw [ha8 hK, hb8 hK])) c1246
  · exact absurd rfl c1229
/-- case 17 -/
theorem q_addDependency (htr : l.stackTraces = false) (hX : e_in cL_law RL nm 9 rt room_1 l θ x) (hN : e_nc x) (hS : e_scr θ x b L xs) (hL : L ≤ 3072) {i : Nat} (hi : i + 6 ≤ L) (hI : LI θ ph g mo μ o od σ) (hk : k + 340 ≤ 603072) (hn : n + 2000 ≤ 7182442) (back : ∀ p σ2, LI θ p g mo μ o od σ2 → EJ θ x 2943 [(0, .ref b), (1, .ref g), (2, .ref mo), (3, .ref o), (4, .ref od), (5, .int (nI i))] [] p (k + 340) (n + 2000)) : EJ θ x 1254 [(0, .ref b), (1, .ref g), (2, .ref mo), (3, .ref o), (4, .ref od), (5, .int (nI i))] [] ph k n := by
  have hIo := hI.2.2.1
  obtain ⟨f0, ho0⟩ := hIo
  refine e_aload_n hX 1 iL_law_1254 rfl rfl ?_
  refine e_aload_n hX 0 iL_law_1255 rfl rfl ?_
  refine e_iload hX iL_law_1256 rfl ?_
  refine e_iconst (v := 1) hX iL_law_1258 (by decide) ?_
  refine e_iadd hX iL_law_1259 ?_
  refine e_sld hX hS (i + 1) iL_law_1260 (nI_add i 1) (by omega) (by omega) ?_
  refine e_aload_n hX 0 iL_law_1261 rfl rfl ?_
  refine e_iload hX iL_law_1262 rfl ?_
  refine e_iconst (v := 2) hX iL_law_1264 (by decide) ?_
  refine e_iadd hX iL_law_1265 ?_
  refine e_sld hX hS (i + 2) iL_law_1266 (nI_add i 2) (by omega) (by omega) ?_
  refine e_aload_n hX 0 iL_law_1267 rfl rfl ?_
  refine e_iload hX iL_law_1268 rfl ?_
  refine e_iconst (v := 3) hX iL_law_1270 (by decide) ?_
  refine e_iadd hX iL_law_1271 ?_
  refine e_sld hX hS (i + 3) iL_law_1272 (nI_add i 3) (by omega) (by omega) ?_
  refine e_nz hX iL_law_1273 iL_law_1276 iL_law_1277 iL_law_1280 ?_
  refine e_aload_n hX 3 iL_law_1281 rfl rfl ?_
  refine e_callW hX hN iW_law_1282 (l_addDependency htr hI.1 (Or.inr (Or.inl rfl)) ho0 (xs (i + 1)) (xs (i + 2)) (nzB (xs (i + 3)))) rfl rfl ⟨Nat.le_of_ble_eq_true rfl, Nat.le_of_ble_eq_true rfl, by show _ ≤ 603072; omega, by show _ ≤ 7182442; omega⟩ (Nat.le_of_ble_eq_true rfl) (fun v9 p9 h9 => ?_)
  obtain ⟨rfl, hG9⟩ := hI.gate h9
  obtain ⟨t9, hm9⟩ := hG9.2.1
  obtain ⟨fs9, hmo9⟩ := hm9.go
  refine e_istore hX iL_law_1285 (by decide) ?_
  refine e_aload_n hX 2 iL_law_1287 rfl rfl ?_
  refine e_aload_n hX 0 iL_law_1288 rfl rfl ?_
  refine e_iload hX iL_law_1289 rfl ?_
  refine e_iconst (v := 1) hX iL_law_1291 (by decide) ?_
  refine e_iadd hX iL_law_1292 ?_
  refine e_sld hX hS (i + 1) iL_law_1293 (nI_add i 1) (by omega) (by omega) ?_
  refine e_aload_n hX 0 iL_law_1294 rfl rfl ?_
  refine e_iload hX iL_law_1295 rfl ?_
  refine e_iconst (v := 2) hX iL_law_1297 (by decide) ?_
  refine e_iadd hX iL_law_1298 ?_
  refine e_sld hX hS (i + 2) iL_law_1299 (nI_add i 2) (by omega) (by omega) ?_
  refine e_aload_n hX 0 iL_law_1300 rfl rfl ?_
  refine e_iload hX iL_law_1301 rfl ?_
  refine e_iconst (v := 3) hX iL_law_1303 (by decide) ?_
  refine e_iadd hX iL_law_1304 ?_
  refine e_sld hX hS (i + 3) iL_law_1305 (nI_add i 3) (by omega) (by omega) ?_
  refine e_nz hX iL_law_1306 iL_law_1309 iL_law_1310 iL_law_1313 ?_
  refine e_callV hX iL_law_1314 hmo9 (w_addDependency htr hm9 (xs (i + 1)) (xs (i + 2)) (nzB (xs (i + 3)))) rfl rfl ⟨Nat.le_of_ble_eq_true rfl, Nat.le_of_ble_eq_true rfl, by show _ ≤ 603072; omega, by show _ ≤ 7182442; omega⟩ (Nat.le_of_ble_eq_true rfl) (fun _ _ h => h.elim) (fun v8 p8 h8 => ?_)
  obtain ⟨a8, rfl, hb8, hm8, hk8⟩ := h8.int
  obtain ⟨hI8, f8, ho8, ha8⟩ := hG9.model hm8 hk8
  obtain ⟨fs8, hmo8⟩ := hm8.go
  refine e_istore hX iL_law_1317 (by decide) ?_
  refine e_aload_n hX 2 iL_law_1319 rfl rfl ?_
  refine e_callV hX iL_law_1320 hmo8 (w_thrown htr hm8) rfl rfl ⟨Nat.le_of_ble_eq_true rfl, Nat.le_of_ble_eq_true rfl, by show _ ≤ 603072; omega, by show _ ≤ 7182442; omega⟩ (Nat.le_of_ble_eq_true rfl) (fun _ _ h => h.elim) (fun v7 p7 h7 => ?_)
  obtain ⟨rfl, e7⟩ := h7
  subst p7
  refine e_iload hX iL_law_1323 rfl ?_
  refine e_icmp_eq hX iL_law_1325 (fun c1325 => ?_) (fun c1325 => ?_)
  · have hK3 : (k_dep σ (xs (i + 1)) (xs (i + 2))) ≤ 3 := by unfold k_dep k_add; (repeat' split) <;> decide
    refine e_iload hX iL_law_1330 rfl ?_
    refine e_if_ne hX iL_law_1332 (fun c1332 => ?_) (fun c1332 => ?_)
    · refine e_goto hX iL_law_1347 ?_
      refine e_loc [0, 1, 2, 3, 4, 5] ?_
      refine e_wid (k' := k + 340) (n' := n + 2000) (by omega) (by omega) ?_
      exact back _ _ hI8
    · have hK : (k_dep σ (xs (i + 1)) (xs (i + 2))) = 0 := (nI_eq (by omega) (by decide)).mp c1332
      refine e_aload_n hX 3 iL_law_1335 rfl rfl ?_
      refine e_iconst (v := 0) hX iL_law_1336 (by decide) ?_
      refine e_lald hX 0 iL_law_1337 ho8 rfl (by decide) (by decide) ?_
      refine e_iload hX iL_law_1338 rfl ?_
      refine e_i2l hX iL_law_1340 ?_
      refine e_lcmp hX iL_law_1341 ?_
      refine e_if_eq hX iL_law_1342 (fun c1342 => ?_) (fun c1342 => ?_)
      · refine e_goto hX iL_law_1347 ?_
        refine e_loc [0, 1, 2, 3, 4, 5] ?_
        refine e_wid (k' := k + 340) (n' := n + 2000) (by omega) (by omega) ?_
        exact back _ _ hI8
      · exact absurd ((lg_cmp_eq _ _).mpr (by rw [ha8 hK, hb8 hK])) c1342
  · exact absurd rfl c1325
/-- case 18 -/
theorem q_dropRule (htr : l.stackTraces = false) (hX : e_in cL_law RL nm 9 rt room_1 l θ x) (hN : e_nc x) (hS : e_scr θ x b L xs) (hL : L ≤ 3072) {i : Nat} (hi : i + 6 ≤ L) (hI : LI θ ph g mo μ o od σ) (hk : k + 340 ≤ 603072) (hn : n + 2000 ≤ 7182442) (back : ∀ p σ2, LI θ p g mo μ o od σ2 → EJ θ x 2943 [(0, .ref b), (1, .ref g), (2, .ref mo), (3, .ref o), (4, .ref od), (5, .int (nI i))] [] p (k + 340) (n + 2000)) : EJ θ x 1350 [(0, .ref b), (1, .ref g), (2, .ref mo), (3, .ref o), (4, .ref od), (5, .int (nI i))] [] ph k n := by
  have hIo := hI.2.2.1
  obtain ⟨f0, ho0⟩ := hIo
  refine e_aload_n hX 1 iL_law_1350 rfl rfl ?_
  refine e_aload_n hX 0 iL_law_1351 rfl rfl ?_
  refine e_iload hX iL_law_1352 rfl ?_
  refine e_iconst (v := 1) hX iL_law_1354 (by decide) ?_
  refine e_iadd hX iL_law_1355 ?_
  refine e_sld hX hS (i + 1) iL_law_1356 (nI_add i 1) (by omega) (by omega) ?_
  refine e_aload_n hX 3 iL_law_1357 rfl rfl ?_
  refine e_callW hX hN iW_law_1358 (l_dropRule htr hI.1 (Or.inr (Or.inl rfl)) ho0 (xs (i + 1))) rfl rfl ⟨Nat.le_of_ble_eq_true rfl, Nat.le_of_ble_eq_true rfl, by show _ ≤ 603072; omega, by show _ ≤ 7182442; omega⟩ (Nat.le_of_ble_eq_true rfl) (fun v9 p9 h9 => ?_)
  obtain ⟨rfl, hG9⟩ := hI.gate h9
  obtain ⟨t9, hm9⟩ := hG9.2.1
  obtain ⟨fs9, hmo9⟩ := hm9.go
  refine e_istore hX iL_law_1361 (by decide) ?_
  refine e_aload_n hX 2 iL_law_1363 rfl rfl ?_
  refine e_aload_n hX 0 iL_law_1364 rfl rfl ?_
  refine e_iload hX iL_law_1365 rfl ?_
  refine e_iconst (v := 1) hX iL_law_1367 (by decide) ?_
  refine e_iadd hX iL_law_1368 ?_
  refine e_sld hX hS (i + 1) iL_law_1369 (nI_add i 1) (by omega) (by omega) ?_
  refine e_callV hX iL_law_1370 hmo9 (w_dropRule htr hm9 (xs (i + 1))) rfl rfl ⟨Nat.le_of_ble_eq_true rfl, Nat.le_of_ble_eq_true rfl, by show _ ≤ 603072; omega, by show _ ≤ 7182442; omega⟩ (Nat.le_of_ble_eq_true rfl) (fun _ _ h => h.elim) (fun v8 p8 h8 => ?_)
  obtain ⟨a8, rfl, hb8, hm8, hk8⟩ := h8.int
  obtain ⟨hI8, f8, ho8, ha8⟩ := hG9.model hm8 hk8
  obtain ⟨fs8, hmo8⟩ := hm8.go
  refine e_istore hX iL_law_1373 (by decide) ?_
  refine e_aload_n hX 2 iL_law_1375 rfl rfl ?_
  refine e_callV hX iL_law_1376 hmo8 (w_thrown htr hm8) rfl rfl ⟨Nat.le_of_ble_eq_true rfl, Nat.le_of_ble_eq_true rfl, by show _ ≤ 603072; omega, by show _ ≤ 7182442; omega⟩ (Nat.le_of_ble_eq_true rfl) (fun _ _ h => h.elim) (fun v7 p7 h7 => ?_)
  obtain ⟨rfl, e7⟩ := h7
  subst p7
  refine e_iload hX iL_law_1379 rfl ?_
  refine e_icmp_eq hX iL_law_1381 (fun c1381 => ?_) (fun c1381 => ?_)
  · have hK3 : (k_rule σ (xs (i + 1))) ≤ 3 := by unfold k_rule; (repeat' split) <;> decide
    refine e_iload hX iL_law_1386 rfl ?_
    refine e_if_ne hX iL_law_1388 (fun c1388 => ?_) (fun c1388 => ?_)
    · refine e_goto hX iL_law_1403 ?_
      refine e_loc [0, 1, 2, 3, 4, 5] ?_
      refine e_wid (k' := k + 340) (n' := n + 2000) (by omega) (by omega) ?_
      exact back _ _ hI8
    · have hK : (k_rule σ (xs (i + 1))) = 0 := (nI_eq (by omega) (by decide)).mp c1388
      refine e_aload_n hX 3 iL_law_1391 rfl rfl ?_
      refine e_iconst (v := 0) hX iL_law_1392 (by decide) ?_
      refine e_lald hX 0 iL_law_1393 ho8 rfl (by decide) (by decide) ?_
      refine e_iload hX iL_law_1394 rfl ?_
      refine e_i2l hX iL_law_1396 ?_
      refine e_lcmp hX iL_law_1397 ?_
      refine e_if_eq hX iL_law_1398 (fun c1398 => ?_) (fun c1398 => ?_)
      · refine e_goto hX iL_law_1403 ?_
        refine e_loc [0, 1, 2, 3, 4, 5] ?_
        refine e_wid (k' := k + 340) (n' := n + 2000) (by omega) (by omega) ?_
        exact back _ _ hI8
      · exact absurd ((lg_cmp_eq _ _).mpr (by rw [ha8 hK, hb8 hK])) c1398
  · exact absurd rfl c1381
/-- case 19 -/
theorem q_violations (htr : l.stackTraces = false) (hX : e_in cL_law RL nm 9 rt room_1 l θ x) (hN : e_nc x) (hS : e_scr θ x b L xs) (hL : L ≤ 3072) {i : Nat} (hi : i + 6 ≤ L) (hI : LI θ ph g mo μ o od σ) (hk : k + 340 ≤ 603072) (hn : n + 2000 ≤ 7182442) (back : ∀ p σ2, LI θ p g mo μ o od σ2 → EJ θ x 2943 [(0, .ref b), (1, .ref g), (2, .ref mo), (3, .ref o), (4, .ref od), (5, .int (nI i))] [] p (k + 340) (n + 2000)) : EJ θ x 1406 [(0, .ref b), (1, .ref g), (2, .ref mo), (3, .ref o), (4, .ref od), (5, .int (nI i))] [] ph k n := by
  have hIo := hI.2.2.1
  obtain ⟨f0, ho0⟩ := hIo
  refine e_aload_n hX 1 iL_law_1406 rfl rfl ?_
  refine e_aload_n hX 0 iL_law_1407 rfl rfl ?_
  refine e_iload hX iL_law_1408 rfl ?_
  refine e_iconst (v := 1) hX iL_law_1410 (by decide) ?_
  refine e_iadd hX iL_law_1411 ?_
  refine e_sld hX hS (i + 1) iL_law_1412 (nI_add i 1) (by omega) (by omega) ?_
  refine e_aload_n hX 3 iL_law_1413 rfl rfl ?_
  refine e_callW hX hN iW_law_1414 (l_violations htr hI.1 (Or.inr (Or.inl rfl)) ho0 (xs (i + 1))) rfl rfl ⟨Nat.le_of_ble_eq_true rfl, Nat.le_of_ble_eq_true rfl, by show _ ≤ 603072; omega, by show _ ≤ 7182442; omega⟩ (Nat.le_of_ble_eq_true rfl) (fun v9 p9 h9 => ?_)
  obtain ⟨rfl, hG9⟩ := hI.gate h9
  rw [ite_self] at hG9
  obtain ⟨t9, hm9⟩ := hG9.2.1
  obtain ⟨fs9, hmo9⟩ := hm9.go
  refine e_istore hX iL_law_1417 (by decide) ?_
  refine e_aload_n hX 2 iL_law_1419 rfl rfl ?_
  refine e_aload_n hX 0 iL_law_1420 rfl rfl ?_
  refine e_iload hX iL_law_1421 rfl ?_
  refine e_iconst (v := 1) hX iL_law_1423 (by decide) ?_
  refine e_iadd hX iL_law_1424 ?_
  refine e_sld hX hS (i + 1) iL_law_1425 (nI_add i 1) (by omega) (by omega) ?_
  refine e_callV hX iL_law_1426 hmo9 (w_violations htr hm9 (xs (i + 1))) rfl rfl ⟨Nat.le_of_ble_eq_true rfl, Nat.le_of_ble_eq_true rfl, by show _ ≤ 603072; omega, by show _ ≤ 7182442; omega⟩ (Nat.le_of_ble_eq_true rfl) (fun _ _ h => h.elim) (fun v8 p8 h8 => ?_)
  obtain ⟨a8, rfl, hb8, hm8, hk8⟩ := h8.int
  obtain ⟨hI8, f8, ho8, ha8⟩ := hG9.model hm8 hk8
  obtain ⟨fs8, hmo8⟩ := hm8.go
  refine e_istore hX iL_law_1429 (by decide) ?_
  refine e_aload_n hX 2 iL_law_1431 rfl rfl ?_
  refine e_callV hX iL_law_1432 hmo8 (w_thrown htr hm8) rfl rfl ⟨Nat.le_of_ble_eq_true rfl, Nat.le_of_ble_eq_true rfl, by show _ ≤ 603072; omega, by show _ ≤ 7182442; omega⟩ (Nat.le_of_ble_eq_true rfl) (fun _ _ h => h.elim) (fun v7 p7 h7 => ?_)
  obtain ⟨rfl, e7⟩ := h7
  subst p7
  refine e_iload hX iL_law_1435 rfl ?_
  refine e_icmp_eq hX iL_law_1437 (fun c1437 => ?_) (fun c1437 => ?_)
  · have hK3 : (k_rule σ (xs (i + 1))) ≤ 3 := by unfold k_rule; (repeat' split) <;> decide
    refine e_iload hX iL_law_1442 rfl ?_
    refine e_if_ne hX iL_law_1444 (fun c1444 => ?_) (fun c1444 => ?_)
    · refine e_goto hX iL_law_1459 ?_
      refine e_loc [0, 1, 2, 3, 4, 5] ?_
      refine e_wid (k' := k + 340) (n' := n + 2000) (by omega) (by omega) ?_
      exact back _ _ hI8
    · have hK : (k_rule σ (xs (i + 1))) = 0 := (nI_eq (by omega) (by decide)).mp c1444
      refine e_aload_n hX 3 iL_law_1447 rfl rfl ?_
      refine e_iconst (v := 0) hX iL_law_1448 (by decide) ?_
      refine e_lald hX 0 iL_law_1449 ho8 rfl (by decide) (by decide) ?_
      refine e_iload hX iL_law_1450 rfl ?_
      refine e_i2l hX iL_law_1452 ?_
      refine e_lcmp hX iL_law_1453 ?_
      refine e_if_eq hX iL_law_1454 (fun c1454 => ?_) (fun c1454 => ?_)
      · refine e_goto hX iL_law_1459 ?_
        refine e_loc [0, 1, 2, 3, 4, 5] ?_
        refine e_wid (k' := k + 340) (n' := n + 2000) (by omega) (by omega) ?_
        exact back _ _ hI8
      · exact absurd ((lg_cmp_eq _ _).mpr (by rw [ha8 hK, hb8 hK])) c1454
  · exact absurd rfl c1437
/-- case 20 -/
theorem q_isBad (htr : l.stackTraces = false) (hX : e_in cL_law RL nm 9 rt room_1 l θ x) (hN : e_nc x) (hS : e_scr θ x b L xs) (hL : L ≤ 3072) {i : Nat} (hi : i + 6 ≤ L) (hI : LI θ ph g mo μ o od σ) (hk : k + 340 ≤ 603072) (hn : n + 2000 ≤ 7182442) (back : ∀ p σ2, LI θ p g mo μ o od σ2 → EJ θ x 2943 [(0, .ref b), (1, .ref g), (2, .ref mo), (3, .ref o), (4, .ref od), (5, .int (nI i))] [] p (k + 340) (n + 2000)) : EJ θ x 1462 [(0, .ref b), (1, .ref g), (2, .ref mo), (3, .ref o), (4, .ref od), (5, .int (nI i))] [] ph k n := by
  have hIo := hI.2.2.1
  obtain ⟨f0, ho0⟩ := hIo
  refine e_aload_n hX 1 iL_law_1462 rfl rfl ?_
  refine e_aload_n hX 0 iL_law_1463 rfl rfl ?_
  refine e_iload hX iL_law_1464 rfl ?_
  refine e_iconst (v := 1) hX iL_law_1466 (by decide) ?_
  refine e_iadd hX iL_law_1467 ?_
  refine e_sld hX hS (i + 1) iL_law_1468 (nI_add i 1) (by omega) (by omega) ?_
  refine e_aload_n hX 3 iL_law_1469 rfl rfl ?_
  refine e_callW hX hN iW_law_1470 (l_isBad htr hI.1 (Or.inr (Or.inl rfl)) ho0 (xs (i + 1))) rfl rfl ⟨Nat.le_of_ble_eq_true rfl, Nat.le_of_ble_eq_true rfl, by show _ ≤ 603072; omega, by show _ ≤ 7182442; omega⟩ (Nat.le_of_ble_eq_true rfl) (fun v9 p9 h9 => ?_)
  obtain ⟨rfl, hG9⟩ := hI.gate h9
  rw [ite_self] at hG9
  obtain ⟨t9, hm9⟩ := hG9.2.1
  obtain ⟨fs9, hmo9⟩ := hm9.go
  refine e_istore hX iL_law_1473 (by decide) ?_
  refine e_aload_n hX 2 iL_law_1475 rfl rfl ?_
  refine e_aload_n hX 0 iL_law_1476 rfl rfl ?_
  refine e_iload hX iL_law_1477 rfl ?_
  refine e_iconst (v := 1) hX iL_law_1479 (by decide) ?_
  refine e_iadd hX iL_law_1480 ?_
  refine e_sld hX hS (i + 1) iL_law_1481 (nI_add i 1) (by omega) (by omega) ?_
  refine e_callV hX iL_law_1482 hmo9 (w_isBad htr hm9 (xs (i + 1))) rfl rfl ⟨Nat.le_of_ble_eq_true rfl, Nat.le_of_ble_eq_true rfl, by show _ ≤ 603072; omega, by show _ ≤ 7182442; omega⟩ (Nat.le_of_ble_eq_true rfl) (fun _ _ h => h.elim) (fun v8 p8 h8 => ?_)
  obtain ⟨a8, rfl, hb8, hm8, hk8⟩ := h8.bool
  obtain ⟨hI8, f8, ho8, ha8⟩ := hG9.model hm8 hk8
  obtain ⟨fs8, hmo8⟩ := hm8.go
  refine e_istore hX iL_law_1485 (by decide) ?_
  refine e_aload_n hX 2 iL_law_1487 rfl rfl ?_
  refine e_callV hX iL_law_1488 hmo8 (w_thrown htr hm8) rfl rfl ⟨Nat.le_of_ble_eq_true rfl, Nat.le_of_ble_eq_true rfl, by show _ ≤ 603072; omega, by show _ ≤ 7182442; omega⟩ (Nat.le_of_ble_eq_true rfl) (fun _ _ h => h.elim) (fun v7 p7 h7 => ?_)
  obtain ⟨rfl, e7⟩ := h7
  subst p7
  refine e_iload hX iL_law_1491 rfl ?_
  refine e_icmp_eq hX iL_law_1493 (fun c1493 => ?_) (fun c1493 => ?_)
  · have hK3 : (k_id σ (xs (i + 1))) ≤ 3 := by unfold k_id; (repeat' split) <;> decide
    refine e_iload hX iL_law_1498 rfl ?_
    refine e_if_ne hX iL_law_1500 (fun c1500 => ?_) (fun c1500 => ?_)
    · refine e_goto hX iL_law_1522 ?_
      refine e_loc [0, 1, 2, 3, 4, 5] ?_
      refine e_wid (k' := k + 340) (n' := n + 2000) (by omega) (by omega) ?_
      exact back _ _ hI8
    · have hK : (k_id σ (xs (i + 1))) = 0 := (nI_eq (by omega) (by decide)).mp c1500
      refine e_aload_n hX 3 iL_law_1503 rfl rfl ?_
      refine e_iconst (v := 0) hX iL_law_1504 (by decide) ?_
      refine e_lald hX 0 iL_law_1505 ho8 rfl (by decide) (by decide) ?_
      refine e_iload hX iL_law_1506 rfl ?_
      refine e_nzL hX iL_law_1508 iL_law_1511 iL_law_1512 iL_law_1515 ?_
      refine e_lcmp hX iL_law_1516 ?_
      refine e_if_eq hX iL_law_1517 (fun c1517 => ?_) (fun c1517 => ?_)
      · refine e_goto hX iL_law_1522 ?_
        refine e_loc [0, 1, 2, 3, 4, 5] ?_
        refine e_wid (k' := k + 340) (n' := n + 2000) (by omega) (by omega) ?_
        exact back _ _ hI8
      · exact absurd ((lg_cmp_eq _ _).mpr (by rw [nz_b, ha8 hK, hb8 hK])) c1517
  · exact absurd rfl c1493
/-- case 21 -/
theorem q_conflict (htr : l.stackTraces = false) (hX : e_in cL_law RL nm 9 rt room_1 l θ x) (hN : e_nc x) (hS : e_scr θ x b L xs) (hL : L ≤ 3072) {i : Nat} (hi : i + 6 ≤ L) (hI : LI θ ph g mo μ o od σ) (hk : k + 340 ≤ 603072) (hn : n + 2000 ≤ 7182442) (back : ∀ p σ2, LI θ p g mo μ o od σ2 → EJ θ x 2943 [(0, .ref b), (1, .ref g), (2, .ref mo), (3, .ref o), (4, .ref od), (5, .int (nI i))] [] p (k + 340) (n + 2000)) : EJ θ x 1525 [(0, .ref b), (1, .ref g), (2, .ref mo), (3, .ref o), (4, .ref od), (5, .int (nI i))] [] ph k n := by
  have hIo := hI.2.2.1
  obtain ⟨f0, ho0⟩ := hIo
  refine e_aload_n hX 1 iL_law_1525 rfl rfl ?_
  refine e_aload_n hX 0 iL_law_1526 rfl rfl ?_
  refine e_iload hX iL_law_1527 rfl ?_
  refine e_iconst (v := 1) hX iL_law_1529 (by decide) ?_
  refine e_iadd hX iL_law_1530 ?_
  refine e_sld hX hS (i + 1) iL_law_1531 (nI_add i 1) (by omega) (by omega) ?_
  refine e_aload_n hX 0 iL_law_1532 rfl rfl ?_
  refine e_iload hX iL_law_1533 rfl ?_
  refine e_iconst (v := 2) hX iL_law_1535 (by decide) ?_
  refine e_iadd hX iL_law_1536 ?_
  refine e_sld hX hS (i + 2) iL_law_1537 (nI_add i 2) (by omega) (by omega) ?_
  refine e_aload_n hX 3 iL_law_1538 rfl rfl ?_
  refine e_callW hX hN iW_law_1539 (l_conflict htr hI.1 (Or.inr (Or.inl rfl)) ho0 (xs (i + 1)) (xs (i + 2))) rfl rfl ⟨Nat.le_of_ble_eq_true rfl, Nat.le_of_ble_eq_true rfl, by show _ ≤ 603072; omega, by show _ ≤ 7182442; omega⟩ (Nat.le_of_ble_eq_true rfl) (fun v9 p9 h9 => ?_)
  obtain ⟨rfl, hG9⟩ := hI.gate h9
  rw [ite_self] at hG9
  obtain ⟨t9, hm9⟩ := hG9.2.1
  obtain ⟨fs9, hmo9⟩ := hm9.go
  refine e_istore hX iL_law_1542 (by decide) ?_
  refine e_aload_n hX 2 iL_law_1544 rfl rfl ?_
  refine e_aload_n hX 0 iL_law_1545 rfl rfl ?_
  refine e_iload hX iL_law_1546 rfl ?_
  refine e_iconst (v := 1) hX iL_law_1548 (by decide) ?_
  refine e_iadd hX iL_law_1549 ?_
  refine e_sld hX hS (i + 1) iL_law_1550 (nI_add i 1) (by omega) (by omega) ?_
  refine e_aload_n hX 0 iL_law_1551 rfl rfl ?_
  refine e_iload hX iL_law_1552 rfl ?_
  refine e_iconst (v := 2) hX iL_law_1554 (by decide) ?_
  refine e_iadd hX iL_law_1555 ?_
  refine e_sld hX hS (i + 2) iL_law_1556 (nI_add i 2) (by omega) (by omega) ?_
  refine e_callV hX iL_law_1557 hmo9 (w_conflict htr hm9 (xs (i + 1)) (xs (i + 2))) rfl rfl ⟨Nat.le_of_ble_eq_true rfl, Nat.le_of_ble_eq_true rfl, by show _ ≤ 603072; omega, by show _ ≤ 7182442; omega⟩ (Nat.le_of_ble_eq_true rfl) (fun _ _ h => h.elim) (fun v8 p8 h8 => ?_)
  obtain ⟨a8, rfl, hb8, hm8, hk8⟩ := h8.bool
  obtain ⟨hI8, f8, ho8, ha8⟩ := hG9.model hm8 hk8
  obtain ⟨fs8, hmo8⟩ := hm8.go
  refine e_istore hX iL_law_1560 (by decide) ?_
  refine e_aload_n hX 2 iL_law_1562 rfl rfl ?_
  refine e_callV hX iL_law_1563 hmo8 (w_thrown htr hm8) rfl rfl ⟨Nat.le_of_ble_eq_true rfl, Nat.le_of_ble_eq_true rfl, by show _ ≤ 603072; omega, by show _ ≤ 7182442; omega⟩ (Nat.le_of_ble_eq_true rfl) (fun _ _ h => h.elim) (fun v7 p7 h7 => ?_)
  obtain ⟨rfl, e7⟩ := h7
  subst p7
  refine e_iload hX iL_law_1566 rfl ?_
  refine e_icmp_eq hX iL_law_1568 (fun c1568 => ?_) (fun c1568 => ?_)
  · have hK3 : (k_conf σ (xs (i + 1)) (xs (i + 2))) ≤ 3 := by unfold k_conf; (repeat' split) <;> decide
    refine e_iload hX iL_law_1573 rfl ?_
    refine e_if_ne hX iL_law_1575 (fun c1575 => ?_) (fun c1575 => ?_)
    · refine e_goto hX iL_law_1597 ?_
      refine e_loc [0, 1, 2, 3, 4, 5] ?_
      refine e_wid (k' := k + 340) (n' := n + 2000) (by omega) (by omega) ?_
      exact back _ _ hI8
    · have hK : (k_conf σ (xs (i + 1)) (xs (i + 2))) = 0 := (nI_eq (by omega) (by decide)).mp c1575
      refine e_aload_n hX 3 iL_law_1578 rfl rfl ?_
      refine e_iconst (v := 0) hX iL_law_1579 (by decide) ?_
      refine e_lald hX 0 iL_law_1580 ho8 rfl (by decide) (by decide) ?_
      refine e_iload hX iL_law_1581 rfl ?_
      refine e_nzL hX iL_law_1583 iL_law_1586 iL_law_1587 iL_law_1590 ?_
      refine e_lcmp hX iL_law_1591 ?_
      refine e_if_eq hX iL_law_1592 (fun c1592 => ?_) (fun c1592 => ?_)
      · refine e_goto hX iL_law_1597 ?_
        refine e_loc [0, 1, 2, 3, 4, 5] ?_
        refine e_wid (k' := k + 340) (n' := n + 2000) (by omega) (by omega) ?_
        exact back _ _ hI8
      · exact absurd ((lg_cmp_eq _ _).mpr (by rw [nz_b, ha8 hK, hb8 hK])) c1592
  · exact absurd rfl c1568
/-- case 22 -/
theorem q_groups (htr : l.stackTraces = false) (hX : e_in cL_law RL nm 9 rt room_1 l θ x) (hN : e_nc x) (hS : e_scr θ x b L xs) (hL : L ≤ 3072) {i : Nat} (hi : i + 6 ≤ L) (hI : LI θ ph g mo μ o od σ) (hk : k + 340 ≤ 603072) (hn : n + 2000 ≤ 7182442) (back : ∀ p σ2, LI θ p g mo μ o od σ2 → EJ θ x 2943 [(0, .ref b), (1, .ref g), (2, .ref mo), (3, .ref o), (4, .ref od), (5, .int (nI i))] [] p (k + 340) (n + 2000)) : EJ θ x 1600 [(0, .ref b), (1, .ref g), (2, .ref mo), (3, .ref o), (4, .ref od), (5, .int (nI i))] [] ph k n := by
  have hn12 := hI.1.ok.1
  refine e_aload_n hX 1 iL_law_1600 rfl rfl ?_
  obtain ⟨fsg, hgo⟩ := hI.1.go
  refine e_callV hX iL_law_1601 hgo (m_groups htr hI.1) rfl rfl ⟨Nat.le_of_ble_eq_true rfl, Nat.le_of_ble_eq_true rfl, by show _ ≤ 603072; omega, by show _ ≤ 7182442; omega⟩ (Nat.le_of_ble_eq_true rfl) (fun _ _ h => h.elim) (fun v9 p9 h9 => ?_)
  obtain ⟨-, rfl, hg9, hx9⟩ := h9
  have hG9 := hI.keep hg9 hx9
  obtain ⟨t9, hm9⟩ := hG9.2.1
  obtain ⟨fs9, hmo9⟩ := hm9.go
  refine e_aload_n hX 2 iL_law_1604 rfl rfl ?_
  refine e_callV hX iL_law_1605 hmo9 (w_groups htr hm9) rfl rfl ⟨Nat.le_of_ble_eq_true rfl, Nat.le_of_ble_eq_true rfl, by show _ ≤ 603072; omega, by show _ ≤ 7182442; omega⟩ (Nat.le_of_ble_eq_true rfl) (fun _ _ h => h.elim) (fun v8 p8 h8 => ?_)
  obtain ⟨rfl, hm8, hk8⟩ := h8
  obtain ⟨hI8, -⟩ := hG9.model hm8 hk8
  refine e_icmp_eq hX iL_law_1608 (fun c1608 => ?_) (fun c1608 => ?_)
  · refine e_loc [0, 1, 2, 3, 4, 5] ?_
    refine e_wid (k' := k + 340) (n' := n + 2000) (by omega) (by omega) ?_
    exact back _ _ hI8
  · exact absurd (by first | rfl | (rw [frL_eq hn12, try_eq hn12]; done) | (rw [frL_eq hn12]; done)) c1608
/-- case 23 -/
theorem q_groupSize (htr : l.stackTraces = false) (hX : e_in cL_law RL nm 9 rt room_1 l θ x) (hN : e_nc x) (hS : e_scr θ x b L xs) (hL : L ≤ 3072) {i : Nat} (hi : i + 6 ≤ L) (hI : LI θ ph g mo μ o od σ) (hk : k + 340 ≤ 603072) (hn : n + 2000 ≤ 7182442) (back : ∀ p σ2, LI θ p g mo μ o od σ2 → EJ θ x 2943 [(0, .ref b), (1, .ref g), (2, .ref mo), (3, .ref o), (4, .ref od), (5, .int (nI i))] [] p (k + 340) (n + 2000)) : EJ θ x 1613 [(0, .ref b), (1, .ref g), (2, .ref mo), (3, .ref o), (4, .ref od), (5, .int (nI i))] [] ph k n := by
  have hIo := hI.2.2.1
  obtain ⟨f0, ho0⟩ := hIo
  refine e_aload_n hX 1 iL_law_1613 rfl rfl ?_
  refine e_aload_n hX 0 iL_law_1614 rfl rfl ?_
  refine e_iload hX iL_law_1615 rfl ?_
  refine e_iconst (v := 1) hX iL_law_1617 (by decide) ?_
  refine e_iadd hX iL_law_1618 ?_
  refine e_sld hX hS (i + 1) iL_law_1619 (nI_add i 1) (by omega) (by omega) ?_
  refine e_aload_n hX 3 iL_law_1620 rfl rfl ?_
  refine e_callW hX hN iW_law_1621 (l_groupSize htr hI.1 (Or.inr (Or.inl rfl)) ho0 (xs (i + 1))) rfl rfl ⟨Nat.le_of_ble_eq_true rfl, Nat.le_of_ble_eq_true rfl, by show _ ≤ 603072; omega, by show _ ≤ 7182442; omega⟩ (Nat.le_of_ble_eq_true rfl) (fun v9 p9 h9 => ?_)
  obtain ⟨rfl, hG9⟩ := hI.gate h9
  rw [ite_self] at hG9
  obtain ⟨t9, hm9⟩ := hG9.2.1
  obtain ⟨fs9, hmo9⟩ := hm9.go
  refine e_istore hX iL_law_1624 (by decide) ?_
  refine e_aload_n hX 2 iL_law_1626 rfl rfl ?_
  refine e_aload_n hX 0 iL_law_1627 rfl rfl ?_
  refine e_iload hX iL_law_1628 rfl ?_
  refine e_iconst (v := 1) hX iL_law_1630 (by decide) ?_
  refine e_iadd hX iL_law_1631 ?_
  refine e_sld hX hS (i + 1) iL_law_1632 (nI_add i 1) (by omega) (by omega) ?_
  refine e_callV hX iL_law_1633 hmo9 (w_groupSize htr hm9 (xs (i + 1))) rfl rfl ⟨Nat.le_of_ble_eq_true rfl, Nat.le_of_ble_eq_true rfl, by show _ ≤ 603072; omega, by show _ ≤ 7182442; omega⟩ (Nat.le_of_ble_eq_true rfl) (fun _ _ h => h.elim) (fun v8 p8 h8 => ?_)
  obtain ⟨a8, rfl, hb8, hm8, hk8⟩ := h8.int
  obtain ⟨hI8, f8, ho8, ha8⟩ := hG9.model hm8 hk8
  obtain ⟨fs8, hmo8⟩ := hm8.go
  refine e_istore hX iL_law_1636 (by decide) ?_
  refine e_aload_n hX 2 iL_law_1638 rfl rfl ?_
  refine e_callV hX iL_law_1639 hmo8 (w_thrown htr hm8) rfl rfl ⟨Nat.le_of_ble_eq_true rfl, Nat.le_of_ble_eq_true rfl, by show _ ≤ 603072; omega, by show _ ≤ 7182442; omega⟩ (Nat.le_of_ble_eq_true rfl) (fun _ _ h => h.elim) (fun v7 p7 h7 => ?_)
  obtain ⟨rfl, e7⟩ := h7
  subst p7
  refine e_iload hX iL_law_1642 rfl ?_
  refine e_icmp_eq hX iL_law_1644 (fun c1644 => ?_) (fun c1644 => ?_)
  · have hK3 : (k_id σ (xs (i + 1))) ≤ 3 := by unfold k_id; (repeat' split) <;> decide
    refine e_iload hX iL_law_1649 rfl ?_
    refine e_if_ne hX iL_law_1651 (fun c1651 => ?_) (fun c1651 => ?_)
    · refine e_goto hX iL_law_1666 ?_
      refine e_loc [0, 1, 2, 3, 4, 5] ?_
      refine e_wid (k' := k + 340) (n' := n + 2000) (by omega) (by omega) ?_
      exact back _ _ hI8
    · have hK : (k_id σ (xs (i + 1))) = 0 := (nI_eq (by omega) (by decide)).mp c1651
      refine e_aload_n hX 3 iL_law_1654 rfl rfl ?_
      refine e_iconst (v := 0) hX iL_law_1655 (by decide) ?_
      refine e_lald hX 0 iL_law_1656 ho8 rfl (by decide) (by decide) ?_
      refine e_iload hX iL_law_1657 rfl ?_
      refine e_i2l hX iL_law_1659 ?_
      refine e_lcmp hX iL_law_1660 ?_
      refine e_if_eq hX iL_law_1661 (fun c1661 => ?_) (fun c1661 => ?_)
      · refine e_goto hX iL_law_1666 ?_
        refine e_loc [0, 1, 2, 3, 4, 5] ?_
        refine e_wid (k' := k + 340) (n' := n + 2000) (by omega) (by omega) ?_
        exact back _ _ hI8
      · exact absurd ((lg_cmp_eq _ _).mpr (by rw [ha8 hK, hb8 hK])) c1661
  · exact absurd rfl c1644
end XA1
