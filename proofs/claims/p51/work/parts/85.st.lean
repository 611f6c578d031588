/-! what holds at the law's start -/
abbrev gv_1 : Cond := Jvm.Cond.and given_1 narrow_1
theorem st_nc : ∀ a ∈ xP, ∀ b ∈ xP, a ≠ b → Cond.not (.castable a b) ∈ flatC gv_1 := by decide +kernel
theorem st_str : (lw_tbl.all (fun w => match w with | .stringRef own k _ => decide (Cond.exactly (.string own k) "java/lang/String" ∈ flatC gv_1) | _ => true)) = true := by decide +kernel
theorem st_inst : (e_cl.all (fun r => lw_tbl.any (fun w => match w with | .instantiable C _ => C == r.1 | _ => false))) = true := by decide +kernel
abbrev tm_E : Term := .static "java/util/ArrayList" "DEFAULTCAPACITY_EMPTY_ELEMENTDATA" "[Ljava/lang/Object;"
theorem st_E1 : Cond.arrayOf tm_E (.object "java/lang/Object") ∈ flatC gv_1 := by decide +kernel
theorem st_E2 : Cond.eq (.length tm_E) (.int 0) ∈ flatC gv_1 := by decide +kernel
theorem st_U : Cond.isRef (.static "java/lang/Throwable" "UNASSIGNED_STACK" "[Ljava/lang/StackTraceElement;") ∈ flatC gv_1 := by decide +kernel
theorem st_N : Cond.isRef (.static "java/lang/Throwable" "SUPPRESSED_SENTINEL" "Ljava/util/List;") ∈ flatC gv_1 := by decide +kernel
theorem st_M : Cond.isRef (.mirror "[Ljava/lang/Object;") ∈ flatC gv_1 := by decide +kernel
theorem st_w1 : Cond.arrayClass .int ∈ lw_tbl := by decide +kernel
theorem st_w5 : Cond.arrayOver (.object "java/lang/Object") ∈ lw_tbl := by decide +kernel
theorem st_w6 : Cond.arrayOver (.array .int) ∈ lw_tbl := by decide +kernel
theorem st_w7 : Cond.laysStatic "java/util/ArrayList" "DEFAULTCAPACITY_EMPTY_ELEMENTDATA" "[Ljava/lang/Object;" ∈ lw_tbl := by decide +kernel
theorem st_w8 : Cond.laysStatic "java/lang/Throwable" "UNASSIGNED_STACK" "[Ljava/lang/StackTraceElement;" ∈ lw_tbl := by decide +kernel
theorem st_w9 : Cond.laysStatic "java/lang/Throwable" "SUPPRESSED_SENTINEL" "Ljava/util/List;" ∈ lw_tbl := by decide +kernel
theorem st_w10 : Cond.initialized "java/util/ArrayList" ∈ lw_tbl := by decide +kernel
theorem st_w11 : Cond.initialized "java/lang/Throwable" ∈ lw_tbl := by decide +kernel
theorem st_w12 : Cond.declares ⟨"java/lang/Object", "getClass", "()Ljava/lang/Class;"⟩ ∈ lw_tbl := by decide +kernel
theorem st_arr {s : State} {c : ClassId} {k : Class} {comp : ClassId} {ty : FieldType} (h2 : s.vm.classes[c]? = some k) (h3 : k.kind = .array comp ty) : ArrOfT s c ty := fun n z => ⟨(fun q h => by cases h), k, h2, comp, h3⟩
theorem st_cls {s : State} {A : Array Value} (hts : ∀ w ∈ lw_tbl, w.before A s = true) : ∃ D : va_G, ∀ (c : Nat) (q : vw_C), e_cl[c]? = some q → u_Kn s q.1 q.2.1 q.2.2 (D.1 c) (D.2 c) := by
  have h : ∀ c : Nat, ∃ r : ClassId × (Nat → Nat), ∀ q : vw_C, e_cl[c]? = some q → u_Kn s q.1 q.2.1 q.2.2 r.1 r.2 := fun c => by
    cases hc : e_cl[c]? with
    | none => exact ⟨(0, fun _ => 0), fun q hq => by cases hq⟩
    | some q =>
      obtain ⟨C, T, N⟩ := q
      have h1 := List.all_eq_true.mp st_inst (C, T, N) (List.mem_of_getElem? hc)
      obtain ⟨w, hw, h2⟩ := List.any_eq_true.mp h1
      cases w with
      | instantiable C' n =>
        have e : C' = C := by simpa using h2
        subst e
        obtain ⟨cC, iS, hK⟩ := u_known (T := T) (N := N) hts (fun w hw => (List.mem_filter.mp (e_cin hc w hw)).1) (hts _ hw)
        exact ⟨(cC, iS), fun q hq => by cases hq; exact hK⟩
      | _ => cases h2
  obtain ⟨r, hr⟩ := Classical.axiomOfChoice h
  exact ⟨(fun c => (r c).1, fun c => (r c).2), hr⟩
theorem st_GS {s : State} {A : Array Value} (hts : ∀ w ∈ lw_tbl, w.before A s = true) (hgv : gv_1.before A s = true) : ∃ θ : e_T, θ.2.2.1 = s.heap.size ∧ e_GS θ s s.heap := by
  have hs := flat_of_before _ hgv
  obtain ⟨D, hD⟩ := st_cls hts
  obtain ⟨c0, k0, p0, a0, b0, d0⟩ := Cond.arrayClass_spec (hts _ st_w1)
  obtain ⟨p4, c4, k4, a4, -, b4, d4, f4⟩ := Cond.arrayOver_spec (hts _ st_w5)
  obtain ⟨p5, c5, k5, a5, b5, d5, f5⟩ := Cond.arrayOver_specA (hts _ st_w6)
  have hA : ∀ a : Nat, a < s.heap.size → ¬ (fun q : Nat => s.heap.size ≤ q) a := fun a h => Nat.not_le.mpr h
  obtain ⟨E, hE, hT⟩ := va_Tof (tm := tm_E) (ty := .object "java/lang/Object") (N := 0) (f := fun _ => .null) (A := fun q : Nat => s.heap.size ≤ q) (by decide) (hs _ st_E1) (Cond.eq_int (hs _ st_E2) rfl) (fun j hj => absurd hj (Nat.not_lt_zero j)) hA
  obtain ⟨mi, hmi⟩ := va_Mi.of (hs _ st_M)
  refine ⟨(D, fun i => if i = 4 then c4 else if i = 5 then c5 else c0, s.heap.size, fun _ => mi, E), rfl, ⟨hD, fun k q hq => ?_⟩, fun w hw => ?_, vx_Zqof (hts _ st_w8) (hts _ st_w11) (hs _ st_U) hA, vx_Zqof (hts _ st_w9) (hts _ st_w11) (hs _ st_N) hA, va_Zof (hts _ st_w7) (hts _ st_w10) hE hA, hT, va_AO.of (hts _ st_w5), hts _ st_w6, a0, hmi, va_Dc.of (hts _ st_w12), fun own k tx hm => ?_⟩
  · match k, hq with
    | 0, hq => cases hq; exact ⟨st_arr b0 d0, a0⟩
    | 1, hq => cases hq; exact ⟨st_arr b0 d0, a0⟩
    | 2, hq => cases hq; exact ⟨st_arr b0 d0, a0⟩
    | 3, hq => cases hq; exact ⟨st_arr b0 d0, a0⟩
    | 4, hq => cases hq; exact ⟨st_arr b4 d4, k4, p4, b4, d4, a4, f4⟩
    | 5, hq => cases hq; exact ⟨st_arr b5 d5, f5⟩
    | k + 6, hq => simp [e_tys] at hq
  · have h1 := List.mem_filter.mp hw
    refine va_Nw.of ?_ (hts w h1.1)
    have h3 := h1.2
    cases w <;> first | rfl | (exfalso; revert h3; decide) | (exfalso; cases h3)
  · have h1 := List.all_eq_true.mp st_str _ hm
    obtain ⟨a, -, -, -, q1, -⟩ := Cond.exactly_spec (args := A) (first := s) (o := none) (s := s) (idx := []) (hs _ (of_decide_eq_true h1))
    exact ⟨a, vk_R.of (hts _ hm) q1⟩
theorem st_NC {s : State} {A : Array Value} (hgv : gv_1.before A s = true) : e_NC s := fun a ha b hb hn => va_Nc.of (flat_of_before _ hgv _ (st_nc a ha b hb hn))
