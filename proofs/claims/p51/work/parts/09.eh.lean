theorem e_cin {ci : Nat} {C : String} {T : u_T} {N : Nat} (h : e_cl[ci]? = some (C, T, N)) : ∀ w ∈ u_ws C T N, w ∈ lw_good := by
  match ci, h with
  | 0, h => have h2 : some (RX11, TX11, 11) = some (C, T, N) := h; cases h2; exact e_ws in_TX11 (by decide +kernel)
  | 1, h => have h2 : some (RJx4a65c, TJx4a65c, 3) = some (C, T, N) := h; cases h2; exact e_ws in_TJx4a65c (by decide +kernel)
  | 2, h => have h2 : some (RX7, TX7, 2) = some (C, T, N) := h; cases h2; exact e_ws in_TX7 (by decide +kernel)
  | 3, h => have h2 : some (RX0, TX0, 3) = some (C, T, N) := h; cases h2; exact e_ws in_TX0 (by decide +kernel)
  | 4, h => have h2 : some (RX3, TX3, 2) = some (C, T, N) := h; cases h2; exact e_ws in_TX3 (by decide +kernel)
  | 5, h => have h2 : some (RX9, TX9, 2) = some (C, T, N) := h; cases h2; exact e_ws in_TX9 (by decide +kernel)
  | 6, h => have h2 : some (RX5, TX5, 4) = some (C, T, N) := h; cases h2; exact e_ws in_TX5 (by decide +kernel)
  | 7, h => have h2 : some (RX4, TX4, 5) = some (C, T, N) := h; cases h2; exact e_ws in_TX4 (by decide +kernel)
  | 8, h => have h2 : some (RX6, TX6, 3) = some (C, T, N) := h; cases h2; exact e_ws in_TX6 (by decide +kernel)
  | 9, h => have h2 : some (RX2, TX2, 4) = some (C, T, N) := h; cases h2; exact e_ws in_TX2 (by decide +kernel)
  | 10, h => have h2 : some (RX10, TX10, 3) = some (C, T, N) := h; cases h2; exact e_ws in_TX10 (by decide +kernel)
  | 11, h => have h2 : some (RX1, TX1, 4) = some (C, T, N) := h; cases h2; exact e_ws in_TX1 (by decide +kernel)
  | 12, h => have h2 : some ("java/lang/IllegalStateException", TE0, 0) = some (C, T, N) := h; cases h2; exact fun w hw => absurd hw (by unfold u_ws; exact List.not_mem_nil)
  | 13, h => have h2 : some ("java/lang/IllegalArgumentException", TE0, 0) = some (C, T, N) := h; cases h2; exact fun w hw => absurd hw (by unfold u_ws; exact List.not_mem_nil)
  | 14, h => have h2 : some ("java/lang/IllegalStateException", TE0, 0) = some (C, T, N) := h; cases h2; exact fun w hw => absurd hw (by unfold u_ws; exact List.not_mem_nil)
  | 15, h => have h2 : some ("java/lang/IndexOutOfBoundsException", TE0, 0) = some (C, T, N) := h; cases h2; exact fun w hw => absurd hw (by unfold u_ws; exact List.not_mem_nil)
  | 16, h => have h2 : some ("java/util/NoSuchElementException", TE0, 0) = some (C, T, N) := h; cases h2; exact fun w hw => absurd hw (by unfold u_ws; exact List.not_mem_nil)
  | 17, h => have h2 : some ("java/lang/UnsupportedOperationException", TE0, 0) = some (C, T, N) := h; cases h2; exact fun w hw => absurd hw (by unfold u_ws; exact List.not_mem_nil)
  | 18, h => have h2 : some ("java/lang/IllegalStateException", TE0, 0) = some (C, T, N) := h; cases h2; exact fun w hw => absurd hw (by unfold u_ws; exact List.not_mem_nil)
  | j + 19, h => exact absurd h (by simp [e_cl])
theorem e_cty {ci : Nat} {C : String} {T : u_T} {N : Nat} (h : e_cl[ci]? = some (C, T, N)) : (∃ ty : Nat → FieldType, ∀ k, k < N → parseFieldDescriptor (T k).2.2.1 = some (ty k)) ∧ ∀ a, a < N → ∀ b, b < N → a ≠ b → (T a).2.1 ≠ (T b).2.1 := by
  match ci, h with
  | 0, h => have h2 : some (RX11, TX11, 11) = some (C, T, N) := h; cases h2; exact ⟨⟨tyX11, tyX11_ok⟩, nmX11⟩
  | 1, h => have h2 : some (RJx4a65c, TJx4a65c, 3) = some (C, T, N) := h; cases h2; exact ⟨⟨tyJx4a65c, tyJx4a65c_ok⟩, nmJx4a65c⟩
  | 2, h => have h2 : some (RX7, TX7, 2) = some (C, T, N) := h; cases h2; exact ⟨⟨tyX7, tyX7_ok⟩, nmX7⟩
  | 3, h => have h2 : some (RX0, TX0, 3) = some (C, T, N) := h; cases h2; exact ⟨⟨tyX0, tyX0_ok⟩, nmX0⟩
  | 4, h => have h2 : some (RX3, TX3, 2) = some (C, T, N) := h; cases h2; exact ⟨⟨tyX3, tyX3_ok⟩, nmX3⟩
  | 5, h => have h2 : some (RX9, TX9, 2) = some (C, T, N) := h; cases h2; exact ⟨⟨tyX9, tyX9_ok⟩, nmX9⟩
  | 6, h => have h2 : some (RX5, TX5, 4) = some (C, T, N) := h; cases h2; exact ⟨⟨tyX5, tyX5_ok⟩, nmX5⟩
  | 7, h => have h2 : some (RX4, TX4, 5) = some (C, T, N) := h; cases h2; exact ⟨⟨tyX4, tyX4_ok⟩, nmX4⟩
  | 8, h => have h2 : some (RX6, TX6, 3) = some (C, T, N) := h; cases h2; exact ⟨⟨tyX6, tyX6_ok⟩, nmX6⟩
  | 9, h => have h2 : some (RX2, TX2, 4) = some (C, T, N) := h; cases h2; exact ⟨⟨tyX2, tyX2_ok⟩, nmX2⟩
  | 10, h => have h2 : some (RX10, TX10, 3) = some (C, T, N) := h; cases h2; exact ⟨⟨tyX10, tyX10_ok⟩, nmX10⟩
  | 11, h => have h2 : some (RX1, TX1, 4) = some (C, T, N) := h; cases h2; exact ⟨⟨tyX1, tyX1_ok⟩, nmX1⟩
  | 12, h => have h2 : some ("java/lang/IllegalStateException", TE0, 0) = some (C, T, N) := h; cases h2; exact ⟨⟨fun _ => .int, fun k hk => absurd hk (Nat.not_lt_zero k)⟩, fun a ha => absurd ha (Nat.not_lt_zero a)⟩
  | 13, h => have h2 : some ("java/lang/IllegalArgumentException", TE0, 0) = some (C, T, N) := h; cases h2; exact ⟨⟨fun _ => .int, fun k hk => absurd hk (Nat.not_lt_zero k)⟩, fun a ha => absurd ha (Nat.not_lt_zero a)⟩
  | 14, h => have h2 : some ("java/lang/IllegalStateException", TE0, 0) = some (C, T, N) := h; cases h2; exact ⟨⟨fun _ => .int, fun k hk => absurd hk (Nat.not_lt_zero k)⟩, fun a ha => absurd ha (Nat.not_lt_zero a)⟩
  | 15, h => have h2 : some ("java/lang/IndexOutOfBoundsException", TE0, 0) = some (C, T, N) := h; cases h2; exact ⟨⟨fun _ => .int, fun k hk => absurd hk (Nat.not_lt_zero k)⟩, fun a ha => absurd ha (Nat.not_lt_zero a)⟩
  | 16, h => have h2 : some ("java/util/NoSuchElementException", TE0, 0) = some (C, T, N) := h; cases h2; exact ⟨⟨fun _ => .int, fun k hk => absurd hk (Nat.not_lt_zero k)⟩, fun a ha => absurd ha (Nat.not_lt_zero a)⟩
  | 17, h => have h2 : some ("java/lang/UnsupportedOperationException", TE0, 0) = some (C, T, N) := h; cases h2; exact ⟨⟨fun _ => .int, fun k hk => absurd hk (Nat.not_lt_zero k)⟩, fun a ha => absurd ha (Nat.not_lt_zero a)⟩
  | 18, h => have h2 : some ("java/lang/IllegalStateException", TE0, 0) = some (C, T, N) := h; cases h2; exact ⟨⟨fun _ => .int, fun k hk => absurd hk (Nat.not_lt_zero k)⟩, fun a ha => absurd ha (Nat.not_lt_zero a)⟩
  | j + 19, h => exact absurd h (by simp [e_cl])
/-- the cells of arrays -/
def e_I (θ : e_T) (N : Nat) (f : Nat → Int32) : va_E := .inl (θ.2.1 0, N, .inl f)
def e_Z (θ : e_T) (N : Nat) (f : Nat → Int32) : va_E := .inl (θ.2.1 1, N, .inl f)
def e_L (θ : e_T) (N : Nat) (f : Nat → Int64) : va_E := .inl (θ.2.1 2, N, .inr (.inl f))
def e_D (θ : e_T) (N : Nat) (f : Nat → UInt64) : va_E := .inl (θ.2.1 3, N, .inr (.inr (.inr (.inl f))))
def e_R (θ : e_T) (N : Nat) (f : Nat → Option Nat) : va_E := .inl (θ.2.1 4, N, .inr (.inr (.inr (.inr f))))
def e_II (θ : e_T) (N : Nat) (f : Nat → Option Nat) : va_E := .inl (θ.2.1 5, N, .inr (.inr (.inr (.inr f))))
def e_O (ci : Nat) (fs : List Value) : va_E := .inr (ci, fs)
section EH
variable {θ : e_T} {x : e_X} {pc nx tgt : Nat} {lv : List (Nat × Value)} {st : List Value} {ph : e_PH} {k n : Nat} {cc : ByteArray} {own nm : String} {nL : Nat} {ret : Option FieldType} {R : Room} {l : Launch} {off : Int}
theorem e_get (hX : e_in cc own nm nL ret R l θ x) {ci kf a : Nat} {fs : List Value} {v : Value} (hd : e_gf cc own pc nx ci kf) (hp : ph a = some (e_O ci fs)) (hv : fs[kf]? = some v) (kk : EJ θ x nx lv (v :: st) ph k n) : EJ θ x pc lv (.ref a :: st) ph k n := by
  obtain ⟨p, l', e, R', s, m, args, below, meth, c, Q, nL'⟩ := x
  obtain ⟨rfl, rfl, rfl, hx, hb, hml, hown, hts, hG, hb0, hlk, htr, hr, hnm⟩ := hX
  obtain ⟨idx, C, T, N, ⟨hd, rfl⟩, hc, hkf, hw⟩ := hd
  intro H ls locs L f hP hD hk hS hl
  obtain ⟨q0, hq⟩ := hk.get hp
  rcases hw with hw | ⟨host, hw⟩ | ⟨ref, hw, hw2⟩
  · exact va_get hx hb hts (e_cin hc) hown hG.1 hP q0 hq hc kf hkf (hts _ hw) (fun _ h => h) hv hd (kk H ls locs L f hP hD hk hS hl)
  · exact va_getN (host := host) hx hb hts (e_cin hc) hown hG.1 hP q0 hq hc kf hkf (va_Nw.use rfl (hG.2.1 _ hw)) (fun _ h => h) hv hd (kk H ls locs L f hP hD hk hS hl)
  · exact va_get hx hb hts (e_cin hc) hown hG.1 hP q0 hq hc kf hkf (hts _ hw) (u_same (hts _ hw2)) hv hd (kk H ls locs L f hP hD hk hS hl)
theorem e_put (hX : e_in cc own nm nL ret R l θ x) {ci kf a : Nat} {fs fs' : List Value} {v : Value} {ty : FieldType} (hd : e_pf cc own pc nx ci kf ty) (hp : ph a = some (e_O ci fs)) (hs : fs.set kf v = fs') (hlen : kf < fs.length) (hn : narrow ty v = v) (hf : fits ty v = true) (kk : EJ θ x nx lv st (e_up ph a (e_O ci fs')) k n) : EJ θ x pc lv (v :: .ref a :: st) ph k n := by
  obtain ⟨p, l', e, R', s, m, args, below, meth, c, Q, nL'⟩ := x
  obtain ⟨rfl, rfl, rfl, hx, hb, hml, hown, hts, hG, hb0, hlk, htr, hr, hnm⟩ := hX
  obtain ⟨idx, C, T, N, ⟨hd, rfl⟩, hc, hkf, hw, hty, hfin⟩ := hd
  subst hs
  intro H ls locs L f hP hD hk hS hl
  obtain ⟨q0, hq⟩ := hk.get hp
  obtain ⟨⟨ty0, hty0⟩, hnn⟩ := e_cty hc
  rcases hw with hw | ⟨host, hw⟩ | ⟨ref, hw, hw2⟩
  · refine va_put hx hb hts (e_cin hc) ty0 hty0 hnn hown hG.1 hP hD hS q0 hq hc kf hkf (hts _ hw) (fun _ h => h) hfin hty hn hf hlen hd (fun H1 locs1 hP1 hD1 hS1 => ?_)
    rw [e_set hD hq (hk.mem hp).1 (hk.mem hp).2] at hP1 hD1
    exact kk H1 ls locs1 L _ hP1 hD1 (hk.set hp) hS1 hl
  · refine va_putN (host := host) hx hb hts (e_cin hc) ty0 hty0 hnn hown hG.1 hP hD hS q0 hq hc kf hkf (va_Nw.use rfl (hG.2.1 _ hw)) (fun _ h => h) hfin hty hn hf hlen hd (fun H1 locs1 hP1 hD1 hS1 => ?_)
    rw [e_set hD hq (hk.mem hp).1 (hk.mem hp).2] at hP1 hD1
    exact kk H1 ls locs1 L _ hP1 hD1 (hk.set hp) hS1 hl
  · refine va_put hx hb hts (e_cin hc) ty0 hty0 hnn hown hG.1 hP hD hS q0 hq hc kf hkf (hts _ hw) (u_same (hts _ hw2)) hfin hty hn hf hlen hd (fun H1 locs1 hP1 hD1 hS1 => ?_)
    rw [e_set hD hq (hk.mem hp).1 (hk.mem hp).2] at hP1 hD1
    exact kk H1 ls locs1 L _ hP1 hD1 (hk.set hp) hS1 hl
theorem e_putF (hX : e_in cc own nm nL ret R l θ x) {ci kf a : Nat} {fs fs' : List Value} {v : Value} {ty : FieldType} (hi : nm = "<init>") (hd : e_pff cc own pc nx ci kf ty) (hp : ph a = some (e_O ci fs)) (hs : fs.set kf v = fs') (hlen : kf < fs.length) (hn : narrow ty v = v) (hf : fits ty v = true) (kk : EJ θ x nx lv st (e_up ph a (e_O ci fs')) k n) : EJ θ x pc lv (v :: .ref a :: st) ph k n := by
  obtain ⟨p, l', e, R', s, m, args, below, meth, c, Q, nL'⟩ := x
  obtain ⟨rfl, rfl, rfl, hx, hb, hml, hown, hts, hG, hb0, hlk, htr, hr, hnm⟩ := hX
  obtain ⟨idx, C, T, N, ⟨hd, rfl⟩, hc, hkf, hw, hty, hfin, hdecl⟩ := hd
  subst hs
  intro H ls locs L f hP hD hk hS hl
  obtain ⟨q0, hq⟩ := hk.get hp
  obtain ⟨⟨ty0, hty0⟩, hnn⟩ := e_cty hc
  refine va_putF hx hb hts (e_cin hc) ty0 hty0 hnn hown hG.1 hP hD hS q0 hq hc kf hkf (hts _ hw) (fun _ h => h) hfin (hnm.trans hi) hdecl hty hn hf hlen hd (fun H1 locs1 hP1 hD1 hS1 => ?_)
  rw [e_set hD hq (hk.mem hp).1 (hk.mem hp).2] at hP1 hD1
  exact kk H1 ls locs1 L _ hP1 hD1 (hk.set hp) hS1 hl
theorem e_newo (hX : e_in cc own nm nL ret R l θ x) {ci : Nat} {fs : List Value} (hd : e_new cc own pc nx ci fs) (hR1 : k + 1 ≤ R.cells) (hR2 : n + fs.length ≤ R.slots) (kk : ∀ q : Nat, ph q = none → EJ θ x nx lv (.ref q :: st) (e_up ph q (e_O ci fs)) (k + 1) (n + fs.length)) : EJ θ x pc lv st ph k n := by
  obtain ⟨p, l', e, R', s, m, args, below, meth, c, Q, nL'⟩ := x
  obtain ⟨rfl, rfl, rfl, hx, hb, hml, hown, hts, hG, hb0, hlk, htr, hr, hnm⟩ := hX
  obtain ⟨idx, C, T, N, ⟨hd, rfl⟩, hc, rfl, hw1, hw2, hw3, hdef⟩ := hd
  intro H ls locs L f hP hD hk hS hl
  obtain ⟨⟨ty0, hty0⟩, hnn⟩ := e_cty hc
  refine va_new hx hb hts (e_cin hc) ty0 hty0 hown (hts _ hw1) (hts _ hw2) (hts _ hw3) hG.1 hP hD hS (fun q h => Nat.le_trans hb0 h) hc (fs := fs) (fun j hj => by have h1 := hdef j hj; rw [hty0 j hj] at h1; exact Option.some.inj h1) hR1 hR2 hd (fun q H1 hP1 hD1 hS1 => ?_)
  have hq : q ∉ L := va_pl_fresh2 (X := []) (f := f) (by simpa using hD1)
  rw [va_pl_push hq] at hP1 hD1
  exact kk q (hk.none hq) H1 ls locs _ _ hP1 hD1 (hk.push hq) hS1 hl
theorem e_iald (hX : e_in cc own nm nL ret R l θ x) {a N : Nat} {f0 : Nat → Int32} {i : Int32} (j : Nat) (hd : e_at cc pc .iaload 1 nx) (hp : ph a = some (e_I θ N f0)) (hi : i = nI j) (hj : j < N) (hN : N < 2 ^ 31) (kk : EJ θ x nx lv (.int (f0 j) :: st) ph k n) : EJ θ x pc lv (.int i :: .ref a :: st) ph k n := by
  obtain ⟨p, l', e, R', s, m, args, below, meth, c, Q, nL'⟩ := x
  obtain ⟨rfl, rfl, rfl, hx, hb, hml, hown, hts, hG, hb0, hlk, htr, hr, hnm⟩ := hX
  obtain ⟨hd, rfl⟩ := hd
  subst hi
  intro H ls locs L f hP hD hk hS hl
  obtain ⟨q0, hq⟩ := hk.get hp
  refine va_iald hx hb hG.1 hP q0 0 hq rfl (vp_in_nI hj hN) hd ?_
  rw [nI_clamp (Nat.lt_trans hj hN)]
  exact (kk H ls locs L f hP hD hk hS hl)
theorem e_iast (hX : e_in cc own nm nL ret R l θ x) {a N : Nat} {f0 : Nat → Int32} {i : Int32} {v : Int32} (j : Nat) (hd : e_at cc pc .iastore 1 nx) (hp : ph a = some (e_I θ N f0)) (hi : i = nI j) (hj : j < N) (hN : N < 2 ^ 31) (kk : EJ θ x nx lv st (e_up ph a (e_I θ N (upd f0 j v))) k n) : EJ θ x pc lv (.int v :: .int i :: .ref a :: st) ph k n := by
  obtain ⟨p, l', e, R', s, m, args, below, meth, c, Q, nL'⟩ := x
  obtain ⟨rfl, rfl, rfl, hx, hb, hml, hown, hts, hG, hb0, hlk, htr, hr, hnm⟩ := hX
  obtain ⟨hd, rfl⟩ := hd
  subst hi
  intro H ls locs L f hP hD hk hS hl
  obtain ⟨q0, hq⟩ := hk.get hp
  refine va_iast hx hb hG.1 hP hD hS q0 0 hq rfl (vp_in_nI hj hN) hd (fun H1 locs1 hP1 hD1 hS1 => ?_)
  rw [nI_clamp (Nat.lt_trans hj hN)] at hP1 hD1
  rw [e_set hD hq (hk.mem hp).1 (hk.mem hp).2] at hP1 hD1
  exact kk H1 ls locs1 L _ hP1 hD1 (hk.set hp) hS1 hl
theorem e_aald (hX : e_in cc own nm nL ret R l θ x) {a N y : Nat} {f0 : Nat → Option Nat} {i : Int32} (j : Nat) (hd : e_at cc pc .aaload 1 nx) (hp : ph a = some (e_R θ N f0)) (hi : i = nI j) (hj : j < N) (hN : N < 2 ^ 31) (hy : f0 j = some y) (kk : EJ θ x nx lv (.ref y :: st) ph k n) : EJ θ x pc lv (.int i :: .ref a :: st) ph k n := by
  obtain ⟨p, l', e, R', s, m, args, below, meth, c, Q, nL'⟩ := x
  obtain ⟨rfl, rfl, rfl, hx, hb, hml, hown, hts, hG, hb0, hlk, htr, hr, hnm⟩ := hX
  obtain ⟨hd, rfl⟩ := hd
  subst hi
  intro H ls locs L f hP hD hk hS hl
  obtain ⟨q0, hq⟩ := hk.get hp
  refine va_aldq hx hb hG.1 hP q0 4 hq rfl (vp_in_nI hj hN) hd ?_
  rw [nI_clamp (Nat.lt_trans hj hN), hy]
  exact (kk H ls locs L f hP hD hk hS hl)
theorem e_aald2 (hX : e_in cc own nm nL ret R l θ x) {a N y : Nat} {f0 : Nat → Option Nat} {i : Int32} (j : Nat) (hd : e_at cc pc .aaload 1 nx) (hp : ph a = some (e_II θ N f0)) (hi : i = nI j) (hj : j < N) (hN : N < 2 ^ 31) (hy : f0 j = some y) (kk : EJ θ x nx lv (.ref y :: st) ph k n) : EJ θ x pc lv (.int i :: .ref a :: st) ph k n := by
  obtain ⟨p, l', e, R', s, m, args, below, meth, c, Q, nL'⟩ := x
  obtain ⟨rfl, rfl, rfl, hx, hb, hml, hown, hts, hG, hb0, hlk, htr, hr, hnm⟩ := hX
  obtain ⟨hd, rfl⟩ := hd
  subst hi
  intro H ls locs L f hP hD hk hS hl
  obtain ⟨q0, hq⟩ := hk.get hp
  have hc : (nI j).toNatClampNeg = j := nI_clamp (Nat.lt_trans hj hN)
  refine W.aald (v := .ref y) (ty := .array .int) hx hb (hP q0 _ hq) ((hG.1.2 5 _ rfl).1 N (fun j => va_rf (f0 j))) rfl (fun q => by cases q) (by show ¬ (nI j < 0 ∨ (arrV _ _ _).slots.size ≤ _); rw [arrV_size]; exact vp_in_nI hj hN) (by show (arrV _ _ _).slots[_]? = _; rw [hc, arrV_read _ _ hj, hy]; rfl) rfl rfl hd (kk H ls locs L f hP hD hk hS hl)
theorem e_aast (hX : e_in cc own nm nL ret R l θ x) {a N y ci : Nat} {f0 : Nat → Option Nat} {fs : List Value} {r : vw_C} {i : Int32} (j : Nat) (hd : e_at cc pc .aastore 1 nx) (hp : ph a = some (e_R θ N f0)) (hi : i = nI j) (hj : j < N) (hN : N < 2 ^ 31) (hy : ph y = some (e_O ci fs)) (hc : e_cl[ci]? = some r) (hw : e_n (.castable r.1 "java/lang/Object")) (kk : EJ θ x nx lv st (e_up ph a (e_R θ N (va_up f0 j (some y)))) k n) : EJ θ x pc lv (.ref y :: .int i :: .ref a :: st) ph k n := by
  obtain ⟨p, l', e, R', s, m, args, below, meth, c, Q, nL'⟩ := x
  obtain ⟨rfl, rfl, rfl, hx, hb, hml, hown, hts, hG, hb0, hlk, htr, hr, hnm⟩ := hX
  obtain ⟨hd, rfl⟩ := hd
  subst hi
  intro H ls locs L f hP hD hk hS hl
  obtain ⟨q0, hq⟩ := hk.get hp
  obtain ⟨q1, hq1⟩ := hk.get hy
  refine va_astqO hx hb hG.1 hP hD hS q0 4 q1 ci hq rfl (hG.2.1 _ hw) hq1 hc (vp_in_nI hj hN) hd (fun H1 locs1 hP1 hD1 hS1 => ?_)
  rw [nI_clamp (Nat.lt_trans hj hN)] at hP1 hD1
  rw [e_set hD hq (hk.mem hp).1 (hk.mem hp).2] at hP1 hD1
  exact kk H1 ls locs1 L _ hP1 hD1 (hk.set hp) hS1 hl
theorem e_aastN (hX : e_in cc own nm nL ret R l θ x) {a N : Nat} {f0 : Nat → Option Nat} {i : Int32} (j : Nat) (hd : e_at cc pc .aastore 1 nx) (hp : ph a = some (e_R θ N f0)) (hi : i = nI j) (hj : j < N) (hN : N < 2 ^ 31) (kk : EJ θ x nx lv st (e_up ph a (e_R θ N (va_up f0 j none))) k n) : EJ θ x pc lv (.null :: .int i :: .ref a :: st) ph k n := by
  obtain ⟨p, l', e, R', s, m, args, below, meth, c, Q, nL'⟩ := x
  obtain ⟨rfl, rfl, rfl, hx, hb, hml, hown, hts, hG, hb0, hlk, htr, hr, hnm⟩ := hX
  obtain ⟨hd, rfl⟩ := hd
  subst hi
  intro H ls locs L f hP hD hk hS hl
  obtain ⟨q0, hq⟩ := hk.get hp
  refine va_astqN hx hb hG.1 hP hD hS q0 4 hq rfl (vp_in_nI hj hN) hd (fun H1 locs1 hP1 hD1 hS1 => ?_)
  rw [nI_clamp (Nat.lt_trans hj hN)] at hP1 hD1
  rw [e_set hD hq (hk.mem hp).1 (hk.mem hp).2] at hP1 hD1
  exact kk H1 ls locs1 L _ hP1 hD1 (hk.set hp) hS1 hl
theorem e_lenI (hX : e_in cc own nm nL ret R l θ x) {a N : Nat} {f0 : Nat → Int32} (hd : e_at cc pc .arraylength 1 nx) (hp : ph a = some (e_I θ N f0)) (kk : EJ θ x nx lv (.int (nI N) :: st) ph k n) : EJ θ x pc lv (.ref a :: st) ph k n := by
  obtain ⟨p, l', e, R', s, m, args, below, meth, c, Q, nL'⟩ := x
  obtain ⟨rfl, rfl, rfl, hx, hb, hml, hown, hts, hG, hb0, hlk, htr, hr, hnm⟩ := hX
  obtain ⟨hd, rfl⟩ := hd
  intro H ls locs L f hP hD hk hS hl
  obtain ⟨q0, hq⟩ := hk.get hp
  exact va_alen hx hb hG.1 hP q0 0 hq (ty := .int) rfl rfl hd (kk H ls locs L f hP hD hk hS hl)
theorem e_lenR (hX : e_in cc own nm nL ret R l θ x) {a N : Nat} {f0 : Nat → Option Nat} (hd : e_at cc pc .arraylength 1 nx) (hp : ph a = some (e_R θ N f0)) (kk : EJ θ x nx lv (.int (nI N) :: st) ph k n) : EJ θ x pc lv (.ref a :: st) ph k n := by
  obtain ⟨p, l', e, R', s, m, args, below, meth, c, Q, nL'⟩ := x
  obtain ⟨rfl, rfl, rfl, hx, hb, hml, hown, hts, hG, hb0, hlk, htr, hr, hnm⟩ := hX
  obtain ⟨hd, rfl⟩ := hd
  intro H ls locs L f hP hD hk hS hl
  obtain ⟨q0, hq⟩ := hk.get hp
  exact va_alen hx hb hG.1 hP q0 4 hq (ty := .object "java/lang/Object") rfl rfl hd (kk H ls locs L f hP hD hk hS hl)
theorem e_lenII (hX : e_in cc own nm nL ret R l θ x) {a N : Nat} {f0 : Nat → Option Nat} (hd : e_at cc pc .arraylength 1 nx) (hp : ph a = some (e_II θ N f0)) (kk : EJ θ x nx lv (.int (nI N) :: st) ph k n) : EJ θ x pc lv (.ref a :: st) ph k n := by
  obtain ⟨p, l', e, R', s, m, args, below, meth, c, Q, nL'⟩ := x
  obtain ⟨rfl, rfl, rfl, hx, hb, hml, hown, hts, hG, hb0, hlk, htr, hr, hnm⟩ := hX
  obtain ⟨hd, rfl⟩ := hd
  intro H ls locs L f hP hD hk hS hl
  obtain ⟨q0, hq⟩ := hk.get hp
  exact va_alen hx hb hG.1 hP q0 5 hq (ty := .array .int) rfl rfl hd (kk H ls locs L f hP hD hk hS hl)
/-- the length of ArrayList's empty row -/
theorem e_len0 (hX : e_in cc own nm nL ret R l θ x) (hd : e_at cc pc .arraylength 1 nx) (kk : EJ θ x nx lv (.int 0 :: st) ph k n) : EJ θ x pc lv (.ref θ.2.2.2.2 :: st) ph k n := by
  obtain ⟨p, l', e, R', s, m, args, below, meth, c, Q, nL'⟩ := x
  obtain ⟨rfl, rfl, rfl, hx, hb, hml, hown, hts, hG, hb0, hlk, htr, hr, hnm⟩ := hX
  obtain ⟨hd, rfl⟩ := hd
  intro H ls locs L f hP hD hk hS hl
  exact va_tlen hx hb hG.2.2.2.2.2.1 hS (v := 0) rfl hd (kk H ls locs L f hP hD hk hS hl)
theorem e_gets (hX : e_in cc own nm nL ret R l θ x) {idx : Nat} (hd : e_at cc pc (.getstatic idx) 3 nx) (hw : e_w (.fieldLink own idx "java/util/ArrayList" "DEFAULTCAPACITY_EMPTY_ELEMENTDATA" "[Ljava/lang/Object;")) (kk : EJ θ x nx lv (.ref θ.2.2.2.2 :: st) ph k n) : EJ θ x pc lv st ph k n := by
  obtain ⟨p, l', e, R', s, m, args, below, meth, c, Q, nL'⟩ := x
  obtain ⟨rfl, rfl, rfl, hx, hb, hml, hown, hts, hG, hb0, hlk, htr, hr, hnm⟩ := hX
  obtain ⟨hd, rfl⟩ := hd
  intro H ls locs L f hP hD hk hS hl
  exact va_gets hx hb hG.2.2.2.2.1 hS hown (hts _ hw) (fun _ h => h) hd (kk H ls locs L f hP hD hk hS hl)
theorem e_cast (hX : e_in cc own nm nL ret R l θ x) {a idx ci : Nat} {fs : List Value} {r : vw_C} {nm2 : String} (hd : e_at cc pc (.checkcast idx) 3 nx) (hw : e_w (.classLink own idx nm2)) (hp : ph a = some (e_O ci fs)) (hc : e_cl[ci]? = some r) (hn : e_n (.castable r.1 nm2)) (kk : EJ θ x nx lv (.ref a :: st) ph k n) : EJ θ x pc lv (.ref a :: st) ph k n := by
  obtain ⟨p, l', e, R', s, m, args, below, meth, c, Q, nL'⟩ := x
  obtain ⟨rfl, rfl, rfl, hx, hb, hml, hown, hts, hG, hb0, hlk, htr, hr, hnm⟩ := hX
  obtain ⟨hd, rfl⟩ := hd
  intro H ls locs L f hP hD hk hS hl
  obtain ⟨q0, hq⟩ := hk.get hp
  exact va_castY (C := r.1) hx hb hown (hts _ hw) (hG.2.1 _ hn) (va_recv hG.1 hP hc hq) hd (kk H ls locs L f hP hD hk hS hl)
/-- the class of an array is the one that stands in the tables -/
theorem e_newa_ty {cA : ClassId} {ty : FieldType} {i : Nat} {U : State} (hK : va_K θ.1 e_cl (e_tys θ ++ [(cA, ty)]) U) (hi : (e_tys θ)[i]? = some (θ.2.1 i, ty)) (ht : ∀ C, ty ≠ .object C) : cA = θ.2.1 i := by
  have h1 := (hK.2 6 (cA, ty) rfl).2
  have hl : i < (e_tys θ).length := (List.getElem?_eq_some_iff.mp hi).1
  have h2 := (hK.2 i (θ.2.1 i, ty) (by rw [List.getElem?_append_left hl]; exact hi)).2
  cases ty <;> first | exact absurd rfl (ht _) | (exact Option.some.inj (h1.symm.trans h2))
theorem e_newI (hX : e_in cc own nm nL ret R l θ x) {i : Int32} (N : Nat) (hd : e_at cc pc (.newarray .int) 2 nx) (hw : e_w (.arrayClass .int)) (hi : i = nI N) (hN : N < 60000) (hR1 : k + 1 ≤ R.cells) (hR2 : n + N ≤ R.slots) (kk : ∀ q : Nat, ph q = none → EJ θ x nx lv (.ref q :: st) (e_up ph q (e_I θ N (fun _ => 0))) (k + 1) (n + N)) : EJ θ x pc lv (.int i :: st) ph k n := by
  obtain ⟨p, l', e, R', s, m, args, below, meth, c, Q, nL'⟩ := x
  obtain ⟨rfl, rfl, rfl, hx, hb, hml, hown, hts, hG, hb0, hlk, htr, hr, hnm⟩ := hX
  obtain ⟨hd, rfl⟩ := hd
  subst hi
  intro H ls locs L f hP hD hk hS hl
  refine va_newa (atype := .int) hx hb (hts _ hw) (ty := .int) rfl hG.1 hP hD hS (fun q h => Nat.le_trans hb0 h) (N' := N) (a0 := (N, .inl (fun _ => 0))) (fun cA => rfl) (nI_pos (by omega)) (nI_clamp (by omega)) (by show N * _ ≤ _; simp only [componentBytes]; omega) hR1 hR2 hd (fun q cA H1 hK1 hP1 hD1 hS1 => ?_)
  obtain rfl := e_newa_ty (i := 0) hK1 rfl (fun C h => by cases h)
  have hq : q ∉ L := va_pl_fresh2 (X := []) (f := f) (by simpa using hD1)
  rw [va_pl_push hq] at hP1 hD1
  exact kk q (hk.none hq) H1 ls locs _ _ hP1 hD1 (hk.push hq) hS1 hl
theorem e_newR (hX : e_in cc own nm nL ret R l θ x) {i : Int32} {idx : Nat} (N : Nat) (hd : e_at cc pc (.anewarray idx) 3 nx) (hw : e_w (.classLink own idx "java/lang/Object")) (hi : i = nI N) (hN : N < 60000) (hR1 : k + 1 ≤ R.cells) (hR2 : n + N ≤ R.slots) (kk : ∀ q : Nat, ph q = none → EJ θ x nx lv (.ref q :: st) (e_up ph q (e_R θ N (fun _ => none))) (k + 1) (n + N)) : EJ θ x pc lv (.int i :: st) ph k n := by
  obtain ⟨p, l', e, R', s, m, args, below, meth, c, Q, nL'⟩ := x
  obtain ⟨rfl, rfl, rfl, hx, hb, hml, hown, hts, hG, hb0, hlk, htr, hr, hnm⟩ := hX
  obtain ⟨hd, rfl⟩ := hd
  subst hi
  intro H ls locs L f hP hD hk hS hl
  refine va_newq hx hb hown (hts _ hw) hG.2.2.2.2.2.2.1 hG.1 hP hD hS (fun q h => Nat.le_trans hb0 h) (N' := N) (nI_pos (by omega)) (nI_clamp (by omega)) (by omega) hR1 hR2 hd (fun q cA H1 hK1 hP1 hD1 hS1 => ?_)
  have h1 := (hK1.2 6 (cA, .object "java/lang/Object") rfl).2
  have h2 := (hK1.2 4 (θ.2.1 4, .object "java/lang/Object") rfl).2
  obtain ⟨_, _, -, -, -, h1⟩ := h1
  obtain ⟨_, _, -, -, -, h2⟩ := h2
  obtain rfl : cA = θ.2.1 4 := Option.some.inj (h1.symm.trans h2)
  have hq : q ∉ L := va_pl_fresh2 (X := []) (f := f) (by simpa using hD1)
  rw [va_pl_push hq] at hP1 hD1
  exact kk q (hk.none hq) H1 ls locs _ _ hP1 hD1 (hk.push hq) hS1 hl
end EH
