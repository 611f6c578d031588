section ER
variable {θ : e_T} {x : e_X} {pc nx tgt : Nat} {lv : List (Nat × Value)} {st : List Value} {ph : e_PH} {k n : Nat} {cc : ByteArray} {own nm : String} {nL : Nat} {ret : Option FieldType} {R : Room} {l : Launch} {off : Int}
theorem e_loc (is : List Nat) (kk : EJ θ x pc (lres lv is) st ph k n) : EJ θ x pc lv st ph k n := by
  obtain ⟨p, l', e, R', s, m, args, below, meth, c, Q, nL'⟩ := x
  intro H ls locs L f hP hD hk hS hl
  exact kk H ls locs L f hP hD hk hS (lhas_sub hl lres_sub)
theorem e_wid {k' n' : Nat} (h1 : k ≤ k') (h2 : n ≤ n') (kk : EJ θ x pc lv st ph k' n') : EJ θ x pc lv st ph k n := by
  obtain ⟨p, l', e, R', s, m, args, below, meth, c, Q, nL'⟩ := x
  intro H ls locs L f hP hD hk hS hl
  exact W.widen h1 h2 (kk H ls locs L f hP hD hk hS hl)
theorem e_iconst (hX : e_in cc own nm nL ret R l θ x) {v : Int32} {j : Int} (hd : e_at cc pc (.iconst j) 1 nx) (hv : Int32.ofInt j = v) (kk : EJ θ x nx lv (.int v :: st) ph k n) : EJ θ x pc lv (st) ph k n := by
  obtain ⟨p, l', e, R', s, m, args, below, meth, c, Q, nL'⟩ := x
  obtain ⟨rfl, rfl, rfl, hx, hb, hml, hown, hts, hG, hb0, hlk, htr, hr, hnm⟩ := hX
  obtain ⟨hd, rfl⟩ := hd
  intro H ls locs L f hP hD hk hS hl
  exact lv_iconst hx hb hd hv (kk H ls locs L f hP hD hk hS hl)
theorem e_bipush (hX : e_in cc own nm nL ret R l θ x) {v : Int32} {j : Int} (hd : e_at cc pc (.bipush j) 2 nx) (hv : (Int8.ofInt j).toInt32 = v) (kk : EJ θ x nx lv (.int v :: st) ph k n) : EJ θ x pc lv (st) ph k n := by
  obtain ⟨p, l', e, R', s, m, args, below, meth, c, Q, nL'⟩ := x
  obtain ⟨rfl, rfl, rfl, hx, hb, hml, hown, hts, hG, hb0, hlk, htr, hr, hnm⟩ := hX
  obtain ⟨hd, rfl⟩ := hd
  intro H ls locs L f hP hD hk hS hl
  exact lv_bipush hx hb hd hv (kk H ls locs L f hP hD hk hS hl)
theorem e_sipush (hX : e_in cc own nm nL ret R l θ x) {v : Int32} {j : Int} (hd : e_at cc pc (.sipush j) 3 nx) (hv : (Int16.ofInt j).toInt32 = v) (kk : EJ θ x nx lv (.int v :: st) ph k n) : EJ θ x pc lv (st) ph k n := by
  obtain ⟨p, l', e, R', s, m, args, below, meth, c, Q, nL'⟩ := x
  obtain ⟨rfl, rfl, rfl, hx, hb, hml, hown, hts, hG, hb0, hlk, htr, hr, hnm⟩ := hX
  obtain ⟨hd, rfl⟩ := hd
  intro H ls locs L f hP hD hk hS hl
  exact lv_sipush hx hb hd hv (kk H ls locs L f hP hD hk hS hl)
theorem e_lconst (hX : e_in cc own nm nL ret R l θ x) {v : Int64} {j : Fin 2} (hd : e_at cc pc (.lconst j) 1 nx) (hv : Int64.ofNat (j : Nat) = v) (kk : EJ θ x nx lv (.long v :: st) ph k n) : EJ θ x pc lv (st) ph k n := by
  obtain ⟨p, l', e, R', s, m, args, below, meth, c, Q, nL'⟩ := x
  obtain ⟨rfl, rfl, rfl, hx, hb, hml, hown, hts, hG, hb0, hlk, htr, hr, hnm⟩ := hX
  obtain ⟨hd, rfl⟩ := hd
  intro H ls locs L f hP hD hk hS hl
  exact lv_lconst hx hb hd hv (kk H ls locs L f hP hD hk hS hl)
theorem e_null (hX : e_in cc own nm nL ret R l θ x) (hd : e_at cc pc (.aconst_null) 1 nx) (kk : EJ θ x nx lv (.null :: st) ph k n) : EJ θ x pc lv (st) ph k n := by
  obtain ⟨p, l', e, R', s, m, args, below, meth, c, Q, nL'⟩ := x
  obtain ⟨rfl, rfl, rfl, hx, hb, hml, hown, hts, hG, hb0, hlk, htr, hr, hnm⟩ := hX
  obtain ⟨hd, rfl⟩ := hd
  intro H ls locs L f hP hD hk hS hl
  exact lv_null hx hb hd (kk H ls locs L f hP hD hk hS hl)
theorem e_iload_n (hX : e_in cc own nm nL ret R l θ x) (i : Nat) {j : Fin 4} {a : Int32} (hd : e_at cc pc (.iload_n j) 1 nx) (hi : (j : Nat) = i) (h : lkp lv i = some (.int a)) (kk : EJ θ x nx lv (.int a :: st) ph k n) : EJ θ x pc lv (st) ph k n := by
  obtain ⟨p, l', e, R', s, m, args, below, meth, c, Q, nL'⟩ := x
  obtain ⟨rfl, rfl, rfl, hx, hb, hml, hown, hts, hG, hb0, hlk, htr, hr, hnm⟩ := hX
  obtain ⟨hd, rfl⟩ := hd
  intro H ls locs L f hP hD hk hS hl
  exact lv_iload_n hx hb hd hi (lkp_has hl h) (kk H ls locs L f hP hD hk hS hl)
theorem e_iload (hX : e_in cc own nm nL ret R l θ x) {i : Nat} {a : Int32} (hd : e_at cc pc (.iload i) 2 nx) (h : lkp lv i = some (.int a)) (kk : EJ θ x nx lv (.int a :: st) ph k n) : EJ θ x pc lv (st) ph k n := by
  obtain ⟨p, l', e, R', s, m, args, below, meth, c, Q, nL'⟩ := x
  obtain ⟨rfl, rfl, rfl, hx, hb, hml, hown, hts, hG, hb0, hlk, htr, hr, hnm⟩ := hX
  obtain ⟨hd, rfl⟩ := hd
  intro H ls locs L f hP hD hk hS hl
  exact lv_iload hx hb hd (lkp_has hl h) (kk H ls locs L f hP hD hk hS hl)
theorem e_istore_n (hX : e_in cc own nm nL ret R l θ x) (i : Nat) {j : Fin 4} {a : Int32} (hd : e_at cc pc (.istore_n j) 1 nx) (hi : (j : Nat) = i) (hn : i < nL) (kk : EJ θ x nx (lset lv i (.int a)) st ph k n) : EJ θ x pc lv (.int a :: st) ph k n := by
  obtain ⟨p, l', e, R', s, m, args, below, meth, c, Q, nL'⟩ := x
  obtain ⟨rfl, rfl, rfl, hx, hb, hml, hown, hts, hG, hb0, hlk, htr, hr, hnm⟩ := hX
  obtain ⟨hd, rfl⟩ := hd
  intro H ls locs L f hP hD hk hS hl
  exact lv_istore_n hx hb hd hi hl hn rfl (fun ls' hl' => kk H ls' locs L f hP hD hk hS (lhas_sub hl' lset_sub))
theorem e_istore (hX : e_in cc own nm nL ret R l θ x) {i : Nat} {a : Int32} (hd : e_at cc pc (.istore i) 2 nx) (hn : i < nL) (kk : EJ θ x nx (lset lv i (.int a)) st ph k n) : EJ θ x pc lv (.int a :: st) ph k n := by
  obtain ⟨p, l', e, R', s, m, args, below, meth, c, Q, nL'⟩ := x
  obtain ⟨rfl, rfl, rfl, hx, hb, hml, hown, hts, hG, hb0, hlk, htr, hr, hnm⟩ := hX
  obtain ⟨hd, rfl⟩ := hd
  intro H ls locs L f hP hD hk hS hl
  exact lv_istore hx hb hd  hl hn rfl (fun ls' hl' => kk H ls' locs L f hP hD hk hS (lhas_sub hl' lset_sub))
theorem e_lload_n (hX : e_in cc own nm nL ret R l θ x) (i : Nat) {j : Fin 4} {a : Int64} (hd : e_at cc pc (.lload_n j) 1 nx) (hi : (j : Nat) = i) (h : lkp lv i = some (.long a)) (kk : EJ θ x nx lv (.long a :: st) ph k n) : EJ θ x pc lv (st) ph k n := by
  obtain ⟨p, l', e, R', s, m, args, below, meth, c, Q, nL'⟩ := x
  obtain ⟨rfl, rfl, rfl, hx, hb, hml, hown, hts, hG, hb0, hlk, htr, hr, hnm⟩ := hX
  obtain ⟨hd, rfl⟩ := hd
  intro H ls locs L f hP hD hk hS hl
  exact lv_lload_n hx hb hd hi (lkp_has hl h) (kk H ls locs L f hP hD hk hS hl)
theorem e_lload (hX : e_in cc own nm nL ret R l θ x) {i : Nat} {a : Int64} (hd : e_at cc pc (.lload i) 2 nx) (h : lkp lv i = some (.long a)) (kk : EJ θ x nx lv (.long a :: st) ph k n) : EJ θ x pc lv (st) ph k n := by
  obtain ⟨p, l', e, R', s, m, args, below, meth, c, Q, nL'⟩ := x
  obtain ⟨rfl, rfl, rfl, hx, hb, hml, hown, hts, hG, hb0, hlk, htr, hr, hnm⟩ := hX
  obtain ⟨hd, rfl⟩ := hd
  intro H ls locs L f hP hD hk hS hl
  exact lv_lload hx hb hd (lkp_has hl h) (kk H ls locs L f hP hD hk hS hl)
theorem e_lstore_n (hX : e_in cc own nm nL ret R l θ x) (i : Nat) {j : Fin 4} {a : Int64} (hd : e_at cc pc (.lstore_n j) 1 nx) (hi : (j : Nat) = i) (hn : i + 1 < nL) (kk : EJ θ x nx (lset2 lv i (.long a)) st ph k n) : EJ θ x pc lv (.long a :: st) ph k n := by
  obtain ⟨p, l', e, R', s, m, args, below, meth, c, Q, nL'⟩ := x
  obtain ⟨rfl, rfl, rfl, hx, hb, hml, hown, hts, hG, hb0, hlk, htr, hr, hnm⟩ := hX
  obtain ⟨hd, rfl⟩ := hd
  intro H ls locs L f hP hD hk hS hl
  exact lv_lstore_n hx hb hd hi hl hn rfl (fun ls' hl' => kk H ls' locs L f hP hD hk hS (lhas_sub hl' lset2_sub))
theorem e_lstore (hX : e_in cc own nm nL ret R l θ x) {i : Nat} {a : Int64} (hd : e_at cc pc (.lstore i) 2 nx) (hn : i + 1 < nL) (kk : EJ θ x nx (lset2 lv i (.long a)) st ph k n) : EJ θ x pc lv (.long a :: st) ph k n := by
  obtain ⟨p, l', e, R', s, m, args, below, meth, c, Q, nL'⟩ := x
  obtain ⟨rfl, rfl, rfl, hx, hb, hml, hown, hts, hG, hb0, hlk, htr, hr, hnm⟩ := hX
  obtain ⟨hd, rfl⟩ := hd
  intro H ls locs L f hP hD hk hS hl
  exact lv_lstore hx hb hd  hl hn rfl (fun ls' hl' => kk H ls' locs L f hP hD hk hS (lhas_sub hl' lset2_sub))
theorem e_aload_n (hX : e_in cc own nm nL ret R l θ x) (i : Nat) {j : Fin 4} {a : Nat} (hd : e_at cc pc (.aload_n j) 1 nx) (hi : (j : Nat) = i) (h : lkp lv i = some (.ref a)) (kk : EJ θ x nx lv (.ref a :: st) ph k n) : EJ θ x pc lv (st) ph k n := by
  obtain ⟨p, l', e, R', s, m, args, below, meth, c, Q, nL'⟩ := x
  obtain ⟨rfl, rfl, rfl, hx, hb, hml, hown, hts, hG, hb0, hlk, htr, hr, hnm⟩ := hX
  obtain ⟨hd, rfl⟩ := hd
  intro H ls locs L f hP hD hk hS hl
  exact lv_aload_n hx hb hd hi (lkp_has hl h) (kk H ls locs L f hP hD hk hS hl)
theorem e_aload (hX : e_in cc own nm nL ret R l θ x) {i : Nat} {a : Nat} (hd : e_at cc pc (.aload i) 2 nx) (h : lkp lv i = some (.ref a)) (kk : EJ θ x nx lv (.ref a :: st) ph k n) : EJ θ x pc lv (st) ph k n := by
  obtain ⟨p, l', e, R', s, m, args, below, meth, c, Q, nL'⟩ := x
  obtain ⟨rfl, rfl, rfl, hx, hb, hml, hown, hts, hG, hb0, hlk, htr, hr, hnm⟩ := hX
  obtain ⟨hd, rfl⟩ := hd
  intro H ls locs L f hP hD hk hS hl
  exact lv_aload hx hb hd (lkp_has hl h) (kk H ls locs L f hP hD hk hS hl)
theorem e_astore_n (hX : e_in cc own nm nL ret R l θ x) (i : Nat) {j : Fin 4} {a : Nat} (hd : e_at cc pc (.astore_n j) 1 nx) (hi : (j : Nat) = i) (hn : i < nL) (kk : EJ θ x nx (lset lv i (.ref a)) st ph k n) : EJ θ x pc lv (.ref a :: st) ph k n := by
  obtain ⟨p, l', e, R', s, m, args, below, meth, c, Q, nL'⟩ := x
  obtain ⟨rfl, rfl, rfl, hx, hb, hml, hown, hts, hG, hb0, hlk, htr, hr, hnm⟩ := hX
  obtain ⟨hd, rfl⟩ := hd
  intro H ls locs L f hP hD hk hS hl
  exact lv_astore_n hx hb hd hi hl hn rfl (fun ls' hl' => kk H ls' locs L f hP hD hk hS (lhas_sub hl' lset_sub))
theorem e_astore (hX : e_in cc own nm nL ret R l θ x) {i : Nat} {a : Nat} (hd : e_at cc pc (.astore i) 2 nx) (hn : i < nL) (kk : EJ θ x nx (lset lv i (.ref a)) st ph k n) : EJ θ x pc lv (.ref a :: st) ph k n := by
  obtain ⟨p, l', e, R', s, m, args, below, meth, c, Q, nL'⟩ := x
  obtain ⟨rfl, rfl, rfl, hx, hb, hml, hown, hts, hG, hb0, hlk, htr, hr, hnm⟩ := hX
  obtain ⟨hd, rfl⟩ := hd
  intro H ls locs L f hP hD hk hS hl
  exact lv_astore hx hb hd  hl hn rfl (fun ls' hl' => kk H ls' locs L f hP hD hk hS (lhas_sub hl' lset_sub))
theorem e_fload_n (hX : e_in cc own nm nL ret R l θ x) (i : Nat) {j : Fin 4} {a : UInt32} (hd : e_at cc pc (.fload_n j) 1 nx) (hi : (j : Nat) = i) (h : lkp lv i = some (.float a)) (kk : EJ θ x nx lv (.float a :: st) ph k n) : EJ θ x pc lv (st) ph k n := by
  obtain ⟨p, l', e, R', s, m, args, below, meth, c, Q, nL'⟩ := x
  obtain ⟨rfl, rfl, rfl, hx, hb, hml, hown, hts, hG, hb0, hlk, htr, hr, hnm⟩ := hX
  obtain ⟨hd, rfl⟩ := hd
  intro H ls locs L f hP hD hk hS hl
  exact lv_fload_n hx hb hd hi (lkp_has hl h) (kk H ls locs L f hP hD hk hS hl)
theorem e_fload (hX : e_in cc own nm nL ret R l θ x) {i : Nat} {a : UInt32} (hd : e_at cc pc (.fload i) 2 nx) (h : lkp lv i = some (.float a)) (kk : EJ θ x nx lv (.float a :: st) ph k n) : EJ θ x pc lv (st) ph k n := by
  obtain ⟨p, l', e, R', s, m, args, below, meth, c, Q, nL'⟩ := x
  obtain ⟨rfl, rfl, rfl, hx, hb, hml, hown, hts, hG, hb0, hlk, htr, hr, hnm⟩ := hX
  obtain ⟨hd, rfl⟩ := hd
  intro H ls locs L f hP hD hk hS hl
  exact lv_fload hx hb hd (lkp_has hl h) (kk H ls locs L f hP hD hk hS hl)
theorem e_fstore_n (hX : e_in cc own nm nL ret R l θ x) (i : Nat) {j : Fin 4} {a : UInt32} (hd : e_at cc pc (.fstore_n j) 1 nx) (hi : (j : Nat) = i) (hn : i < nL) (kk : EJ θ x nx (lset lv i (.float a)) st ph k n) : EJ θ x pc lv (.float a :: st) ph k n := by
  obtain ⟨p, l', e, R', s, m, args, below, meth, c, Q, nL'⟩ := x
  obtain ⟨rfl, rfl, rfl, hx, hb, hml, hown, hts, hG, hb0, hlk, htr, hr, hnm⟩ := hX
  obtain ⟨hd, rfl⟩ := hd
  intro H ls locs L f hP hD hk hS hl
  exact lv_fstore_n hx hb hd hi hl hn rfl (fun ls' hl' => kk H ls' locs L f hP hD hk hS (lhas_sub hl' lset_sub))
theorem e_fstore (hX : e_in cc own nm nL ret R l θ x) {i : Nat} {a : UInt32} (hd : e_at cc pc (.fstore i) 2 nx) (hn : i < nL) (kk : EJ θ x nx (lset lv i (.float a)) st ph k n) : EJ θ x pc lv (.float a :: st) ph k n := by
  obtain ⟨p, l', e, R', s, m, args, below, meth, c, Q, nL'⟩ := x
  obtain ⟨rfl, rfl, rfl, hx, hb, hml, hown, hts, hG, hb0, hlk, htr, hr, hnm⟩ := hX
  obtain ⟨hd, rfl⟩ := hd
  intro H ls locs L f hP hD hk hS hl
  exact lv_fstore hx hb hd  hl hn rfl (fun ls' hl' => kk H ls' locs L f hP hD hk hS (lhas_sub hl' lset_sub))
theorem e_dload_n (hX : e_in cc own nm nL ret R l θ x) (i : Nat) {j : Fin 4} {a : UInt64} (hd : e_at cc pc (.dload_n j) 1 nx) (hi : (j : Nat) = i) (h : lkp lv i = some (.double a)) (kk : EJ θ x nx lv (.double a :: st) ph k n) : EJ θ x pc lv (st) ph k n := by
  obtain ⟨p, l', e, R', s, m, args, below, meth, c, Q, nL'⟩ := x
  obtain ⟨rfl, rfl, rfl, hx, hb, hml, hown, hts, hG, hb0, hlk, htr, hr, hnm⟩ := hX
  obtain ⟨hd, rfl⟩ := hd
  intro H ls locs L f hP hD hk hS hl
  exact lv_dload_n hx hb hd hi (lkp_has hl h) (kk H ls locs L f hP hD hk hS hl)
theorem e_dload (hX : e_in cc own nm nL ret R l θ x) {i : Nat} {a : UInt64} (hd : e_at cc pc (.dload i) 2 nx) (h : lkp lv i = some (.double a)) (kk : EJ θ x nx lv (.double a :: st) ph k n) : EJ θ x pc lv (st) ph k n := by
  obtain ⟨p, l', e, R', s, m, args, below, meth, c, Q, nL'⟩ := x
  obtain ⟨rfl, rfl, rfl, hx, hb, hml, hown, hts, hG, hb0, hlk, htr, hr, hnm⟩ := hX
  obtain ⟨hd, rfl⟩ := hd
  intro H ls locs L f hP hD hk hS hl
  exact lv_dload hx hb hd (lkp_has hl h) (kk H ls locs L f hP hD hk hS hl)
theorem e_dstore_n (hX : e_in cc own nm nL ret R l θ x) (i : Nat) {j : Fin 4} {a : UInt64} (hd : e_at cc pc (.dstore_n j) 1 nx) (hi : (j : Nat) = i) (hn : i + 1 < nL) (kk : EJ θ x nx (lset2 lv i (.double a)) st ph k n) : EJ θ x pc lv (.double a :: st) ph k n := by
  obtain ⟨p, l', e, R', s, m, args, below, meth, c, Q, nL'⟩ := x
  obtain ⟨rfl, rfl, rfl, hx, hb, hml, hown, hts, hG, hb0, hlk, htr, hr, hnm⟩ := hX
  obtain ⟨hd, rfl⟩ := hd
  intro H ls locs L f hP hD hk hS hl
  exact lv_dstore_n hx hb hd hi hl hn rfl (fun ls' hl' => kk H ls' locs L f hP hD hk hS (lhas_sub hl' lset2_sub))
theorem e_dstore (hX : e_in cc own nm nL ret R l θ x) {i : Nat} {a : UInt64} (hd : e_at cc pc (.dstore i) 2 nx) (hn : i + 1 < nL) (kk : EJ θ x nx (lset2 lv i (.double a)) st ph k n) : EJ θ x pc lv (.double a :: st) ph k n := by
  obtain ⟨p, l', e, R', s, m, args, below, meth, c, Q, nL'⟩ := x
  obtain ⟨rfl, rfl, rfl, hx, hb, hml, hown, hts, hG, hb0, hlk, htr, hr, hnm⟩ := hX
  obtain ⟨hd, rfl⟩ := hd
  intro H ls locs L f hP hD hk hS hl
  exact lv_dstore hx hb hd  hl hn rfl (fun ls' hl' => kk H ls' locs L f hP hD hk hS (lhas_sub hl' lset2_sub))
theorem e_iinc (hX : e_in cc own nm nL ret R l θ x) {i : Nat} {j : Int} {a v : Int32} (hd : e_at cc pc (.iinc i j) 3 nx) (h : lkp lv i = some (.int a)) (hv : a + Int32.ofInt j = v) (hn : i < nL) (kk : EJ θ x nx (lset lv i (.int v)) st ph k n) : EJ θ x pc lv st ph k n := by
  obtain ⟨p, l', e, R', s, m, args, below, meth, c, Q, nL'⟩ := x
  obtain ⟨rfl, rfl, rfl, hx, hb, hml, hown, hts, hG, hb0, hlk, htr, hr, hnm⟩ := hX
  obtain ⟨hd, rfl⟩ := hd
  intro H ls locs L f hP hD hk hS hl
  obtain ⟨q, hq⟩ := List.getElem?_of_mem (lkp_mem h)
  exact lv_iinc hx hb hd hl hq hv hn rfl (fun ls' hl' => kk H ls' locs L f hP hD hk hS (lhas_sub hl' lset_sub))
theorem e_iadd (hX : e_in cc own nm nL ret R l θ x) {a b : Int32} (hd : e_at cc pc (.iadd) 1 nx) (kk : EJ θ x nx lv (.int (a + b) :: st) ph k n) : EJ θ x pc lv (.int b :: .int a :: st) ph k n := by
  obtain ⟨p, l', e, R', s, m, args, below, meth, c, Q, nL'⟩ := x
  obtain ⟨rfl, rfl, rfl, hx, hb, hml, hown, hts, hG, hb0, hlk, htr, hr, hnm⟩ := hX
  obtain ⟨hd, rfl⟩ := hd
  intro H ls locs L f hP hD hk hS hl
  exact lv_iadd hx hb hd (kk H ls locs L f hP hD hk hS hl)
theorem e_isub (hX : e_in cc own nm nL ret R l θ x) {a b : Int32} (hd : e_at cc pc (.isub) 1 nx) (kk : EJ θ x nx lv (.int (a - b) :: st) ph k n) : EJ θ x pc lv (.int b :: .int a :: st) ph k n := by
  obtain ⟨p, l', e, R', s, m, args, below, meth, c, Q, nL'⟩ := x
  obtain ⟨rfl, rfl, rfl, hx, hb, hml, hown, hts, hG, hb0, hlk, htr, hr, hnm⟩ := hX
  obtain ⟨hd, rfl⟩ := hd
  intro H ls locs L f hP hD hk hS hl
  exact lv_isub hx hb hd (kk H ls locs L f hP hD hk hS hl)
theorem e_imul (hX : e_in cc own nm nL ret R l θ x) {a b : Int32} (hd : e_at cc pc (.imul) 1 nx) (kk : EJ θ x nx lv (.int (a * b) :: st) ph k n) : EJ θ x pc lv (.int b :: .int a :: st) ph k n := by
  obtain ⟨p, l', e, R', s, m, args, below, meth, c, Q, nL'⟩ := x
  obtain ⟨rfl, rfl, rfl, hx, hb, hml, hown, hts, hG, hb0, hlk, htr, hr, hnm⟩ := hX
  obtain ⟨hd, rfl⟩ := hd
  intro H ls locs L f hP hD hk hS hl
  exact lv_imul hx hb hd (kk H ls locs L f hP hD hk hS hl)
theorem e_iand (hX : e_in cc own nm nL ret R l θ x) {a b : Int32} (hd : e_at cc pc (.iand) 1 nx) (kk : EJ θ x nx lv (.int (a &&& b) :: st) ph k n) : EJ θ x pc lv (.int b :: .int a :: st) ph k n := by
  obtain ⟨p, l', e, R', s, m, args, below, meth, c, Q, nL'⟩ := x
  obtain ⟨rfl, rfl, rfl, hx, hb, hml, hown, hts, hG, hb0, hlk, htr, hr, hnm⟩ := hX
  obtain ⟨hd, rfl⟩ := hd
  intro H ls locs L f hP hD hk hS hl
  exact lv_iand hx hb hd (kk H ls locs L f hP hD hk hS hl)
theorem e_ior (hX : e_in cc own nm nL ret R l θ x) {a b : Int32} (hd : e_at cc pc (.ior) 1 nx) (kk : EJ θ x nx lv (.int (a ||| b) :: st) ph k n) : EJ θ x pc lv (.int b :: .int a :: st) ph k n := by
  obtain ⟨p, l', e, R', s, m, args, below, meth, c, Q, nL'⟩ := x
  obtain ⟨rfl, rfl, rfl, hx, hb, hml, hown, hts, hG, hb0, hlk, htr, hr, hnm⟩ := hX
  obtain ⟨hd, rfl⟩ := hd
  intro H ls locs L f hP hD hk hS hl
  exact lv_ior hx hb hd (kk H ls locs L f hP hD hk hS hl)
theorem e_ixor (hX : e_in cc own nm nL ret R l θ x) {a b : Int32} (hd : e_at cc pc (.ixor) 1 nx) (kk : EJ θ x nx lv (.int (a ^^^ b) :: st) ph k n) : EJ θ x pc lv (.int b :: .int a :: st) ph k n := by
  obtain ⟨p, l', e, R', s, m, args, below, meth, c, Q, nL'⟩ := x
  obtain ⟨rfl, rfl, rfl, hx, hb, hml, hown, hts, hG, hb0, hlk, htr, hr, hnm⟩ := hX
  obtain ⟨hd, rfl⟩ := hd
  intro H ls locs L f hP hD hk hS hl
  exact lv_ixor hx hb hd (kk H ls locs L f hP hD hk hS hl)
theorem e_idiv (hX : e_in cc own nm nL ret R l θ x) {a b : Int32} (hd : e_at cc pc (.idiv) 1 nx) (h0 : ¬ b = 0) (kk : EJ θ x nx lv (.int (a / b) :: st) ph k n) : EJ θ x pc lv (.int b :: .int a :: st) ph k n := by
  obtain ⟨p, l', e, R', s, m, args, below, meth, c, Q, nL'⟩ := x
  obtain ⟨rfl, rfl, rfl, hx, hb, hml, hown, hts, hG, hb0, hlk, htr, hr, hnm⟩ := hX
  obtain ⟨hd, rfl⟩ := hd
  intro H ls locs L f hP hD hk hS hl
  exact lv_idiv hx hb hd h0 (kk H ls locs L f hP hD hk hS hl)
theorem e_irem (hX : e_in cc own nm nL ret R l θ x) {a b : Int32} (hd : e_at cc pc (.irem) 1 nx) (h0 : ¬ b = 0) (kk : EJ θ x nx lv (.int (a - a / b * b) :: st) ph k n) : EJ θ x pc lv (.int b :: .int a :: st) ph k n := by
  obtain ⟨p, l', e, R', s, m, args, below, meth, c, Q, nL'⟩ := x
  obtain ⟨rfl, rfl, rfl, hx, hb, hml, hown, hts, hG, hb0, hlk, htr, hr, hnm⟩ := hX
  obtain ⟨hd, rfl⟩ := hd
  intro H ls locs L f hP hD hk hS hl
  exact lv_irem hx hb hd h0 (kk H ls locs L f hP hD hk hS hl)
theorem e_ineg (hX : e_in cc own nm nL ret R l θ x) {a : Int32} (hd : e_at cc pc (.ineg) 1 nx) (kk : EJ θ x nx lv (.int (-a) :: st) ph k n) : EJ θ x pc lv (.int a :: st) ph k n := by
  obtain ⟨p, l', e, R', s, m, args, below, meth, c, Q, nL'⟩ := x
  obtain ⟨rfl, rfl, rfl, hx, hb, hml, hown, hts, hG, hb0, hlk, htr, hr, hnm⟩ := hX
  obtain ⟨hd, rfl⟩ := hd
  intro H ls locs L f hP hD hk hS hl
  exact lv_ineg hx hb hd (kk H ls locs L f hP hD hk hS hl)
theorem e_ishl (hX : e_in cc own nm nL ret R l θ x) {a b : Int32} (hd : e_at cc pc (.ishl) 1 nx) (kk : EJ θ x nx lv (.int (a <<< (b &&& 31)) :: st) ph k n) : EJ θ x pc lv (.int b :: .int a :: st) ph k n := by
  obtain ⟨p, l', e, R', s, m, args, below, meth, c, Q, nL'⟩ := x
  obtain ⟨rfl, rfl, rfl, hx, hb, hml, hown, hts, hG, hb0, hlk, htr, hr, hnm⟩ := hX
  obtain ⟨hd, rfl⟩ := hd
  intro H ls locs L f hP hD hk hS hl
  exact lv_ishl hx hb hd (kk H ls locs L f hP hD hk hS hl)
theorem e_ishr (hX : e_in cc own nm nL ret R l θ x) {a b : Int32} (hd : e_at cc pc (.ishr) 1 nx) (kk : EJ θ x nx lv (.int (a >>> (b &&& 31)) :: st) ph k n) : EJ θ x pc lv (.int b :: .int a :: st) ph k n := by
  obtain ⟨p, l', e, R', s, m, args, below, meth, c, Q, nL'⟩ := x
  obtain ⟨rfl, rfl, rfl, hx, hb, hml, hown, hts, hG, hb0, hlk, htr, hr, hnm⟩ := hX
  obtain ⟨hd, rfl⟩ := hd
  intro H ls locs L f hP hD hk hS hl
  exact lv_ishr hx hb hd (kk H ls locs L f hP hD hk hS hl)
theorem e_iushr (hX : e_in cc own nm nL ret R l θ x) {a b : Int32} (hd : e_at cc pc (.iushr) 1 nx) (kk : EJ θ x nx lv (.int (a.toUInt32 >>> (b.toUInt32 &&& Int32.toUInt32 31)).toInt32 :: st) ph k n) : EJ θ x pc lv (.int b :: .int a :: st) ph k n := by
  obtain ⟨p, l', e, R', s, m, args, below, meth, c, Q, nL'⟩ := x
  obtain ⟨rfl, rfl, rfl, hx, hb, hml, hown, hts, hG, hb0, hlk, htr, hr, hnm⟩ := hX
  obtain ⟨hd, rfl⟩ := hd
  intro H ls locs L f hP hD hk hS hl
  exact lv_iushr hx hb hd rfl (kk H ls locs L f hP hD hk hS hl)
theorem e_ladd (hX : e_in cc own nm nL ret R l θ x) {a b : Int64} (hd : e_at cc pc (.ladd) 1 nx) (kk : EJ θ x nx lv (.long (a + b) :: st) ph k n) : EJ θ x pc lv (.long b :: .long a :: st) ph k n := by
  obtain ⟨p, l', e, R', s, m, args, below, meth, c, Q, nL'⟩ := x
  obtain ⟨rfl, rfl, rfl, hx, hb, hml, hown, hts, hG, hb0, hlk, htr, hr, hnm⟩ := hX
  obtain ⟨hd, rfl⟩ := hd
  intro H ls locs L f hP hD hk hS hl
  exact lv_ladd hx hb hd (kk H ls locs L f hP hD hk hS hl)
theorem e_lsub (hX : e_in cc own nm nL ret R l θ x) {a b : Int64} (hd : e_at cc pc (.lsub) 1 nx) (kk : EJ θ x nx lv (.long (a - b) :: st) ph k n) : EJ θ x pc lv (.long b :: .long a :: st) ph k n := by
  obtain ⟨p, l', e, R', s, m, args, below, meth, c, Q, nL'⟩ := x
  obtain ⟨rfl, rfl, rfl, hx, hb, hml, hown, hts, hG, hb0, hlk, htr, hr, hnm⟩ := hX
  obtain ⟨hd, rfl⟩ := hd
  intro H ls locs L f hP hD hk hS hl
  exact lv_lsub hx hb hd (kk H ls locs L f hP hD hk hS hl)
theorem e_land (hX : e_in cc own nm nL ret R l θ x) {a b : Int64} (hd : e_at cc pc (.land) 1 nx) (kk : EJ θ x nx lv (.long (a &&& b) :: st) ph k n) : EJ θ x pc lv (.long b :: .long a :: st) ph k n := by
  obtain ⟨p, l', e, R', s, m, args, below, meth, c, Q, nL'⟩ := x
  obtain ⟨rfl, rfl, rfl, hx, hb, hml, hown, hts, hG, hb0, hlk, htr, hr, hnm⟩ := hX
  obtain ⟨hd, rfl⟩ := hd
  intro H ls locs L f hP hD hk hS hl
  exact lv_land hx hb hd (kk H ls locs L f hP hD hk hS hl)
theorem e_lor (hX : e_in cc own nm nL ret R l θ x) {a b : Int64} (hd : e_at cc pc (.lor) 1 nx) (kk : EJ θ x nx lv (.long (a ||| b) :: st) ph k n) : EJ θ x pc lv (.long b :: .long a :: st) ph k n := by
  obtain ⟨p, l', e, R', s, m, args, below, meth, c, Q, nL'⟩ := x
  obtain ⟨rfl, rfl, rfl, hx, hb, hml, hown, hts, hG, hb0, hlk, htr, hr, hnm⟩ := hX
  obtain ⟨hd, rfl⟩ := hd
  intro H ls locs L f hP hD hk hS hl
  exact lv_lor hx hb hd (kk H ls locs L f hP hD hk hS hl)
theorem e_lshl (hX : e_in cc own nm nL ret R l θ x) {a : Int64} {b : Int32} (hd : e_at cc pc (.lshl) 1 nx) (kk : EJ θ x nx lv (.long (a <<< (b.toInt64 &&& 63)) :: st) ph k n) : EJ θ x pc lv (.int b :: .long a :: st) ph k n := by
  obtain ⟨p, l', e, R', s, m, args, below, meth, c, Q, nL'⟩ := x
  obtain ⟨rfl, rfl, rfl, hx, hb, hml, hown, hts, hG, hb0, hlk, htr, hr, hnm⟩ := hX
  obtain ⟨hd, rfl⟩ := hd
  intro H ls locs L f hP hD hk hS hl
  exact lv_lshl hx hb hd rfl (kk H ls locs L f hP hD hk hS hl)
theorem e_lshr (hX : e_in cc own nm nL ret R l θ x) {a : Int64} {b : Int32} (hd : e_at cc pc (.lshr) 1 nx) (kk : EJ θ x nx lv (.long (a >>> (b.toInt64 &&& 63)) :: st) ph k n) : EJ θ x pc lv (.int b :: .long a :: st) ph k n := by
  obtain ⟨p, l', e, R', s, m, args, below, meth, c, Q, nL'⟩ := x
  obtain ⟨rfl, rfl, rfl, hx, hb, hml, hown, hts, hG, hb0, hlk, htr, hr, hnm⟩ := hX
  obtain ⟨hd, rfl⟩ := hd
  intro H ls locs L f hP hD hk hS hl
  exact lv_lshr hx hb hd rfl (kk H ls locs L f hP hD hk hS hl)
theorem e_lushr (hX : e_in cc own nm nL ret R l θ x) {a : Int64} {b : Int32} (hd : e_at cc pc (.lushr) 1 nx) (kk : EJ θ x nx lv (.long (a.toUInt64 >>> (b.toInt64.toUInt64 &&& Int64.toUInt64 63)).toInt64 :: st) ph k n) : EJ θ x pc lv (.int b :: .long a :: st) ph k n := by
  obtain ⟨p, l', e, R', s, m, args, below, meth, c, Q, nL'⟩ := x
  obtain ⟨rfl, rfl, rfl, hx, hb, hml, hown, hts, hG, hb0, hlk, htr, hr, hnm⟩ := hX
  obtain ⟨hd, rfl⟩ := hd
  intro H ls locs L f hP hD hk hS hl
  exact lv_lushr hx hb hd rfl (kk H ls locs L f hP hD hk hS hl)
theorem e_i2l (hX : e_in cc own nm nL ret R l θ x) {a : Int32} (hd : e_at cc pc (.i2l) 1 nx) (kk : EJ θ x nx lv (.long a.toInt64 :: st) ph k n) : EJ θ x pc lv (.int a :: st) ph k n := by
  obtain ⟨p, l', e, R', s, m, args, below, meth, c, Q, nL'⟩ := x
  obtain ⟨rfl, rfl, rfl, hx, hb, hml, hown, hts, hG, hb0, hlk, htr, hr, hnm⟩ := hX
  obtain ⟨hd, rfl⟩ := hd
  intro H ls locs L f hP hD hk hS hl
  exact lv_i2l hx hb hd rfl (kk H ls locs L f hP hD hk hS hl)
theorem e_l2i (hX : e_in cc own nm nL ret R l θ x) {a : Int64} (hd : e_at cc pc (.l2i) 1 nx) (kk : EJ θ x nx lv (.int a.toInt32 :: st) ph k n) : EJ θ x pc lv (.long a :: st) ph k n := by
  obtain ⟨p, l', e, R', s, m, args, below, meth, c, Q, nL'⟩ := x
  obtain ⟨rfl, rfl, rfl, hx, hb, hml, hown, hts, hG, hb0, hlk, htr, hr, hnm⟩ := hX
  obtain ⟨hd, rfl⟩ := hd
  intro H ls locs L f hP hD hk hS hl
  exact lv_l2i hx hb hd rfl (kk H ls locs L f hP hD hk hS hl)
theorem e_i2d (hX : e_in cc own nm nL ret R l θ x) {a : Int32} (hd : e_at cc pc (.i2d) 1 nx) (kk : EJ θ x nx lv (.double (FP.i2d a) :: st) ph k n) : EJ θ x pc lv (.int a :: st) ph k n := by
  obtain ⟨p, l', e, R', s, m, args, below, meth, c, Q, nL'⟩ := x
  obtain ⟨rfl, rfl, rfl, hx, hb, hml, hown, hts, hG, hb0, hlk, htr, hr, hnm⟩ := hX
  obtain ⟨hd, rfl⟩ := hd
  intro H ls locs L f hP hD hk hS hl
  exact lv_i2d hx hb hd (kk H ls locs L f hP hD hk hS hl)
theorem e_i2f (hX : e_in cc own nm nL ret R l θ x) {a : Int32} (hd : e_at cc pc (.i2f) 1 nx) (kk : EJ θ x nx lv (.float (FP.i2f a) :: st) ph k n) : EJ θ x pc lv (.int a :: st) ph k n := by
  obtain ⟨p, l', e, R', s, m, args, below, meth, c, Q, nL'⟩ := x
  obtain ⟨rfl, rfl, rfl, hx, hb, hml, hown, hts, hG, hb0, hlk, htr, hr, hnm⟩ := hX
  obtain ⟨hd, rfl⟩ := hd
  intro H ls locs L f hP hD hk hS hl
  exact lv_i2f hx hb hd (kk H ls locs L f hP hD hk hS hl)
theorem e_ddiv (hX : e_in cc own nm nL ret R l θ x) {a b : UInt64} (hd : e_at cc pc (.ddiv) 1 nx) (h0 : vf_n64 (FP.ddiv a b)) (kk : EJ θ x nx lv (.double (FP.ddiv a b) :: st) ph k n) : EJ θ x pc lv (.double b :: .double a :: st) ph k n := by
  obtain ⟨p, l', e, R', s, m, args, below, meth, c, Q, nL'⟩ := x
  obtain ⟨rfl, rfl, rfl, hx, hb, hml, hown, hts, hG, hb0, hlk, htr, hr, hnm⟩ := hX
  obtain ⟨hd, rfl⟩ := hd
  intro H ls locs L f hP hD hk hS hl
  exact lv_ddiv hx hb hd h0 (kk H ls locs L f hP hD hk hS hl)
theorem e_fdiv (hX : e_in cc own nm nL ret R l θ x) {a b : UInt32} (hd : e_at cc pc (.fdiv) 1 nx) (h0 : vf_n32 (FP.fdiv a b)) (kk : EJ θ x nx lv (.float (FP.fdiv a b) :: st) ph k n) : EJ θ x pc lv (.float b :: .float a :: st) ph k n := by
  obtain ⟨p, l', e, R', s, m, args, below, meth, c, Q, nL'⟩ := x
  obtain ⟨rfl, rfl, rfl, hx, hb, hml, hown, hts, hG, hb0, hlk, htr, hr, hnm⟩ := hX
  obtain ⟨hd, rfl⟩ := hd
  intro H ls locs L f hP hD hk hS hl
  exact lv_fdiv hx hb hd h0 (kk H ls locs L f hP hD hk hS hl)
theorem e_f2d (hX : e_in cc own nm nL ret R l θ x) {a : UInt32} (hd : e_at cc pc (.f2d) 1 nx) (h0 : vf_n64 (FP.f2d a)) (kk : EJ θ x nx lv (.double (FP.f2d a) :: st) ph k n) : EJ θ x pc lv (.float a :: st) ph k n := by
  obtain ⟨p, l', e, R', s, m, args, below, meth, c, Q, nL'⟩ := x
  obtain ⟨rfl, rfl, rfl, hx, hb, hml, hown, hts, hG, hb0, hlk, htr, hr, hnm⟩ := hX
  obtain ⟨hd, rfl⟩ := hd
  intro H ls locs L f hP hD hk hS hl
  exact lv_f2d hx hb hd h0 (kk H ls locs L f hP hD hk hS hl)
theorem e_dconst0 (hX : e_in cc own nm nL ret R l θ x) (hd : e_at cc pc (.dconst 0) 1 nx) (kk : EJ θ x nx lv (.double (FP.i2d 0) :: st) ph k n) : EJ θ x pc lv (st) ph k n := by
  obtain ⟨p, l', e, R', s, m, args, below, meth, c, Q, nL'⟩ := x
  obtain ⟨rfl, rfl, rfl, hx, hb, hml, hown, hts, hG, hb0, hlk, htr, hr, hnm⟩ := hX
  obtain ⟨hd, rfl⟩ := hd
  intro H ls locs L f hP hD hk hS hl
  exact lv_dconst0 hx hb hd (kk H ls locs L f hP hD hk hS hl)
theorem e_fconst0 (hX : e_in cc own nm nL ret R l θ x) (hd : e_at cc pc (.fconst 0) 1 nx) (kk : EJ θ x nx lv (.float (FP.i2f 0) :: st) ph k n) : EJ θ x pc lv (st) ph k n := by
  obtain ⟨p, l', e, R', s, m, args, below, meth, c, Q, nL'⟩ := x
  obtain ⟨rfl, rfl, rfl, hx, hb, hml, hown, hts, hG, hb0, hlk, htr, hr, hnm⟩ := hX
  obtain ⟨hd, rfl⟩ := hd
  intro H ls locs L f hP hD hk hS hl
  exact lv_fconst0 hx hb hd (kk H ls locs L f hP hD hk hS hl)
theorem e_lcmp (hX : e_in cc own nm nL ret R l θ x) {a b : Int64} (hd : e_at cc pc (.lcmp) 1 nx) (kk : EJ θ x nx lv (.int (lg_cmp a b) :: st) ph k n) : EJ θ x pc lv (.long b :: .long a :: st) ph k n := by
  obtain ⟨p, l', e, R', s, m, args, below, meth, c, Q, nL'⟩ := x
  obtain ⟨rfl, rfl, rfl, hx, hb, hml, hown, hts, hG, hb0, hlk, htr, hr, hnm⟩ := hX
  obtain ⟨hd, rfl⟩ := hd
  intro H ls locs L f hP hD hk hS hl
  exact W.lcmp hx hb hd (kk H ls locs L f hP hD hk hS hl)
theorem e_dcmp (hX : e_in cc own nm nL ret R l θ x) {a b : UInt64} {op : CmpOp} (hd : e_at cc pc (.dcmp op) 1 nx) (kk : EJ θ x nx lv (.int (Op.cmpValue (FP.dcmp a b) op) :: st) ph k n) : EJ θ x pc lv (.double b :: .double a :: st) ph k n := by
  obtain ⟨p, l', e, R', s, m, args, below, meth, c, Q, nL'⟩ := x
  obtain ⟨rfl, rfl, rfl, hx, hb, hml, hown, hts, hG, hb0, hlk, htr, hr, hnm⟩ := hX
  obtain ⟨hd, rfl⟩ := hd
  intro H ls locs L f hP hD hk hS hl
  exact lv_dcmp hx hb hd (kk H ls locs L f hP hD hk hS hl)
theorem e_fcmp (hX : e_in cc own nm nL ret R l θ x) {a b : UInt32} {op : CmpOp} (hd : e_at cc pc (.fcmp op) 1 nx) (kk : EJ θ x nx lv (.int (Op.cmpValue (FP.fcmp a b) op) :: st) ph k n) : EJ θ x pc lv (.float b :: .float a :: st) ph k n := by
  obtain ⟨p, l', e, R', s, m, args, below, meth, c, Q, nL'⟩ := x
  obtain ⟨rfl, rfl, rfl, hx, hb, hml, hown, hts, hG, hb0, hlk, htr, hr, hnm⟩ := hX
  obtain ⟨hd, rfl⟩ := hd
  intro H ls locs L f hP hD hk hS hl
  exact lv_fcmp hx hb hd (kk H ls locs L f hP hD hk hS hl)
theorem e_dup (hX : e_in cc own nm nL ret R l θ x) {v : Value} (hd : e_at cc pc (.dup) 1 nx) (hc : v.category = 1) (kk : EJ θ x nx lv (v :: v :: st) ph k n) : EJ θ x pc lv (v :: st) ph k n := by
  obtain ⟨p, l', e, R', s, m, args, below, meth, c, Q, nL'⟩ := x
  obtain ⟨rfl, rfl, rfl, hx, hb, hml, hown, hts, hG, hb0, hlk, htr, hr, hnm⟩ := hX
  obtain ⟨hd, rfl⟩ := hd
  intro H ls locs L f hP hD hk hS hl
  exact lv_dup hx hb hd hc (kk H ls locs L f hP hD hk hS hl)
theorem e_pop (hX : e_in cc own nm nL ret R l θ x) {v : Value} (hd : e_at cc pc (.pop) 1 nx) (hc : v.category = 1) (kk : EJ θ x nx lv (st) ph k n) : EJ θ x pc lv (v :: st) ph k n := by
  obtain ⟨p, l', e, R', s, m, args, below, meth, c, Q, nL'⟩ := x
  obtain ⟨rfl, rfl, rfl, hx, hb, hml, hown, hts, hG, hb0, hlk, htr, hr, hnm⟩ := hX
  obtain ⟨hd, rfl⟩ := hd
  intro H ls locs L f hP hD hk hS hl
  exact lv_pop hx hb hd hc (kk H ls locs L f hP hD hk hS hl)
theorem e_dup_x1 (hX : e_in cc own nm nL ret R l θ x) {v w : Value} (hd : e_at cc pc (.dup_x1) 1 nx) (hc : v.category = 1) (hc2 : w.category = 1) (kk : EJ θ x nx lv (v :: w :: v :: st) ph k n) : EJ θ x pc lv (v :: w :: st) ph k n := by
  obtain ⟨p, l', e, R', s, m, args, below, meth, c, Q, nL'⟩ := x
  obtain ⟨rfl, rfl, rfl, hx, hb, hml, hown, hts, hG, hb0, hlk, htr, hr, hnm⟩ := hX
  obtain ⟨hd, rfl⟩ := hd
  intro H ls locs L f hP hD hk hS hl
  exact lv_dup_x1 hx hb hd hc hc2 (kk H ls locs L f hP hD hk hS hl)
theorem e_dup2 (hX : e_in cc own nm nL ret R l θ x) {v w : Value} (hd : e_at cc pc (.dup2) 1 nx) (hc : v.category = 1) (hc2 : w.category = 1) (kk : EJ θ x nx lv (v :: w :: v :: w :: st) ph k n) : EJ θ x pc lv (v :: w :: st) ph k n := by
  obtain ⟨p, l', e, R', s, m, args, below, meth, c, Q, nL'⟩ := x
  obtain ⟨rfl, rfl, rfl, hx, hb, hml, hown, hts, hG, hb0, hlk, htr, hr, hnm⟩ := hX
  obtain ⟨hd, rfl⟩ := hd
  intro H ls locs L f hP hD hk hS hl
  exact lv_dup2_11 hx hb hd hc hc2 (kk H ls locs L f hP hD hk hS hl)
theorem e_ldc (hX : e_in cc own nm nL ret R l θ x) {v : Int32} {j : Nat} (hd : e_at cc pc (.ldc j) 2 nx) (hw : e_w (.constant own j v)) (kk : EJ θ x nx lv (.int v :: st) ph k n) : EJ θ x pc lv (st) ph k n := by
  obtain ⟨p, l', e, R', s, m, args, below, meth, c, Q, nL'⟩ := x
  obtain ⟨rfl, rfl, rfl, hx, hb, hml, hown, hts, hG, hb0, hlk, htr, hr, hnm⟩ := hX
  obtain ⟨hd, rfl⟩ := hd
  intro H ls locs L f hP hD hk hS hl
  exact W.ldc hx hb hown (hts _ hw) rfl hd (kk H ls locs L f hP hD hk hS hl)
theorem e_ldcw (hX : e_in cc own nm nL ret R l θ x) {v : Int32} {j : Nat} (hd : e_at cc pc (.ldc_w j) 3 nx) (hw : e_w (.constant own j v)) (kk : EJ θ x nx lv (.int v :: st) ph k n) : EJ θ x pc lv (st) ph k n := by
  obtain ⟨p, l', e, R', s, m, args, below, meth, c, Q, nL'⟩ := x
  obtain ⟨rfl, rfl, rfl, hx, hb, hml, hown, hts, hG, hb0, hlk, htr, hr, hnm⟩ := hX
  obtain ⟨hd, rfl⟩ := hd
  intro H ls locs L f hP hD hk hS hl
  exact lv_ldcw hx hb hown (hts _ hw) hd (kk H ls locs L f hP hD hk hS hl)
theorem e_ldc2 (hX : e_in cc own nm nL ret R l θ x) {v : Int64} {j : Nat} (hd : e_at cc pc (.ldc2_w j) 3 nx) (hw : e_w (.constantLong own j v)) (kk : EJ θ x nx lv (.long v :: st) ph k n) : EJ θ x pc lv (st) ph k n := by
  obtain ⟨p, l', e, R', s, m, args, below, meth, c, Q, nL'⟩ := x
  obtain ⟨rfl, rfl, rfl, hx, hb, hml, hown, hts, hG, hb0, hlk, htr, hr, hnm⟩ := hX
  obtain ⟨hd, rfl⟩ := hd
  intro H ls locs L f hP hD hk hS hl
  exact W.ldc2 hx hb hown (hts _ hw) rfl hd (kk H ls locs L f hP hD hk hS hl)
theorem e_if_eq (hX : e_in cc own nm nL ret R l θ x) {a : Int32} (hd : e_br cc pc (.ifCond .eq off) off nx tgt) (kt : a = 0 → EJ θ x tgt lv st ph k n) (kf : ¬ (a = 0) → EJ θ x nx lv st ph k n) : EJ θ x pc lv (.int a :: st) ph k n := by
  obtain ⟨p, l', e, R', s, m, args, below, meth, c, Q, nL'⟩ := x
  obtain ⟨rfl, rfl, rfl, hx, hb, hml, hown, hts, hG, hb0, hlk, htr, hr, hnm⟩ := hX
  obtain ⟨hd, rfl, ht⟩ := hd
  intro H ls locs L f hP hD hk hS hl
  exact lv_if_eq hx hb hd ht (fun h => kt h H ls locs L f hP hD hk hS hl) (fun h => kf h H ls locs L f hP hD hk hS hl)
theorem e_icmp_eq (hX : e_in cc own nm nL ret R l θ x) {a b : Int32} (hd : e_br cc pc (.if_icmp .eq off) off nx tgt) (kt : a = b → EJ θ x tgt lv st ph k n) (kf : ¬ (a = b) → EJ θ x nx lv st ph k n) : EJ θ x pc lv (.int b :: .int a :: st) ph k n := by
  obtain ⟨p, l', e, R', s, m, args, below, meth, c, Q, nL'⟩ := x
  obtain ⟨rfl, rfl, rfl, hx, hb, hml, hown, hts, hG, hb0, hlk, htr, hr, hnm⟩ := hX
  obtain ⟨hd, rfl, ht⟩ := hd
  intro H ls locs L f hP hD hk hS hl
  exact lv_icmp_eq hx hb hd ht (fun h => kt h H ls locs L f hP hD hk hS hl) (fun h => kf h H ls locs L f hP hD hk hS hl)
theorem e_if_ne (hX : e_in cc own nm nL ret R l θ x) {a : Int32} (hd : e_br cc pc (.ifCond .ne off) off nx tgt) (kt : ¬ a = 0 → EJ θ x tgt lv st ph k n) (kf : a = 0 → EJ θ x nx lv st ph k n) : EJ θ x pc lv (.int a :: st) ph k n := by
  obtain ⟨p, l', e, R', s, m, args, below, meth, c, Q, nL'⟩ := x
  obtain ⟨rfl, rfl, rfl, hx, hb, hml, hown, hts, hG, hb0, hlk, htr, hr, hnm⟩ := hX
  obtain ⟨hd, rfl, ht⟩ := hd
  intro H ls locs L f hP hD hk hS hl
  exact lv_if_ne hx hb hd ht (fun h => kt h H ls locs L f hP hD hk hS hl) (fun h => kf h H ls locs L f hP hD hk hS hl)
theorem e_icmp_ne (hX : e_in cc own nm nL ret R l θ x) {a b : Int32} (hd : e_br cc pc (.if_icmp .ne off) off nx tgt) (kt : ¬ a = b → EJ θ x tgt lv st ph k n) (kf : a = b → EJ θ x nx lv st ph k n) : EJ θ x pc lv (.int b :: .int a :: st) ph k n := by
  obtain ⟨p, l', e, R', s, m, args, below, meth, c, Q, nL'⟩ := x
  obtain ⟨rfl, rfl, rfl, hx, hb, hml, hown, hts, hG, hb0, hlk, htr, hr, hnm⟩ := hX
  obtain ⟨hd, rfl, ht⟩ := hd
  intro H ls locs L f hP hD hk hS hl
  exact lv_icmp_ne hx hb hd ht (fun h => kt h H ls locs L f hP hD hk hS hl) (fun h => kf h H ls locs L f hP hD hk hS hl)
theorem e_if_lt (hX : e_in cc own nm nL ret R l θ x) {a : Int32} (hd : e_br cc pc (.ifCond .lt off) off nx tgt) (kt : a < 0 → EJ θ x tgt lv st ph k n) (kf : ¬ (a < 0) → EJ θ x nx lv st ph k n) : EJ θ x pc lv (.int a :: st) ph k n := by
  obtain ⟨p, l', e, R', s, m, args, below, meth, c, Q, nL'⟩ := x
  obtain ⟨rfl, rfl, rfl, hx, hb, hml, hown, hts, hG, hb0, hlk, htr, hr, hnm⟩ := hX
  obtain ⟨hd, rfl, ht⟩ := hd
  intro H ls locs L f hP hD hk hS hl
  exact lv_if_lt hx hb hd ht (fun h => kt h H ls locs L f hP hD hk hS hl) (fun h => kf h H ls locs L f hP hD hk hS hl)
theorem e_icmp_lt (hX : e_in cc own nm nL ret R l θ x) {a b : Int32} (hd : e_br cc pc (.if_icmp .lt off) off nx tgt) (kt : a < b → EJ θ x tgt lv st ph k n) (kf : ¬ (a < b) → EJ θ x nx lv st ph k n) : EJ θ x pc lv (.int b :: .int a :: st) ph k n := by
  obtain ⟨p, l', e, R', s, m, args, below, meth, c, Q, nL'⟩ := x
  obtain ⟨rfl, rfl, rfl, hx, hb, hml, hown, hts, hG, hb0, hlk, htr, hr, hnm⟩ := hX
  obtain ⟨hd, rfl, ht⟩ := hd
  intro H ls locs L f hP hD hk hS hl
  exact lv_icmp_lt hx hb hd ht (fun h => kt h H ls locs L f hP hD hk hS hl) (fun h => kf h H ls locs L f hP hD hk hS hl)
theorem e_if_ge (hX : e_in cc own nm nL ret R l θ x) {a : Int32} (hd : e_br cc pc (.ifCond .ge off) off nx tgt) (kt : 0 ≤ a → EJ θ x tgt lv st ph k n) (kf : ¬ (0 ≤ a) → EJ θ x nx lv st ph k n) : EJ θ x pc lv (.int a :: st) ph k n := by
  obtain ⟨p, l', e, R', s, m, args, below, meth, c, Q, nL'⟩ := x
  obtain ⟨rfl, rfl, rfl, hx, hb, hml, hown, hts, hG, hb0, hlk, htr, hr, hnm⟩ := hX
  obtain ⟨hd, rfl, ht⟩ := hd
  intro H ls locs L f hP hD hk hS hl
  exact lv_if_ge hx hb hd ht (fun h => kt h H ls locs L f hP hD hk hS hl) (fun h => kf h H ls locs L f hP hD hk hS hl)
theorem e_icmp_ge (hX : e_in cc own nm nL ret R l θ x) {a b : Int32} (hd : e_br cc pc (.if_icmp .ge off) off nx tgt) (kt : b ≤ a → EJ θ x tgt lv st ph k n) (kf : ¬ (b ≤ a) → EJ θ x nx lv st ph k n) : EJ θ x pc lv (.int b :: .int a :: st) ph k n := by
  obtain ⟨p, l', e, R', s, m, args, below, meth, c, Q, nL'⟩ := x
  obtain ⟨rfl, rfl, rfl, hx, hb, hml, hown, hts, hG, hb0, hlk, htr, hr, hnm⟩ := hX
  obtain ⟨hd, rfl, ht⟩ := hd
  intro H ls locs L f hP hD hk hS hl
  exact lv_icmp_ge hx hb hd ht (fun h => kt h H ls locs L f hP hD hk hS hl) (fun h => kf h H ls locs L f hP hD hk hS hl)
theorem e_if_gt (hX : e_in cc own nm nL ret R l θ x) {a : Int32} (hd : e_br cc pc (.ifCond .gt off) off nx tgt) (kt : 0 < a → EJ θ x tgt lv st ph k n) (kf : ¬ (0 < a) → EJ θ x nx lv st ph k n) : EJ θ x pc lv (.int a :: st) ph k n := by
  obtain ⟨p, l', e, R', s, m, args, below, meth, c, Q, nL'⟩ := x
  obtain ⟨rfl, rfl, rfl, hx, hb, hml, hown, hts, hG, hb0, hlk, htr, hr, hnm⟩ := hX
  obtain ⟨hd, rfl, ht⟩ := hd
  intro H ls locs L f hP hD hk hS hl
  exact lv_if_gt hx hb hd ht (fun h => kt h H ls locs L f hP hD hk hS hl) (fun h => kf h H ls locs L f hP hD hk hS hl)
theorem e_icmp_gt (hX : e_in cc own nm nL ret R l θ x) {a b : Int32} (hd : e_br cc pc (.if_icmp .gt off) off nx tgt) (kt : b < a → EJ θ x tgt lv st ph k n) (kf : ¬ (b < a) → EJ θ x nx lv st ph k n) : EJ θ x pc lv (.int b :: .int a :: st) ph k n := by
  obtain ⟨p, l', e, R', s, m, args, below, meth, c, Q, nL'⟩ := x
  obtain ⟨rfl, rfl, rfl, hx, hb, hml, hown, hts, hG, hb0, hlk, htr, hr, hnm⟩ := hX
  obtain ⟨hd, rfl, ht⟩ := hd
  intro H ls locs L f hP hD hk hS hl
  exact lv_icmp_gt hx hb hd ht (fun h => kt h H ls locs L f hP hD hk hS hl) (fun h => kf h H ls locs L f hP hD hk hS hl)
theorem e_if_le (hX : e_in cc own nm nL ret R l θ x) {a : Int32} (hd : e_br cc pc (.ifCond .le off) off nx tgt) (kt : a ≤ 0 → EJ θ x tgt lv st ph k n) (kf : ¬ (a ≤ 0) → EJ θ x nx lv st ph k n) : EJ θ x pc lv (.int a :: st) ph k n := by
  obtain ⟨p, l', e, R', s, m, args, below, meth, c, Q, nL'⟩ := x
  obtain ⟨rfl, rfl, rfl, hx, hb, hml, hown, hts, hG, hb0, hlk, htr, hr, hnm⟩ := hX
  obtain ⟨hd, rfl, ht⟩ := hd
  intro H ls locs L f hP hD hk hS hl
  exact lv_if_le hx hb hd ht (fun h => kt h H ls locs L f hP hD hk hS hl) (fun h => kf h H ls locs L f hP hD hk hS hl)
theorem e_icmp_le (hX : e_in cc own nm nL ret R l θ x) {a b : Int32} (hd : e_br cc pc (.if_icmp .le off) off nx tgt) (kt : a ≤ b → EJ θ x tgt lv st ph k n) (kf : ¬ (a ≤ b) → EJ θ x nx lv st ph k n) : EJ θ x pc lv (.int b :: .int a :: st) ph k n := by
  obtain ⟨p, l', e, R', s, m, args, below, meth, c, Q, nL'⟩ := x
  obtain ⟨rfl, rfl, rfl, hx, hb, hml, hown, hts, hG, hb0, hlk, htr, hr, hnm⟩ := hX
  obtain ⟨hd, rfl, ht⟩ := hd
  intro H ls locs L f hP hD hk hS hl
  exact lv_icmp_le hx hb hd ht (fun h => kt h H ls locs L f hP hD hk hS hl) (fun h => kf h H ls locs L f hP hD hk hS hl)
theorem e_goto (hX : e_in cc own nm nL ret R l θ x) (hd : e_br cc pc (.goto off) off nx tgt) (kk : EJ θ x tgt lv st ph k n) : EJ θ x pc lv st ph k n := by
  obtain ⟨p, l', e, R', s, m, args, below, meth, c, Q, nL'⟩ := x
  obtain ⟨rfl, rfl, rfl, hx, hb, hml, hown, hts, hG, hb0, hlk, htr, hr, hnm⟩ := hX
  obtain ⟨hd, rfl, ht⟩ := hd
  intro H ls locs L f hP hD hk hS hl
  exact lv_goto hx hb hd ht (kk H ls locs L f hP hD hk hS hl)
end ER
