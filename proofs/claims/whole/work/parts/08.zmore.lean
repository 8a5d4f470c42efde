/-! Z: helps of the printed walks -/
theorem zle {a b : Nat} (h : Nat.ble a b = true) : a ≤ b := Nat.le_of_ble_eq_true h
theorem zvin {i : Int32} {n : Nat} (h : decide (i < 0 ∨ n ≤ i.toNatClampNeg) = false) : vp_in i n := of_decide_eq_false h
def zbit (x : Int32) : Prop := x = 0 ∨ x = 1
theorem zbit_n {x : Int32} (h : zbit x) : narrow .boolean (.int x) = .int x := by rcases h with rfl | rfl <;> decide
theorem zbit_f {x : Int32} (h : zbit x) : fits .boolean (.int x) = true := by rcases h with rfl | rfl <;> decide
theorem zlv_args {av : List zV} {lv : List (Nat × zV)} (hl : lv.map Prod.snd = av) (h : ∀ v ∈ av, zok v) : ∀ q ∈ lv, zok q.2 := fun q hq => h q.2 (by rw [← hl]; exact List.mem_map.mpr ⟨q, hq, rfl⟩)
theorem zref_ok_16 {x : Int32} {i : Nat} (q : vp_in x 6) (z : i < zcnt 16) : 6 * i + x.toNatClampNeg < zcnt 17 := by
  have h1 : x.toNatClampNeg < 6 := Nat.not_le.mp fun h => q (Or.inr h)
  have h2 : i < 13 := z
  show 6 * i + x.toNatClampNeg < 78
  omega
theorem zref_ok_11 {x : Int32} {i : Nat} (q : vp_in x 8) (z : i < zcnt 11) : 3 + x.toNatClampNeg < zcnt 15 := by
  have h1 : x.toNatClampNeg < 8 := Nat.not_le.mp fun h => q (Or.inr h)
  show 3 + x.toNatClampNeg < 13
  omega
theorem zref_ok_12 {x : Int32} {i : Nat} (q : vp_in x 2) (z : i < zcnt 12) : 11 + x.toNatClampNeg < zcnt 15 := by
  have h1 : x.toNatClampNeg < 2 := Nat.not_le.mp fun h => q (Or.inr h)
  show 11 + x.toNatClampNeg < 13
  omega
/-- a copy's bounds -/
def zcp (sp dp n : Int32) (n0 n1 : Nat) : Prop := ¬ sp < 0 ∧ ¬ dp < 0 ∧ ¬ n < 0 ∧ sp.toNatClampNeg + n.toNatClampNeg ≤ n0 ∧ dp.toNatClampNeg + n.toNatClampNeg ≤ n1
section ZM
variable {l : Launch} {G : zG} {Y : zY} {E : zE} {pc : Nat} {lv : List (Nat × zV)} {st : List zV} {M : zM} {c k : Nat}
theorem Z_pick (ks : List Nat) {lv2 : List (Nat × zV)} (he : ks.filterMap (fun j => lv[j]?) = lv2) (h : zAt l G Y E pc lv2 st M c k) : zAt l G Y E pc lv st M c k := by
  intro p e s m args below meth cd H locs ls C hlv hst hR hlo hl
  subst he
  have hm : ∀ q ∈ ks.filterMap (fun j => lv[j]?), q ∈ lv := fun q hq => by
    obtain ⟨j, -, hj⟩ := List.mem_filterMap.mp hq
    exact List.mem_of_getElem? hj
  exact h p e s m args below meth cd H locs ls C (fun q hq => hlv q (hm q hq)) hst hR hlo ⟨hl.1, hl.2.1, fun q hq => by
    obtain ⟨q0, h0, rfl⟩ := List.mem_map.mp hq
    exact hl.2.2 _ (List.mem_map.mpr ⟨q0, hm q0 h0, rfl⟩)⟩
theorem zLits_at {own tx : String} {idx : Nat} (i : Nat) (h : zLits[i]? = some (own, idx, tx)) : (own, idx, tx) ∈ zLits := List.mem_of_getElem? h
theorem Z_ldcS {idx : Nat} {tx : String} (hq : (zyO Y, idx, tx) ∈ zLits) (d : decode (zyC Y) pc = .ok (.ldc idx, 2)) (h : ∀ a : Nat, zmT M a = some (zch tx) → zAt l G Y E (pc + 2) lv (va a :: st) M c k) : zAt l G Y E pc lv st M c k := by
  intro p e s m args below meth cd H locs ls C hlv hst hR hlo hl
  exact va_ldcS C.1 C.2.1 C.2.2.2.2.1 (C.2.2.2.2.2.2.2.1.2.1 _ hq) d (h _ (hR.2.2.2.2.2 _ hq) p e s m args below meth cd H locs ls C hlv (zkc trivial hst) hR hlo hl)
theorem Z_ldcSW {idx : Nat} {tx : String} (hq : (zyO Y, idx, tx) ∈ zLits) (d : decode (zyC Y) pc = .ok (.ldc_w idx, 3)) (h : ∀ a : Nat, zmT M a = some (zch tx) → zAt l G Y E (pc + 3) lv (va a :: st) M c k) : zAt l G Y E pc lv st M c k := by
  intro p e s m args below meth cd H locs ls C hlv hst hR hlo hl
  obtain ⟨z1, z2⟩ := C.2.2.2.2.2.2.2.1.2.1 _ hq
  intro T hT X
  obtain ⟨t, a1, b1⟩ := h _ (hR.2.2.2.2.2 _ hq) p e s m args below meth cd H locs ls C hlv (zkc trivial hst) hR hlo hl T hT X
  exact ⟨t, X.ldcStringW C.1 C.2.2.2.2.1 (text := tx) z1 z2 (g := F0 m pc ls (st.map (tr G))) rfl (by rw [C.2.1]; exact d) t a1, b1⟩
theorem Z_tabIn {dflt lo hi : Int} {offs : Array Int} {len : Nat} {x : Int32} {off : Int} {tgt : Nat} (d : decode (zyC Y) pc = .ok (.tableswitch dflt lo hi offs, len)) (j : Nat) (hx : (¬ x.toInt < lo ∧ ¬ hi < x.toInt) ∧ (x.toInt - lo).toNat = j) (ho : offs[j]? = some off) (ht : (pc : Int) + off = (tgt : Int)) (h : zAt l G Y E tgt lv st M c k) : zAt l G Y E pc lv (vi x :: st) M c k := by
  intro p e s m args below meth cd H locs ls C hlv hst hR hlo hl
  exact lv_tableIn C.1 C.2.1 d hx.1.1 hx.1.2 (by rw [hx.2]; exact ho) ht (h p e s m args below meth cd H locs ls C hlv (zk1 hst) hR hlo hl)
theorem Z_tabOut {dflt lo hi : Int} {offs : Array Int} {len : Nat} {x : Int32} {tgt : Nat} (d : decode (zyC Y) pc = .ok (.tableswitch dflt lo hi offs, len)) (hx : x.toInt < lo ∨ hi < x.toInt) (ht : (pc : Int) + dflt = (tgt : Int)) (h : zAt l G Y E tgt lv st M c k) : zAt l G Y E pc lv (vi x :: st) M c k := by
  intro p e s m args below meth cd H locs ls C hlv hst hR hlo hl
  exact lv_tableOut C.1 C.2.1 d hx ht (h p e s m args below meth cd H locs ls C hlv (zk1 hst) hR hlo hl)
theorem zsw_ne {x y : Int32} {n : Int} (h : ¬ x = y) (hy : y.toInt = n) : x.toInt ≠ n := fun e => h (Int32.toInt_inj.mp (e.trans hy.symm))
theorem Z_mmax {idx : Nat} {x y : Int32} (w1 : Cond.methodLink (zyO Y) idx Lib.Math.max.name ∈ zAll) (w2 : Cond.static Lib.Math.max.name ∈ zAll) (w3 : Cond.initialized "java/lang/Math" ∈ zAll) (w4 : Cond.code Lib.Math.max.name Lib.Math.max.code 2 (some .int) ∈ zAll) (hE : zRm Y E.1) (hd : 1 ≤ zyd Y) (hw : (st.map zcat).sum + 13 ≤ 60 * zyd Y) (hc : c ≤ E.1.cells) (hk : k ≤ E.1.slots)
    (d : decode (zyC Y) pc = .ok (.invokestatic idx, 3)) (h : zAt l G Y E (pc + 3) lv (vi (if x < y then y else x) :: st) M c k) : zAt l G Y E pc lv (vi y :: vi x :: st) M c k := by
  intro p e s m args below meth cd H locs ls C hlv hst hR hlo hl
  have hts := C.2.2.2.2.2.1
  exact va_mmax C.1 C.2.1 (C.2.2.2.1.trans hl.1.symm) C.2.2.2.2.1 (hts _ w1) (hts _ w2) (hts _ w3) (hts _ w4) (Nat.le_trans hd hE.1) (by rw [zcats]; exact Nat.le_trans hw hE.2) hc hk d (h p e s m args below meth cd H locs ls C hlv (zkc trivial (zk1 (zk1 hst))) hR hlo hl)
theorem Z_mmin {idx : Nat} {x y : Int32} (w1 : Cond.methodLink (zyO Y) idx Lib.Math.min.name ∈ zAll) (w2 : Cond.static Lib.Math.min.name ∈ zAll) (w3 : Cond.initialized "java/lang/Math" ∈ zAll) (w4 : Cond.code Lib.Math.min.name Lib.Math.min.code 2 (some .int) ∈ zAll) (hE : zRm Y E.1) (hd : 1 ≤ zyd Y) (hw : (st.map zcat).sum + 13 ≤ 60 * zyd Y) (hc : c ≤ E.1.cells) (hk : k ≤ E.1.slots)
    (d : decode (zyC Y) pc = .ok (.invokestatic idx, 3)) (h : zAt l G Y E (pc + 3) lv (vi (if y < x then y else x) :: st) M c k) : zAt l G Y E pc lv (vi y :: vi x :: st) M c k := by
  intro p e s m args below meth cd H locs ls C hlv hst hR hlo hl
  have hts := C.2.2.2.2.2.1
  exact va_mmin C.1 C.2.1 (C.2.2.2.1.trans hl.1.symm) C.2.2.2.2.1 (hts _ w1) (hts _ w2) (hts _ w3) (hts _ w4) (Nat.le_trans hd hE.1) (by rw [zcats]; exact Nat.le_trans hw hE.2) hc hk d (h p e s m args below meth cd H locs ls C hlv (zkc trivial (zk1 (zk1 hst))) hR hlo hl)
theorem Z_mminL {idx : Nat} {x y : Int64} (w1 : Cond.methodLink (zyO Y) idx Lib.MathLoose.min_long.x ∈ zAll) (w2 : Cond.static Lib.MathLoose.min_long.x ∈ zAll) (w3 : Cond.initialized "java/lang/Math" ∈ zAll) (w4 : Cond.code Lib.MathLoose.min_long.x Lib.MathLoose.min_long.code 4 (some .long) ∈ zAll) (hE : zRm Y E.1) (hd : 1 ≤ zyd Y) (hw : (st.map zcat).sum + 15 ≤ 60 * zyd Y) (hc : c ≤ E.1.cells) (hk : k ≤ E.1.slots)
    (d : decode (zyC Y) pc = .ok (.invokestatic idx, 3)) (h : zAt l G Y E (pc + 3) lv (vl (if y < x then y else x) :: st) M c k) : zAt l G Y E pc lv (vl y :: vl x :: st) M c k := by
  intro p e s m args below meth cd H locs ls C hlv hst hR hlo hl
  have hts := C.2.2.2.2.2.1
  exact va_mmin_long C.1 C.2.1 (C.2.2.2.1.trans hl.1.symm) C.2.2.2.2.1 (hts _ w1) (hts _ w2) (hts _ w3) (hts _ w4) (Nat.le_trans hd hE.1) (by rw [zcats]; exact Nat.le_trans hw hE.2) hc hk d (h p e s m args below meth cd H locs ls C hlv (zkc trivial (zk1 (zk1 hst))) hR hlo hl)
theorem znn {z : Int32} (hz : ¬ z < 0) : z.toInt = (z.toNatClampNeg : Int) := by
  have hz0 : (0 : Int) ≤ z.toInt := by
    have := Int32.not_lt.mp hz
    simpa using Int32.le_iff_toInt_le.mp this
  show z.toInt = ((z.toInt.toNat : Nat) : Int)
  omega
/-- System.arraycopy between two rows of ints -/
theorem Z_copyI {idx s0 i0 s1 i1 n0 n1 : Nat} {sp dp n : Int32} (w1 : Cond.methodLink (zyO Y) idx arraycopyName ∈ zAll) (w2 : Cond.native arraycopyName ∈ zAll) (w3 : Cond.static arraycopyName ∈ zAll) (w4 : Cond.initialized "java/lang/System" ∈ zAll) (hk0 : zkd s0 = some (.inr (0, n0))) (hk1 : zkd s1 = some (.inr (0, n1))) (hb : zcp sp dp n n0 n1) (hE : zRm Y E.1) (hd : 1 ≤ zyd Y) (hw : (st.map zcat).sum + (nativeFrameWords "java/lang/System" "arraycopy" 5 + 11) ≤ 60 * zyd Y)
    (d : decode (zyC Y) pc = .ok (.invokestatic idx, 3)) (h : zAt l G Y E (pc + 3) lv st (zsIr M s1 i1 (va_cpy (zmI M s0 i0) (zmI M s1 i1) sp.toNatClampNeg dp.toNatClampNeg n.toNatClampNeg)) c k) : zAt l G Y E pc lv (vi n :: vi dp :: vr s1 i1 :: vi sp :: vr s0 i0 :: st) M c k := by
  intro p e s m args below meth cd H locs ls C hlv hst hR hlo hl
  have hi0 : i0 < zcnt s0 := zkh (zk1 (zk1 (zk1 (zk1 hst))))
  have hi1 : i1 < zcnt s1 := zkh (zk1 (zk1 hst))
  obtain ⟨h1, h2, h3, h4, h5⟩ := hb
  have hts := C.2.2.2.2.2.1
  have hc0 : H[ga G s0 i0]? = some (vp_cell (gA G 0) (n0, .inl (zmI M s0 i0))) := zarr_at hR hi0 hk0
  have hc1 : H[ga G s1 i1]? = some (vp_cell (gA G 0) (n1, .inl (zmI M s1 i1))) := zarr_at hR hi1 hk1
  intro T hT X
  obtain ⟨-, k0, hk0', cm0, hkk0⟩ := (zarrT C (t := 0) (by decide)) n0 (fun j => .int (zmI M s0 i0 j))
  obtain ⟨-, k1, hk1', cm1, hkk1⟩ := (zarrT C (t := 0) (by decide)) n1 (fun j => .int (zmI M s1 i1 j))
  obtain ⟨vm', X', step⟩ := X.arraycopy C.1 C.2.2.2.2.1 (hts _ w1) (hts _ w2) (hts _ w3) (hts _ w4) (src := ga G s0 i0) (dst := ga G s1 i1) (cs := vp_cell (gA G 0) (n0, .inl (zmI M s0 i0))) (cd := vp_cell (gA G 0) (n1, .inl (zmI M s1 i1))) (srcPos := sp) (destPos := dp) (n := n) (by rw [hT]; exact hc0) (by rw [hT]; exact hc1)
    (fun _ h => by cases h) (fun _ h => by cases h) (fun h => by cases h) (fun h => by cases h) hk0' hk1' hkk0 hkk1 (by simp [zty, refKind]) h1 h2 h3
    (by rw [znn h1, znn h3]; show ¬ _ > ((arrV (gA G 0) n0 (fun j => .int (zmI M s0 i0 j))).slots.size : Int); rw [arrV_size]; omega)
    (by rw [znn h2, znn h3]; show ¬ _ > ((arrV (gA G 0) n1 (fun j => .int (zmI M s1 i1 j))).slots.size : Int); rw [arrV_size]; omega)
    (fun vm₁ _ i hi => by
      have e : (vp_cell (gA G 0) (n0, .inl (zmI M s0 i0))).slots.getD (sp.toNatClampNeg + i) .null = .int (zmI M s0 i0 (sp.toNatClampNeg + i)) := by
        show (arrV (gA G 0) n0 (fun j => .int (zmI M s0 i0 j))).slots.getD _ _ = _
        rw [Array.getD_eq_getD_getElem?, arrV_read _ _ (by omega)]
        rfl
      refine ⟨?_, ?_⟩
      · rw [e]
        rfl
      · rw [e]
        exact trivial)
    (g := F0 m pc ls ((vi n :: vi dp :: vr s1 i1 :: vi sp :: vr s0 i0 :: st).map (tr G))) rfl (by rw [C.2.2.2.1]; exact hl.1) (rest := st.map (tr G)) rfl (by rw [C.2.1]; exact d) (Nat.le_trans hd hE.1) (by rw [zcats]; refine Nat.le_trans ?_ hE.2; show 2 * 0 + _ + _ ≤ 60 * zyd Y; omega)
  have e1 : copied (vp_cell (gA G 0) (n0, .inl (zmI M s0 i0))) (vp_cell (gA G 0) (n1, .inl (zmI M s1 i1))) sp dp n = vp_cell (gA G 0) (n1, .inl (va_cpy (zmI M s0 i0) (zmI M s1 i1) sp.toNatClampNeg dp.toNatClampNeg n.toNatClampNeg)) := va_copied (fun z => .int z) (gA G 0) (gA G 0) (zmI M s0 i0) (zmI M s1 i1) h4
  rw [e1] at X' step
  have hlt : ga G s1 i1 < H.size := (Array.getElem?_eq_some_iff.mp hc1).1
  have hheap : ((T.setVm vm').setCell (ga G s1 i1) (vp_cell (gA G 0) (n1, .inl (va_cpy (zmI M s0 i0) (zmI M s1 i1) sp.toNatClampNeg dp.toNatClampNeg n.toNatClampNeg)))).heap = H.setIfInBounds (ga G s1 i1) (vp_cell (gA G 0) (n1, .inl (va_cpy (zmI M s0 i0) (zmI M s1 i1) sp.toNatClampNeg dp.toNatClampNeg n.toNatClampNeg))) := by rw [← hT]; rfl
  have hkd1 : zkd s1 ≠ none := fun e => by rw [hk1] at e; cases e
  have hRep : zRep G (zsIr M s1 i1 (va_cpy (zmI M s0 i0) (zmI M s1 i1) sp.toNatClampNeg dp.toNatClampNeg n.toNatClampNeg)) (H.setIfInBounds (ga G s1 i1) (vp_cell (gA G 0) (n1, .inl (va_cpy (zmI M s0 i0) (zmI M s1 i1) sp.toNatClampNeg dp.toNatClampNeg n.toNatClampNeg)))) := by
    refine zRep.put hR hi1 (by simp) (fun q hq => by simp [Array.getElem?_setIfInBounds, Ne.symm hq]) ?_ ?_ rfl hkd1
    · unfold zhold
      rw [hk1]
      show (H.setIfInBounds (ga G s1 i1) _)[_]? = some (vp_cell _ (n1, .inl _))
      simp [Array.getElem?_setIfInBounds, hlt, zmI, zsIr, zrw]
    · intro s i hh
      simp [zmI, zmL, zmD, zmN, zsIr, zrw, hh]
  obtain ⟨t, a1, b1⟩ := h p e s m args below meth cd _ _ ls C hlv (zk1 (zk1 (zk1 (zk1 (zk1 hst))))) hRep (fun q hq => by
    rcases List.mem_append.mp hq with h | h
    · exact hlo q h
    · obtain ⟨z, -, hz⟩ := List.mem_map.mp h
      rw [← hz]
      exact zfr_at hR hi1 (fun e => by rw [hk1] at e; cases e)) hl _ hheap X'
  exact ⟨t, step t a1, b1⟩
/-- System.arraycopy between two rows of longs -/
theorem Z_copyL {idx s0 i0 s1 i1 n0 n1 : Nat} {sp dp n : Int32} (w1 : Cond.methodLink (zyO Y) idx arraycopyName ∈ zAll) (w2 : Cond.native arraycopyName ∈ zAll) (w3 : Cond.static arraycopyName ∈ zAll) (w4 : Cond.initialized "java/lang/System" ∈ zAll) (hk0 : zkd s0 = some (.inr (1, n0))) (hk1 : zkd s1 = some (.inr (1, n1))) (hb : zcp sp dp n n0 n1) (hE : zRm Y E.1) (hd : 1 ≤ zyd Y) (hw : (st.map zcat).sum + (nativeFrameWords "java/lang/System" "arraycopy" 5 + 11) ≤ 60 * zyd Y)
    (d : decode (zyC Y) pc = .ok (.invokestatic idx, 3)) (h : zAt l G Y E (pc + 3) lv st (zsLr M s1 i1 (va_cpy (zmL M s0 i0) (zmL M s1 i1) sp.toNatClampNeg dp.toNatClampNeg n.toNatClampNeg)) c k) : zAt l G Y E pc lv (vi n :: vi dp :: vr s1 i1 :: vi sp :: vr s0 i0 :: st) M c k := by
  intro p e s m args below meth cd H locs ls C hlv hst hR hlo hl
  have hi0 : i0 < zcnt s0 := zkh (zk1 (zk1 (zk1 (zk1 hst))))
  have hi1 : i1 < zcnt s1 := zkh (zk1 (zk1 hst))
  obtain ⟨h1, h2, h3, h4, h5⟩ := hb
  have hts := C.2.2.2.2.2.1
  have hc0 : H[ga G s0 i0]? = some (vp_cell (gA G 1) (n0, .inr (.inl (zmL M s0 i0)))) := zarr_at hR hi0 hk0
  have hc1 : H[ga G s1 i1]? = some (vp_cell (gA G 1) (n1, .inr (.inl (zmL M s1 i1)))) := zarr_at hR hi1 hk1
  intro T hT X
  obtain ⟨-, k0, hk0', cm0, hkk0⟩ := (zarrT C (t := 1) (by decide)) n0 (fun j => .long (zmL M s0 i0 j))
  obtain ⟨-, k1, hk1', cm1, hkk1⟩ := (zarrT C (t := 1) (by decide)) n1 (fun j => .long (zmL M s1 i1 j))
  obtain ⟨vm', X', step⟩ := X.arraycopy C.1 C.2.2.2.2.1 (hts _ w1) (hts _ w2) (hts _ w3) (hts _ w4) (src := ga G s0 i0) (dst := ga G s1 i1) (cs := vp_cell (gA G 1) (n0, .inr (.inl (zmL M s0 i0)))) (cd := vp_cell (gA G 1) (n1, .inr (.inl (zmL M s1 i1)))) (srcPos := sp) (destPos := dp) (n := n) (by rw [hT]; exact hc0) (by rw [hT]; exact hc1)
    (fun _ h => by cases h) (fun _ h => by cases h) (fun h => by cases h) (fun h => by cases h) hk0' hk1' hkk0 hkk1 (by simp [zty, refKind]) h1 h2 h3
    (by rw [znn h1, znn h3]; show ¬ _ > ((arrV (gA G 1) n0 (fun j => .long (zmL M s0 i0 j))).slots.size : Int); rw [arrV_size]; omega)
    (by rw [znn h2, znn h3]; show ¬ _ > ((arrV (gA G 1) n1 (fun j => .long (zmL M s1 i1 j))).slots.size : Int); rw [arrV_size]; omega)
    (fun vm₁ _ i hi => by
      have e : (vp_cell (gA G 1) (n0, .inr (.inl (zmL M s0 i0)))).slots.getD (sp.toNatClampNeg + i) .null = .long (zmL M s0 i0 (sp.toNatClampNeg + i)) := by
        show (arrV (gA G 1) n0 (fun j => .long (zmL M s0 i0 j))).slots.getD _ _ = _
        rw [Array.getD_eq_getD_getElem?, arrV_read _ _ (by omega)]
        rfl
      refine ⟨?_, ?_⟩
      · rw [e]
        rfl
      · rw [e]
        exact trivial)
    (g := F0 m pc ls ((vi n :: vi dp :: vr s1 i1 :: vi sp :: vr s0 i0 :: st).map (tr G))) rfl (by rw [C.2.2.2.1]; exact hl.1) (rest := st.map (tr G)) rfl (by rw [C.2.1]; exact d) (Nat.le_trans hd hE.1) (by rw [zcats]; refine Nat.le_trans ?_ hE.2; show 2 * 0 + _ + _ ≤ 60 * zyd Y; omega)
  have e1 : copied (vp_cell (gA G 1) (n0, .inr (.inl (zmL M s0 i0)))) (vp_cell (gA G 1) (n1, .inr (.inl (zmL M s1 i1)))) sp dp n = vp_cell (gA G 1) (n1, .inr (.inl (va_cpy (zmL M s0 i0) (zmL M s1 i1) sp.toNatClampNeg dp.toNatClampNeg n.toNatClampNeg))) := va_copied (fun z => .long z) (gA G 1) (gA G 1) (zmL M s0 i0) (zmL M s1 i1) h4
  rw [e1] at X' step
  have hlt : ga G s1 i1 < H.size := (Array.getElem?_eq_some_iff.mp hc1).1
  have hheap : ((T.setVm vm').setCell (ga G s1 i1) (vp_cell (gA G 1) (n1, .inr (.inl (va_cpy (zmL M s0 i0) (zmL M s1 i1) sp.toNatClampNeg dp.toNatClampNeg n.toNatClampNeg))))).heap = H.setIfInBounds (ga G s1 i1) (vp_cell (gA G 1) (n1, .inr (.inl (va_cpy (zmL M s0 i0) (zmL M s1 i1) sp.toNatClampNeg dp.toNatClampNeg n.toNatClampNeg)))) := by rw [← hT]; rfl
  have hkd1 : zkd s1 ≠ none := fun e => by rw [hk1] at e; cases e
  have hRep : zRep G (zsLr M s1 i1 (va_cpy (zmL M s0 i0) (zmL M s1 i1) sp.toNatClampNeg dp.toNatClampNeg n.toNatClampNeg)) (H.setIfInBounds (ga G s1 i1) (vp_cell (gA G 1) (n1, .inr (.inl (va_cpy (zmL M s0 i0) (zmL M s1 i1) sp.toNatClampNeg dp.toNatClampNeg n.toNatClampNeg))))) := by
    refine zRep.put hR hi1 (by simp) (fun q hq => by simp [Array.getElem?_setIfInBounds, Ne.symm hq]) ?_ ?_ rfl hkd1
    · unfold zhold
      rw [hk1]
      show (H.setIfInBounds (ga G s1 i1) _)[_]? = some (vp_cell _ (n1, .inr (.inl _)))
      simp [Array.getElem?_setIfInBounds, hlt, zmL, zsLr, zrw]
    · intro s i hh
      simp [zmI, zmL, zmD, zmN, zsLr, zrw, hh]
  obtain ⟨t, a1, b1⟩ := h p e s m args below meth cd _ _ ls C hlv (zk1 (zk1 (zk1 (zk1 (zk1 hst))))) hRep (fun q hq => by
    rcases List.mem_append.mp hq with h | h
    · exact hlo q h
    · obtain ⟨z, -, hz⟩ := List.mem_map.mp h
      rw [← hz]
      exact zfr_at hR hi1 (fun e => by rw [hk1] at e; cases e)) hl _ hheap X'
  exact ⟨t, step t a1, b1⟩
theorem Z_ialdK {s0 i0 n j : Nat} {x : Int32} (hk : zkd s0 = some (.inr (0, n))) (hj : x.toNatClampNeg = j) (hin : vp_in x n) (d : decode (zyC Y) pc = .ok (.iaload, 1)) (h : zAt l G Y E (pc + 1) lv (vi (zmI M s0 i0 j) :: st) M c k) : zAt l G Y E pc lv (vi x :: vr s0 i0 :: st) M c k := by
  subst hj; exact Z_iald hk hin d h
theorem Z_zaldK {s0 i0 n j : Nat} {x : Int32} (hk : zkd s0 = some (.inr (2, n))) (hj : x.toNatClampNeg = j) (hin : vp_in x n) (d : decode (zyC Y) pc = .ok (.baload, 1)) (h : zAt l G Y E (pc + 1) lv (vi (zmI M s0 i0 j) :: st) M c k) : zAt l G Y E pc lv (vi x :: vr s0 i0 :: st) M c k := by
  subst hj; exact Z_zald hk hin d h
theorem Z_laldK {s0 i0 n j : Nat} {x : Int32} (hk : zkd s0 = some (.inr (1, n))) (hj : x.toNatClampNeg = j) (hin : vp_in x n) (d : decode (zyC Y) pc = .ok (.laload, 1)) (h : zAt l G Y E (pc + 1) lv (vl (zmL M s0 i0 j) :: st) M c k) : zAt l G Y E pc lv (vi x :: vr s0 i0 :: st) M c k := by
  subst hj; exact Z_lald hk hin d h
theorem Z_daldK {s0 i0 n j : Nat} {x : Int32} (hk : zkd s0 = some (.inr (5, n))) (hj : x.toNatClampNeg = j) (hin : vp_in x n) (d : decode (zyC Y) pc = .ok (.daload, 1)) (h : zAt l G Y E (pc + 1) lv (vd (zmD M s0 i0 j) :: st) M c k) : zAt l G Y E pc lv (vi x :: vr s0 i0 :: st) M c k := by
  subst hj; exact Z_dald hk hin d h
theorem Z_iastK {s0 i0 n j : Nat} {x y : Int32} (hk : zkd s0 = some (.inr (0, n))) (hj : x.toNatClampNeg = j) (hin : vp_in x n) (d : decode (zyC Y) pc = .ok (.iastore, 1)) (h : zAt l G Y E (pc + 1) lv st (zsI M s0 i0 j y) c k) : zAt l G Y E pc lv (vi y :: vi x :: vr s0 i0 :: st) M c k := by
  subst hj; exact Z_iast hk hin d h
theorem Z_zastK {s0 i0 n j : Nat} {x y : Int32} (hk : zkd s0 = some (.inr (2, n))) (hj : x.toNatClampNeg = j) (hin : vp_in x n) (hn : narrow .boolean (.int y) = .int y) (d : decode (zyC Y) pc = .ok (.bastore, 1)) (h : zAt l G Y E (pc + 1) lv st (zsI M s0 i0 j y) c k) : zAt l G Y E pc lv (vi y :: vi x :: vr s0 i0 :: st) M c k := by
  subst hj; exact Z_zast hk hin hn d h
theorem Z_lastK {s0 i0 n j : Nat} {x : Int32} {y : Int64} (hk : zkd s0 = some (.inr (1, n))) (hj : x.toNatClampNeg = j) (hin : vp_in x n) (d : decode (zyC Y) pc = .ok (.lastore, 1)) (h : zAt l G Y E (pc + 1) lv st (zsL M s0 i0 j y) c k) : zAt l G Y E pc lv (vl y :: vi x :: vr s0 i0 :: st) M c k := by
  subst hj; exact Z_last hk hin d h
theorem Z_dastK {s0 i0 n j : Nat} {x : Int32} {y : UInt64} (hk : zkd s0 = some (.inr (5, n))) (hj : x.toNatClampNeg = j) (hin : vp_in x n) (d : decode (zyC Y) pc = .ok (.dastore, 1)) (h : zAt l G Y E (pc + 1) lv st (zsD M s0 i0 j y) c k) : zAt l G Y E pc lv (vd y :: vi x :: vr s0 i0 :: st) M c k := by
  subst hj; exact Z_dast hk hin d h
end ZM
theorem zRm_M {Y : zY} {mc ms : Nat} : zRm Y (zRoom (zyd Y) mc ms) := ⟨Nat.le_refl _, Nat.le_refl _⟩
abbrev zEI (G : zG) (Y : zY) (K : Int32 → zM → Prop) : zE := zEM G Y 0 0 (zKI K, none)
abbrev zEL (G : zG) (Y : zY) (K : Int64 → zM → Prop) : zE := zEM G Y 0 0 (zKL K, none)
abbrev zED (G : zG) (Y : zY) (K : UInt64 → zM → Prop) : zE := zEM G Y 0 0 (zKD K, none)
abbrev zEF (G : zG) (Y : zY) (K : UInt32 → zM → Prop) : zE := zEM G Y 0 0 (zKF K, none)
abbrev zEA (G : zG) (Y : zY) (K : Nat → zM → Prop) : zE := zEM G Y 0 0 (zKA K, none)
abbrev zER (G : zG) (Y : zY) (K : zI → zM → Prop) : zE := zEM G Y 0 0 (zKR K, none)
abbrev zEV (G : zG) (Y : zY) (K : zM → Prop) : zE := zEM G Y 0 0 (zKV K, none)
theorem zsw2 {x : Int32} (h0 : ¬ x = 0) (h1 : ¬ x = 1) : x.toInt < 0 ∨ (1 : Int) < x.toInt := by
  have q0 := zsw_ne (n := 0) h0 (by decide)
  have q1 := zsw_ne (n := 1) h1 (by decide)
  omega
theorem zsw3 {x : Int32} (h0 : ¬ x = 0) (h1 : ¬ x = 1) (h2 : ¬ x = 2) : x.toInt < 0 ∨ (2 : Int) < x.toInt := by
  have q0 := zsw_ne (n := 0) h0 (by decide)
  have q1 := zsw_ne (n := 1) h1 (by decide)
  have q2 := zsw_ne (n := 2) h2 (by decide)
  omega
theorem zsw4 {x : Int32} (h0 : ¬ x = 0) (h1 : ¬ x = 1) (h2 : ¬ x = 2) (h3 : ¬ x = 3) : x.toInt < 0 ∨ (3 : Int) < x.toInt := by
  have q0 := zsw_ne (n := 0) h0 (by decide)
  have q1 := zsw_ne (n := 1) h1 (by decide)
  have q2 := zsw_ne (n := 2) h2 (by decide)
  have q3 := zsw_ne (n := 3) h3 (by decide)
  omega
theorem zsw5 {x : Int32} (h0 : ¬ x = 0) (h1 : ¬ x = 1) (h2 : ¬ x = 2) (h3 : ¬ x = 3) (h4 : ¬ x = 4) : x.toInt < 0 ∨ (4 : Int) < x.toInt := by
  have q0 := zsw_ne (n := 0) h0 (by decide)
  have q1 := zsw_ne (n := 1) h1 (by decide)
  have q2 := zsw_ne (n := 2) h2 (by decide)
  have q3 := zsw_ne (n := 3) h3 (by decide)
  have q4 := zsw_ne (n := 4) h4 (by decide)
  omega
theorem zsw6 {x : Int32} (h0 : ¬ x = 0) (h1 : ¬ x = 1) (h2 : ¬ x = 2) (h3 : ¬ x = 3) (h4 : ¬ x = 4) (h5 : ¬ x = 5) : x.toInt < 0 ∨ (5 : Int) < x.toInt := by
  have q0 := zsw_ne (n := 0) h0 (by decide)
  have q1 := zsw_ne (n := 1) h1 (by decide)
  have q2 := zsw_ne (n := 2) h2 (by decide)
  have q3 := zsw_ne (n := 3) h3 (by decide)
  have q4 := zsw_ne (n := 4) h4 (by decide)
  have q5 := zsw_ne (n := 5) h5 (by decide)
  omega
theorem zsw7 {x : Int32} (h0 : ¬ x = 0) (h1 : ¬ x = 1) (h2 : ¬ x = 2) (h3 : ¬ x = 3) (h4 : ¬ x = 4) (h5 : ¬ x = 5) (h6 : ¬ x = 6) : x.toInt < 0 ∨ (6 : Int) < x.toInt := by
  have q0 := zsw_ne (n := 0) h0 (by decide)
  have q1 := zsw_ne (n := 1) h1 (by decide)
  have q2 := zsw_ne (n := 2) h2 (by decide)
  have q3 := zsw_ne (n := 3) h3 (by decide)
  have q4 := zsw_ne (n := 4) h4 (by decide)
  have q5 := zsw_ne (n := 5) h5 (by decide)
  have q6 := zsw_ne (n := 6) h6 (by decide)
  omega
theorem zsw8 {x : Int32} (h0 : ¬ x = 0) (h1 : ¬ x = 1) (h2 : ¬ x = 2) (h3 : ¬ x = 3) (h4 : ¬ x = 4) (h5 : ¬ x = 5) (h6 : ¬ x = 6) (h7 : ¬ x = 7) : x.toInt < 0 ∨ (7 : Int) < x.toInt := by
  have q0 := zsw_ne (n := 0) h0 (by decide)
  have q1 := zsw_ne (n := 1) h1 (by decide)
  have q2 := zsw_ne (n := 2) h2 (by decide)
  have q3 := zsw_ne (n := 3) h3 (by decide)
  have q4 := zsw_ne (n := 4) h4 (by decide)
  have q5 := zsw_ne (n := 5) h5 (by decide)
  have q6 := zsw_ne (n := 6) h6 (by decide)
  have q7 := zsw_ne (n := 7) h7 (by decide)
  omega
theorem zsw9 {x : Int32} (h0 : ¬ x = 0) (h1 : ¬ x = 1) (h2 : ¬ x = 2) (h3 : ¬ x = 3) (h4 : ¬ x = 4) (h5 : ¬ x = 5) (h6 : ¬ x = 6) (h7 : ¬ x = 7) (h8 : ¬ x = 8) : x.toInt < 0 ∨ (8 : Int) < x.toInt := by
  have q0 := zsw_ne (n := 0) h0 (by decide)
  have q1 := zsw_ne (n := 1) h1 (by decide)
  have q2 := zsw_ne (n := 2) h2 (by decide)
  have q3 := zsw_ne (n := 3) h3 (by decide)
  have q4 := zsw_ne (n := 4) h4 (by decide)
  have q5 := zsw_ne (n := 5) h5 (by decide)
  have q6 := zsw_ne (n := 6) h6 (by decide)
  have q7 := zsw_ne (n := 7) h7 (by decide)
  have q8 := zsw_ne (n := 8) h8 (by decide)
  omega
theorem zsw10 {x : Int32} (h0 : ¬ x = 0) (h1 : ¬ x = 1) (h2 : ¬ x = 2) (h3 : ¬ x = 3) (h4 : ¬ x = 4) (h5 : ¬ x = 5) (h6 : ¬ x = 6) (h7 : ¬ x = 7) (h8 : ¬ x = 8) (h9 : ¬ x = 9) : x.toInt < 0 ∨ (9 : Int) < x.toInt := by
  have q0 := zsw_ne (n := 0) h0 (by decide)
  have q1 := zsw_ne (n := 1) h1 (by decide)
  have q2 := zsw_ne (n := 2) h2 (by decide)
  have q3 := zsw_ne (n := 3) h3 (by decide)
  have q4 := zsw_ne (n := 4) h4 (by decide)
  have q5 := zsw_ne (n := 5) h5 (by decide)
  have q6 := zsw_ne (n := 6) h6 (by decide)
  have q7 := zsw_ne (n := 7) h7 (by decide)
  have q8 := zsw_ne (n := 8) h8 (by decide)
  have q9 := zsw_ne (n := 9) h9 (by decide)
  omega
theorem zsw11 {x : Int32} (h0 : ¬ x = 0) (h1 : ¬ x = 1) (h2 : ¬ x = 2) (h3 : ¬ x = 3) (h4 : ¬ x = 4) (h5 : ¬ x = 5) (h6 : ¬ x = 6) (h7 : ¬ x = 7) (h8 : ¬ x = 8) (h9 : ¬ x = 9) (h10 : ¬ x = 10) : x.toInt < 0 ∨ (10 : Int) < x.toInt := by
  have q0 := zsw_ne (n := 0) h0 (by decide)
  have q1 := zsw_ne (n := 1) h1 (by decide)
  have q2 := zsw_ne (n := 2) h2 (by decide)
  have q3 := zsw_ne (n := 3) h3 (by decide)
  have q4 := zsw_ne (n := 4) h4 (by decide)
  have q5 := zsw_ne (n := 5) h5 (by decide)
  have q6 := zsw_ne (n := 6) h6 (by decide)
  have q7 := zsw_ne (n := 7) h7 (by decide)
  have q8 := zsw_ne (n := 8) h8 (by decide)
  have q9 := zsw_ne (n := 9) h9 (by decide)
  have q10 := zsw_ne (n := 10) h10 (by decide)
  omega
theorem zsw12 {x : Int32} (h0 : ¬ x = 0) (h1 : ¬ x = 1) (h2 : ¬ x = 2) (h3 : ¬ x = 3) (h4 : ¬ x = 4) (h5 : ¬ x = 5) (h6 : ¬ x = 6) (h7 : ¬ x = 7) (h8 : ¬ x = 8) (h9 : ¬ x = 9) (h10 : ¬ x = 10) (h11 : ¬ x = 11) : x.toInt < 0 ∨ (11 : Int) < x.toInt := by
  have q0 := zsw_ne (n := 0) h0 (by decide)
  have q1 := zsw_ne (n := 1) h1 (by decide)
  have q2 := zsw_ne (n := 2) h2 (by decide)
  have q3 := zsw_ne (n := 3) h3 (by decide)
  have q4 := zsw_ne (n := 4) h4 (by decide)
  have q5 := zsw_ne (n := 5) h5 (by decide)
  have q6 := zsw_ne (n := 6) h6 (by decide)
  have q7 := zsw_ne (n := 7) h7 (by decide)
  have q8 := zsw_ne (n := 8) h8 (by decide)
  have q9 := zsw_ne (n := 9) h9 (by decide)
  have q10 := zsw_ne (n := 10) h10 (by decide)
  have q11 := zsw_ne (n := 11) h11 (by decide)
  omega
theorem zsw13 {x : Int32} (h0 : ¬ x = 0) (h1 : ¬ x = 1) (h2 : ¬ x = 2) (h3 : ¬ x = 3) (h4 : ¬ x = 4) (h5 : ¬ x = 5) (h6 : ¬ x = 6) (h7 : ¬ x = 7) (h8 : ¬ x = 8) (h9 : ¬ x = 9) (h10 : ¬ x = 10) (h11 : ¬ x = 11) (h12 : ¬ x = 12) : x.toInt < 0 ∨ (12 : Int) < x.toInt := by
  have q0 := zsw_ne (n := 0) h0 (by decide)
  have q1 := zsw_ne (n := 1) h1 (by decide)
  have q2 := zsw_ne (n := 2) h2 (by decide)
  have q3 := zsw_ne (n := 3) h3 (by decide)
  have q4 := zsw_ne (n := 4) h4 (by decide)
  have q5 := zsw_ne (n := 5) h5 (by decide)
  have q6 := zsw_ne (n := 6) h6 (by decide)
  have q7 := zsw_ne (n := 7) h7 (by decide)
  have q8 := zsw_ne (n := 8) h8 (by decide)
  have q9 := zsw_ne (n := 9) h9 (by decide)
  have q10 := zsw_ne (n := 10) h10 (by decide)
  have q11 := zsw_ne (n := 11) h11 (by decide)
  have q12 := zsw_ne (n := 12) h12 (by decide)
  omega
theorem zsw14 {x : Int32} (h0 : ¬ x = 0) (h1 : ¬ x = 1) (h2 : ¬ x = 2) (h3 : ¬ x = 3) (h4 : ¬ x = 4) (h5 : ¬ x = 5) (h6 : ¬ x = 6) (h7 : ¬ x = 7) (h8 : ¬ x = 8) (h9 : ¬ x = 9) (h10 : ¬ x = 10) (h11 : ¬ x = 11) (h12 : ¬ x = 12) (h13 : ¬ x = 13) : x.toInt < 0 ∨ (13 : Int) < x.toInt := by
  have q0 := zsw_ne (n := 0) h0 (by decide)
  have q1 := zsw_ne (n := 1) h1 (by decide)
  have q2 := zsw_ne (n := 2) h2 (by decide)
  have q3 := zsw_ne (n := 3) h3 (by decide)
  have q4 := zsw_ne (n := 4) h4 (by decide)
  have q5 := zsw_ne (n := 5) h5 (by decide)
  have q6 := zsw_ne (n := 6) h6 (by decide)
  have q7 := zsw_ne (n := 7) h7 (by decide)
  have q8 := zsw_ne (n := 8) h8 (by decide)
  have q9 := zsw_ne (n := 9) h9 (by decide)
  have q10 := zsw_ne (n := 10) h10 (by decide)
  have q11 := zsw_ne (n := 11) h11 (by decide)
  have q12 := zsw_ne (n := 12) h12 (by decide)
  have q13 := zsw_ne (n := 13) h13 (by decide)
  omega
theorem zsw15 {x : Int32} (h0 : ¬ x = 0) (h1 : ¬ x = 1) (h2 : ¬ x = 2) (h3 : ¬ x = 3) (h4 : ¬ x = 4) (h5 : ¬ x = 5) (h6 : ¬ x = 6) (h7 : ¬ x = 7) (h8 : ¬ x = 8) (h9 : ¬ x = 9) (h10 : ¬ x = 10) (h11 : ¬ x = 11) (h12 : ¬ x = 12) (h13 : ¬ x = 13) (h14 : ¬ x = 14) : x.toInt < 0 ∨ (14 : Int) < x.toInt := by
  have q0 := zsw_ne (n := 0) h0 (by decide)
  have q1 := zsw_ne (n := 1) h1 (by decide)
  have q2 := zsw_ne (n := 2) h2 (by decide)
  have q3 := zsw_ne (n := 3) h3 (by decide)
  have q4 := zsw_ne (n := 4) h4 (by decide)
  have q5 := zsw_ne (n := 5) h5 (by decide)
  have q6 := zsw_ne (n := 6) h6 (by decide)
  have q7 := zsw_ne (n := 7) h7 (by decide)
  have q8 := zsw_ne (n := 8) h8 (by decide)
  have q9 := zsw_ne (n := 9) h9 (by decide)
  have q10 := zsw_ne (n := 10) h10 (by decide)
  have q11 := zsw_ne (n := 11) h11 (by decide)
  have q12 := zsw_ne (n := 12) h12 (by decide)
  have q13 := zsw_ne (n := 13) h13 (by decide)
  have q14 := zsw_ne (n := 14) h14 (by decide)
  omega
theorem zsw42 {x : Int32} (h0 : ¬ x = 0) (h1 : ¬ x = 1) (h2 : ¬ x = 2) (h3 : ¬ x = 3) (h4 : ¬ x = 4) (h5 : ¬ x = 5) (h6 : ¬ x = 6) (h7 : ¬ x = 7) (h8 : ¬ x = 8) (h9 : ¬ x = 9) (h10 : ¬ x = 10) (h11 : ¬ x = 11) (h12 : ¬ x = 12) (h13 : ¬ x = 13) (h14 : ¬ x = 14) (h15 : ¬ x = 15) (h16 : ¬ x = 16) (h17 : ¬ x = 17) (h18 : ¬ x = 18) (h19 : ¬ x = 19) (h20 : ¬ x = 20) (h21 : ¬ x = 21) (h22 : ¬ x = 22) (h23 : ¬ x = 23) (h24 : ¬ x = 24) (h25 : ¬ x = 25) (h26 : ¬ x = 26) (h27 : ¬ x = 27) (h28 : ¬ x = 28) (h29 : ¬ x = 29) (h30 : ¬ x = 30) (h31 : ¬ x = 31) (h32 : ¬ x = 32) (h33 : ¬ x = 33) (h34 : ¬ x = 34) (h35 : ¬ x = 35) (h36 : ¬ x = 36) (h37 : ¬ x = 37) (h38 : ¬ x = 38) (h39 : ¬ x = 39) (h40 : ¬ x = 40) (h41 : ¬ x = 41) : x.toInt < 0 ∨ (41 : Int) < x.toInt := by
  have q0 := zsw_ne (n := 0) h0 (by decide)
  have q1 := zsw_ne (n := 1) h1 (by decide)
  have q2 := zsw_ne (n := 2) h2 (by decide)
  have q3 := zsw_ne (n := 3) h3 (by decide)
  have q4 := zsw_ne (n := 4) h4 (by decide)
  have q5 := zsw_ne (n := 5) h5 (by decide)
  have q6 := zsw_ne (n := 6) h6 (by decide)
  have q7 := zsw_ne (n := 7) h7 (by decide)
  have q8 := zsw_ne (n := 8) h8 (by decide)
  have q9 := zsw_ne (n := 9) h9 (by decide)
  have q10 := zsw_ne (n := 10) h10 (by decide)
  have q11 := zsw_ne (n := 11) h11 (by decide)
  have q12 := zsw_ne (n := 12) h12 (by decide)
  have q13 := zsw_ne (n := 13) h13 (by decide)
  have q14 := zsw_ne (n := 14) h14 (by decide)
  have q15 := zsw_ne (n := 15) h15 (by decide)
  have q16 := zsw_ne (n := 16) h16 (by decide)
  have q17 := zsw_ne (n := 17) h17 (by decide)
  have q18 := zsw_ne (n := 18) h18 (by decide)
  have q19 := zsw_ne (n := 19) h19 (by decide)
  have q20 := zsw_ne (n := 20) h20 (by decide)
  have q21 := zsw_ne (n := 21) h21 (by decide)
  have q22 := zsw_ne (n := 22) h22 (by decide)
  have q23 := zsw_ne (n := 23) h23 (by decide)
  have q24 := zsw_ne (n := 24) h24 (by decide)
  have q25 := zsw_ne (n := 25) h25 (by decide)
  have q26 := zsw_ne (n := 26) h26 (by decide)
  have q27 := zsw_ne (n := 27) h27 (by decide)
  have q28 := zsw_ne (n := 28) h28 (by decide)
  have q29 := zsw_ne (n := 29) h29 (by decide)
  have q30 := zsw_ne (n := 30) h30 (by decide)
  have q31 := zsw_ne (n := 31) h31 (by decide)
  have q32 := zsw_ne (n := 32) h32 (by decide)
  have q33 := zsw_ne (n := 33) h33 (by decide)
  have q34 := zsw_ne (n := 34) h34 (by decide)
  have q35 := zsw_ne (n := 35) h35 (by decide)
  have q36 := zsw_ne (n := 36) h36 (by decide)
  have q37 := zsw_ne (n := 37) h37 (by decide)
  have q38 := zsw_ne (n := 38) h38 (by decide)
  have q39 := zsw_ne (n := 39) h39 (by decide)
  have q40 := zsw_ne (n := 40) h40 (by decide)
  have q41 := zsw_ne (n := 41) h41 (by decide)
  omega
