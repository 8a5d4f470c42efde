section ZR
variable {l : Launch} {G : zG} {Y : zY} {E : zE} {pc : Nat} {lv : List (Nat × zV)} {st : List zV} {M : zM} {c k : Nat}
theorem Z_iconst {n : Int} {v : Int32} (hv : Int32.ofInt n = v) (d : decode (zyC Y) pc = .ok (.iconst n, 1)) (h : zAt l G Y E (pc + 1) lv (vi v :: st) M c k) : zAt l G Y E (pc) lv (st) M c k := by
  intro p e s m args below meth cd H locs ls C hlv hst hR hlo hl
  exact lv_iconst C.1 C.2.1 d hv (h p e s m args below meth cd H locs ls C hlv (zkc trivial hst) hR hlo hl)
theorem Z_bipush {n : Int} {v : Int32} (hv : (Int8.ofInt n).toInt32 = v) (d : decode (zyC Y) pc = .ok (.bipush n, 2)) (h : zAt l G Y E (pc + 2) lv (vi v :: st) M c k) : zAt l G Y E (pc) lv (st) M c k := by
  intro p e s m args below meth cd H locs ls C hlv hst hR hlo hl
  exact lv_bipush C.1 C.2.1 d hv (h p e s m args below meth cd H locs ls C hlv (zkc trivial hst) hR hlo hl)
theorem Z_sipush {n : Int} {v : Int32} (hv : (Int16.ofInt n).toInt32 = v) (d : decode (zyC Y) pc = .ok (.sipush n, 3)) (h : zAt l G Y E (pc + 3) lv (vi v :: st) M c k) : zAt l G Y E (pc) lv (st) M c k := by
  intro p e s m args below meth cd H locs ls C hlv hst hR hlo hl
  exact lv_sipush C.1 C.2.1 d hv (h p e s m args below meth cd H locs ls C hlv (zkc trivial hst) hR hlo hl)
theorem Z_lconst {n : Fin 2} {v : Int64} (hv : Int64.ofNat (n : Nat) = v) (d : decode (zyC Y) pc = .ok (.lconst n, 1)) (h : zAt l G Y E (pc + 1) lv (vl v :: st) M c k) : zAt l G Y E (pc) lv (st) M c k := by
  intro p e s m args below meth cd H locs ls C hlv hst hR hlo hl
  exact lv_lconst C.1 C.2.1 d hv (h p e s m args below meth cd H locs ls C hlv (zkc trivial hst) hR hlo hl)
theorem Z_fconst0  (d : decode (zyC Y) pc = .ok (.fconst 0, 1)) (h : zAt l G Y E (pc + 1) lv (vfl FP.fconst0 :: st) M c k) : zAt l G Y E (pc) lv (st) M c k := by
  intro p e s m args below meth cd H locs ls C hlv hst hR hlo hl
  exact lv_fconst0 C.1 C.2.1 d (h p e s m args below meth cd H locs ls C hlv (zkc trivial hst) hR hlo hl)
theorem Z_dconst0  (d : decode (zyC Y) pc = .ok (.dconst 0, 1)) (h : zAt l G Y E (pc + 1) lv (vd FP.dconst0 :: st) M c k) : zAt l G Y E (pc) lv (st) M c k := by
  intro p e s m args below meth cd H locs ls C hlv hst hR hlo hl
  exact lv_dconst0 C.1 C.2.1 d (h p e s m args below meth cd H locs ls C hlv (zkc trivial hst) hR hlo hl)
theorem Z_dconst1  (d : decode (zyC Y) pc = .ok (.dconst 1, 1)) (h : zAt l G Y E (pc + 1) lv (vd FP.dconst1 :: st) M c k) : zAt l G Y E (pc) lv (st) M c k := by
  intro p e s m args below meth cd H locs ls C hlv hst hR hlo hl
  exact lv_dconst1 C.1 C.2.1 d (h p e s m args below meth cd H locs ls C hlv (zkc trivial hst) hR hlo hl)
theorem Z_ldc {idx : Nat} {v : Int32} (hw : Cond.constant (zyO Y) idx v ∈ zAll) (d : decode (zyC Y) pc = .ok (.ldc idx, 2)) (h : zAt l G Y E (pc + 2) lv (vi v :: st) M c k) : zAt l G Y E (pc) lv (st) M c k := by
  intro p e s m args below meth cd H locs ls C hlv hst hR hlo hl
  exact lv_ldc C.1 C.2.1 C.2.2.2.2.1 (C.2.2.2.2.2.1 _ hw) d (h p e s m args below meth cd H locs ls C hlv (zkc trivial hst) hR hlo hl)
theorem Z_ldcw {idx : Nat} {v : Int32} (hw : Cond.constant (zyO Y) idx v ∈ zAll) (d : decode (zyC Y) pc = .ok (.ldc_w idx, 3)) (h : zAt l G Y E (pc + 3) lv (vi v :: st) M c k) : zAt l G Y E (pc) lv (st) M c k := by
  intro p e s m args below meth cd H locs ls C hlv hst hR hlo hl
  exact lv_ldcw C.1 C.2.1 C.2.2.2.2.1 (C.2.2.2.2.2.1 _ hw) d (h p e s m args below meth cd H locs ls C hlv (zkc trivial hst) hR hlo hl)
theorem Z_ldc2 {idx : Nat} {v : Int64} (hw : Cond.constantLong (zyO Y) idx v ∈ zAll) (d : decode (zyC Y) pc = .ok (.ldc2_w idx, 3)) (h : zAt l G Y E (pc + 3) lv (vl v :: st) M c k) : zAt l G Y E (pc) lv (st) M c k := by
  intro p e s m args below meth cd H locs ls C hlv hst hR hlo hl
  exact lv_ldc2 C.1 C.2.1 C.2.2.2.2.1 (C.2.2.2.2.2.1 _ hw) d (h p e s m args below meth cd H locs ls C hlv (zkc trivial hst) hR hlo hl)
theorem Z_ldc2d {idx : Nat} {v : UInt64} (hw : Cond.constantDouble (zyO Y) idx v ∈ zAll) (d : decode (zyC Y) pc = .ok (.ldc2_w idx, 3)) (h : zAt l G Y E (pc + 3) lv (vd v :: st) M c k) : zAt l G Y E (pc) lv (st) M c k := by
  intro p e s m args below meth cd H locs ls C hlv hst hR hlo hl
  exact lv_ldc2d C.1 C.2.1 C.2.2.2.2.1 (C.2.2.2.2.2.1 _ hw) d (h p e s m args below meth cd H locs ls C hlv (zkc trivial hst) hR hlo hl)
theorem Z_iload_n {j : Fin 4} {i : Nat} {x : Int32} (d : decode (zyC Y) pc = .ok (.iload_n j, 1)) (hi : (j : Nat) = i) (q : Nat) (hq : lv[q]? = some (i, vi x)) (h : zAt l G Y E (pc + 1) lv (vi x :: st) M c k) : zAt l G Y E (pc) lv (st) M c k := by
  intro p e s m args below meth cd H locs ls C hlv hst hR hlo hl
  exact lv_iload_n C.1 C.2.1 d hi (zlv_at hl hq) (h p e s m args below meth cd H locs ls C hlv (zkc trivial hst) hR hlo hl)
theorem Z_iload {i : Nat} {x : Int32} (d : decode (zyC Y) pc = .ok (.iload i, 2)) (q : Nat) (hq : lv[q]? = some (i, vi x)) (h : zAt l G Y E (pc + 2) lv (vi x :: st) M c k) : zAt l G Y E (pc) lv (st) M c k := by
  intro p e s m args below meth cd H locs ls C hlv hst hR hlo hl
  exact lv_iload C.1 C.2.1 d (zlv_at hl hq) (h p e s m args below meth cd H locs ls C hlv (zkc trivial hst) hR hlo hl)
theorem Z_lload_n {j : Fin 4} {i : Nat} {x : Int64} (d : decode (zyC Y) pc = .ok (.lload_n j, 1)) (hi : (j : Nat) = i) (q : Nat) (hq : lv[q]? = some (i, vl x)) (h : zAt l G Y E (pc + 1) lv (vl x :: st) M c k) : zAt l G Y E (pc) lv (st) M c k := by
  intro p e s m args below meth cd H locs ls C hlv hst hR hlo hl
  exact lv_lload_n C.1 C.2.1 d hi (zlv_at hl hq) (h p e s m args below meth cd H locs ls C hlv (zkc trivial hst) hR hlo hl)
theorem Z_lload {i : Nat} {x : Int64} (d : decode (zyC Y) pc = .ok (.lload i, 2)) (q : Nat) (hq : lv[q]? = some (i, vl x)) (h : zAt l G Y E (pc + 2) lv (vl x :: st) M c k) : zAt l G Y E (pc) lv (st) M c k := by
  intro p e s m args below meth cd H locs ls C hlv hst hR hlo hl
  exact lv_lload C.1 C.2.1 d (zlv_at hl hq) (h p e s m args below meth cd H locs ls C hlv (zkc trivial hst) hR hlo hl)
theorem Z_dload_n {j : Fin 4} {i : Nat} {x : UInt64} (d : decode (zyC Y) pc = .ok (.dload_n j, 1)) (hi : (j : Nat) = i) (q : Nat) (hq : lv[q]? = some (i, vd x)) (h : zAt l G Y E (pc + 1) lv (vd x :: st) M c k) : zAt l G Y E (pc) lv (st) M c k := by
  intro p e s m args below meth cd H locs ls C hlv hst hR hlo hl
  exact lv_dload_n C.1 C.2.1 d hi (zlv_at hl hq) (h p e s m args below meth cd H locs ls C hlv (zkc trivial hst) hR hlo hl)
theorem Z_dload {i : Nat} {x : UInt64} (d : decode (zyC Y) pc = .ok (.dload i, 2)) (q : Nat) (hq : lv[q]? = some (i, vd x)) (h : zAt l G Y E (pc + 2) lv (vd x :: st) M c k) : zAt l G Y E (pc) lv (st) M c k := by
  intro p e s m args below meth cd H locs ls C hlv hst hR hlo hl
  exact lv_dload C.1 C.2.1 d (zlv_at hl hq) (h p e s m args below meth cd H locs ls C hlv (zkc trivial hst) hR hlo hl)
theorem Z_aload_n {s0 i0 : Nat} {j : Fin 4} {i : Nat} (d : decode (zyC Y) pc = .ok (.aload_n j, 1)) (hi : (j : Nat) = i) (q : Nat) (hq : lv[q]? = some (i, vr s0 i0)) (h : zAt l G Y E (pc + 1) lv (vr s0 i0 :: st) M c k) : zAt l G Y E (pc) lv (st) M c k := by
  intro p e s m args below meth cd H locs ls C hlv hst hR hlo hl
  exact lv_aload_n C.1 C.2.1 d hi (zlv_at hl hq) (h p e s m args below meth cd H locs ls C hlv (zkc (zlv_ok hlv hq) hst) hR hlo hl)
theorem Z_aload {s0 i0 : Nat} {i : Nat} (d : decode (zyC Y) pc = .ok (.aload i, 2)) (q : Nat) (hq : lv[q]? = some (i, vr s0 i0)) (h : zAt l G Y E (pc + 2) lv (vr s0 i0 :: st) M c k) : zAt l G Y E (pc) lv (st) M c k := by
  intro p e s m args below meth cd H locs ls C hlv hst hR hlo hl
  exact lv_aload C.1 C.2.1 d (zlv_at hl hq) (h p e s m args below meth cd H locs ls C hlv (zkc (zlv_ok hlv hq) hst) hR hlo hl)
theorem Z_aloadA_n {a0 : Nat} {j : Fin 4} {i : Nat} (d : decode (zyC Y) pc = .ok (.aload_n j, 1)) (hi : (j : Nat) = i) (q : Nat) (hq : lv[q]? = some (i, va a0)) (h : zAt l G Y E (pc + 1) lv (va a0 :: st) M c k) : zAt l G Y E (pc) lv (st) M c k := by
  intro p e s m args below meth cd H locs ls C hlv hst hR hlo hl
  exact lv_aload_n C.1 C.2.1 d hi (zlv_at hl hq) (h p e s m args below meth cd H locs ls C hlv (zkc (zlv_ok hlv hq) hst) hR hlo hl)
theorem Z_aloadA {a0 : Nat} {i : Nat} (d : decode (zyC Y) pc = .ok (.aload i, 2)) (q : Nat) (hq : lv[q]? = some (i, va a0)) (h : zAt l G Y E (pc + 2) lv (va a0 :: st) M c k) : zAt l G Y E (pc) lv (st) M c k := by
  intro p e s m args below meth cd H locs ls C hlv hst hR hlo hl
  exact lv_aload C.1 C.2.1 d (zlv_at hl hq) (h p e s m args below meth cd H locs ls C hlv (zkc (zlv_ok hlv hq) hst) hR hlo hl)
theorem Z_istore_n {x : Int32} {j : Fin 4} {i : Nat} {lv2 : List (Nat × zV)} (d : decode (zyC Y) pc = .ok (.istore_n j, 1)) (hi : (j : Nat) = i) (hn : i < zyL Y) (he : (i, vi x) :: zf1 i lv = lv2) (h : zAt l G Y E (pc + 1) lv2 (st) M c k) : zAt l G Y E (pc) lv (vi x :: st) M c k := by
  intro p e s m args below meth cd H locs ls C hlv hst hR hlo hl
  exact lv_istore_n C.1 C.2.1 d hi hl hn (by rw [zf1_map, ← List.map_cons (f := trq G) (a := (i, vi x))]) (fun ls2 hl2 => h p e s m args below meth cd H locs ls2 C (zlv_put hlv (zkh hst) he) (zk1 hst) hR hlo (by rw [← he]; exact hl2))
theorem Z_istore {x : Int32} {i : Nat} {lv2 : List (Nat × zV)} (d : decode (zyC Y) pc = .ok (.istore i, 2)) (hn : i < zyL Y) (he : (i, vi x) :: zf1 i lv = lv2) (h : zAt l G Y E (pc + 2) lv2 (st) M c k) : zAt l G Y E (pc) lv (vi x :: st) M c k := by
  intro p e s m args below meth cd H locs ls C hlv hst hR hlo hl
  exact lv_istore C.1 C.2.1 d hl hn (by rw [zf1_map, ← List.map_cons (f := trq G) (a := (i, vi x))]) (fun ls2 hl2 => h p e s m args below meth cd H locs ls2 C (zlv_put hlv (zkh hst) he) (zk1 hst) hR hlo (by rw [← he]; exact hl2))
theorem Z_lstore_n {x : Int64} {j : Fin 4} {i : Nat} {lv2 : List (Nat × zV)} (d : decode (zyC Y) pc = .ok (.lstore_n j, 1)) (hi : (j : Nat) = i) (hn : i + 1 < zyL Y) (he : (i, vl x) :: zf2 i lv = lv2) (h : zAt l G Y E (pc + 1) lv2 (st) M c k) : zAt l G Y E (pc) lv (vl x :: st) M c k := by
  intro p e s m args below meth cd H locs ls C hlv hst hR hlo hl
  exact lv_lstore_n C.1 C.2.1 d hi hl hn (by rw [zf2_map, ← List.map_cons (f := trq G) (a := (i, vl x))]) (fun ls2 hl2 => h p e s m args below meth cd H locs ls2 C (zlv_put hlv (zkh hst) he) (zk1 hst) hR hlo (by rw [← he]; exact hl2))
theorem Z_lstore {x : Int64} {i : Nat} {lv2 : List (Nat × zV)} (d : decode (zyC Y) pc = .ok (.lstore i, 2)) (hn : i + 1 < zyL Y) (he : (i, vl x) :: zf2 i lv = lv2) (h : zAt l G Y E (pc + 2) lv2 (st) M c k) : zAt l G Y E (pc) lv (vl x :: st) M c k := by
  intro p e s m args below meth cd H locs ls C hlv hst hR hlo hl
  exact lv_lstore C.1 C.2.1 d hl hn (by rw [zf2_map, ← List.map_cons (f := trq G) (a := (i, vl x))]) (fun ls2 hl2 => h p e s m args below meth cd H locs ls2 C (zlv_put hlv (zkh hst) he) (zk1 hst) hR hlo (by rw [← he]; exact hl2))
theorem Z_dstore_n {x : UInt64} {j : Fin 4} {i : Nat} {lv2 : List (Nat × zV)} (d : decode (zyC Y) pc = .ok (.dstore_n j, 1)) (hi : (j : Nat) = i) (hn : i + 1 < zyL Y) (he : (i, vd x) :: zf2 i lv = lv2) (h : zAt l G Y E (pc + 1) lv2 (st) M c k) : zAt l G Y E (pc) lv (vd x :: st) M c k := by
  intro p e s m args below meth cd H locs ls C hlv hst hR hlo hl
  exact lv_dstore_n C.1 C.2.1 d hi hl hn (by rw [zf2_map, ← List.map_cons (f := trq G) (a := (i, vd x))]) (fun ls2 hl2 => h p e s m args below meth cd H locs ls2 C (zlv_put hlv (zkh hst) he) (zk1 hst) hR hlo (by rw [← he]; exact hl2))
theorem Z_dstore {x : UInt64} {i : Nat} {lv2 : List (Nat × zV)} (d : decode (zyC Y) pc = .ok (.dstore i, 2)) (hn : i + 1 < zyL Y) (he : (i, vd x) :: zf2 i lv = lv2) (h : zAt l G Y E (pc + 2) lv2 (st) M c k) : zAt l G Y E (pc) lv (vd x :: st) M c k := by
  intro p e s m args below meth cd H locs ls C hlv hst hR hlo hl
  exact lv_dstore C.1 C.2.1 d hl hn (by rw [zf2_map, ← List.map_cons (f := trq G) (a := (i, vd x))]) (fun ls2 hl2 => h p e s m args below meth cd H locs ls2 C (zlv_put hlv (zkh hst) he) (zk1 hst) hR hlo (by rw [← he]; exact hl2))
theorem Z_astore_n {s0 i0 : Nat} {j : Fin 4} {i : Nat} {lv2 : List (Nat × zV)} (d : decode (zyC Y) pc = .ok (.astore_n j, 1)) (hi : (j : Nat) = i) (hn : i < zyL Y) (he : (i, vr s0 i0) :: zf1 i lv = lv2) (h : zAt l G Y E (pc + 1) lv2 (st) M c k) : zAt l G Y E (pc) lv (vr s0 i0 :: st) M c k := by
  intro p e s m args below meth cd H locs ls C hlv hst hR hlo hl
  exact lv_astore_n C.1 C.2.1 d hi hl hn (by rw [zf1_map, ← List.map_cons (f := trq G) (a := (i, vr s0 i0))]) (fun ls2 hl2 => h p e s m args below meth cd H locs ls2 C (zlv_put hlv (zkh hst) he) (zk1 hst) hR hlo (by rw [← he]; exact hl2))
theorem Z_astore {s0 i0 : Nat} {i : Nat} {lv2 : List (Nat × zV)} (d : decode (zyC Y) pc = .ok (.astore i, 2)) (hn : i < zyL Y) (he : (i, vr s0 i0) :: zf1 i lv = lv2) (h : zAt l G Y E (pc + 2) lv2 (st) M c k) : zAt l G Y E (pc) lv (vr s0 i0 :: st) M c k := by
  intro p e s m args below meth cd H locs ls C hlv hst hR hlo hl
  exact lv_astore C.1 C.2.1 d hl hn (by rw [zf1_map, ← List.map_cons (f := trq G) (a := (i, vr s0 i0))]) (fun ls2 hl2 => h p e s m args below meth cd H locs ls2 C (zlv_put hlv (zkh hst) he) (zk1 hst) hR hlo (by rw [← he]; exact hl2))
theorem Z_astoreA_n {a0 : Nat} {j : Fin 4} {i : Nat} {lv2 : List (Nat × zV)} (d : decode (zyC Y) pc = .ok (.astore_n j, 1)) (hi : (j : Nat) = i) (hn : i < zyL Y) (he : (i, va a0) :: zf1 i lv = lv2) (h : zAt l G Y E (pc + 1) lv2 (st) M c k) : zAt l G Y E (pc) lv (va a0 :: st) M c k := by
  intro p e s m args below meth cd H locs ls C hlv hst hR hlo hl
  exact lv_astore_n C.1 C.2.1 d hi hl hn (by rw [zf1_map, ← List.map_cons (f := trq G) (a := (i, va a0))]) (fun ls2 hl2 => h p e s m args below meth cd H locs ls2 C (zlv_put hlv (zkh hst) he) (zk1 hst) hR hlo (by rw [← he]; exact hl2))
theorem Z_astoreA {a0 : Nat} {i : Nat} {lv2 : List (Nat × zV)} (d : decode (zyC Y) pc = .ok (.astore i, 2)) (hn : i < zyL Y) (he : (i, va a0) :: zf1 i lv = lv2) (h : zAt l G Y E (pc + 2) lv2 (st) M c k) : zAt l G Y E (pc) lv (va a0 :: st) M c k := by
  intro p e s m args below meth cd H locs ls C hlv hst hR hlo hl
  exact lv_astore C.1 C.2.1 d hl hn (by rw [zf1_map, ← List.map_cons (f := trq G) (a := (i, va a0))]) (fun ls2 hl2 => h p e s m args below meth cd H locs ls2 C (zlv_put hlv (zkh hst) he) (zk1 hst) hR hlo (by rw [← he]; exact hl2))
theorem Z_iinc {i : Nat} {n : Int} {x v : Int32} {lv2 : List (Nat × zV)} (d : decode (zyC Y) pc = .ok (.iinc i n, 3)) (q : Nat) (hq : lv[q]? = some (i, vi x)) (hv : x + Int32.ofInt n = v) (hn : i < zyL Y) (he : (i, vi v) :: zf1 i lv = lv2) (h : zAt l G Y E (pc + 3) lv2 (st) M c k) : zAt l G Y E (pc) lv (st) M c k := by
  intro p e s m args below meth cd H locs ls C hlv hst hR hlo hl
  exact lv_iinc C.1 C.2.1 d hl (k := q) (by rw [List.getElem?_map, hq]; rfl) hv hn (by rw [zf1_map, ← List.map_cons (f := trq G) (a := (i, vi v))]) (fun ls2 hl2 => h p e s m args below meth cd H locs ls2 C (zlv_put hlv (v := vi v) trivial he) hst hR hlo (by rw [← he]; exact hl2))
theorem Z_iincW {i : Nat} {n : Int} {x v : Int32} {lv2 : List (Nat × zV)} (d : decode (zyC Y) pc = .ok (.iinc i n, 6)) (q : Nat) (hq : lv[q]? = some (i, vi x)) (hv : x + Int32.ofInt n = v) (hn : i < zyL Y) (he : (i, vi v) :: zf1 i lv = lv2) (h : zAt l G Y E (pc + 6) lv2 (st) M c k) : zAt l G Y E (pc) lv (st) M c k := by
  intro p e s m args below meth cd H locs ls C hlv hst hR hlo hl
  exact lv_iincW C.1 C.2.1 d hl (k := q) (by rw [List.getElem?_map, hq]; rfl) hv hn (by rw [zf1_map, ← List.map_cons (f := trq G) (a := (i, vi v))]) (fun ls2 hl2 => h p e s m args below meth cd H locs ls2 C (zlv_put hlv (v := vi v) trivial he) hst hR hlo (by rw [← he]; exact hl2))
theorem Z_iadd {a b : Int32} (d : decode (zyC Y) pc = .ok (.iadd, 1)) (h : zAt l G Y E (pc + 1) lv (vi (a + b) :: st) M c k) : zAt l G Y E (pc) lv (vi b :: vi a :: st) M c k := by
  intro p e s m args below meth cd H locs ls C hlv hst hR hlo hl
  exact lv_iadd C.1 C.2.1 d (h p e s m args below meth cd H locs ls C hlv (zkc trivial (zk1 (zk1 hst))) hR hlo hl)
theorem Z_isub {a b : Int32} (d : decode (zyC Y) pc = .ok (.isub, 1)) (h : zAt l G Y E (pc + 1) lv (vi (a - b) :: st) M c k) : zAt l G Y E (pc) lv (vi b :: vi a :: st) M c k := by
  intro p e s m args below meth cd H locs ls C hlv hst hR hlo hl
  exact lv_isub C.1 C.2.1 d (h p e s m args below meth cd H locs ls C hlv (zkc trivial (zk1 (zk1 hst))) hR hlo hl)
theorem Z_imul {a b : Int32} (d : decode (zyC Y) pc = .ok (.imul, 1)) (h : zAt l G Y E (pc + 1) lv (vi (a * b) :: st) M c k) : zAt l G Y E (pc) lv (vi b :: vi a :: st) M c k := by
  intro p e s m args below meth cd H locs ls C hlv hst hR hlo hl
  exact lv_imul C.1 C.2.1 d (h p e s m args below meth cd H locs ls C hlv (zkc trivial (zk1 (zk1 hst))) hR hlo hl)
theorem Z_iand {a b : Int32} (d : decode (zyC Y) pc = .ok (.iand, 1)) (h : zAt l G Y E (pc + 1) lv (vi (a &&& b) :: st) M c k) : zAt l G Y E (pc) lv (vi b :: vi a :: st) M c k := by
  intro p e s m args below meth cd H locs ls C hlv hst hR hlo hl
  exact lv_iand C.1 C.2.1 d (h p e s m args below meth cd H locs ls C hlv (zkc trivial (zk1 (zk1 hst))) hR hlo hl)
theorem Z_ior {a b : Int32} (d : decode (zyC Y) pc = .ok (.ior, 1)) (h : zAt l G Y E (pc + 1) lv (vi (a ||| b) :: st) M c k) : zAt l G Y E (pc) lv (vi b :: vi a :: st) M c k := by
  intro p e s m args below meth cd H locs ls C hlv hst hR hlo hl
  exact lv_ior C.1 C.2.1 d (h p e s m args below meth cd H locs ls C hlv (zkc trivial (zk1 (zk1 hst))) hR hlo hl)
theorem Z_ixor {a b : Int32} (d : decode (zyC Y) pc = .ok (.ixor, 1)) (h : zAt l G Y E (pc + 1) lv (vi (a ^^^ b) :: st) M c k) : zAt l G Y E (pc) lv (vi b :: vi a :: st) M c k := by
  intro p e s m args below meth cd H locs ls C hlv hst hR hlo hl
  exact lv_ixor C.1 C.2.1 d (h p e s m args below meth cd H locs ls C hlv (zkc trivial (zk1 (zk1 hst))) hR hlo hl)
theorem Z_ishl {a b : Int32} (d : decode (zyC Y) pc = .ok (.ishl, 1)) (h : zAt l G Y E (pc + 1) lv (vi (a <<< (b &&& 31)) :: st) M c k) : zAt l G Y E (pc) lv (vi b :: vi a :: st) M c k := by
  intro p e s m args below meth cd H locs ls C hlv hst hR hlo hl
  exact lv_ishl C.1 C.2.1 d (h p e s m args below meth cd H locs ls C hlv (zkc trivial (zk1 (zk1 hst))) hR hlo hl)
theorem Z_ishr {a b : Int32} (d : decode (zyC Y) pc = .ok (.ishr, 1)) (h : zAt l G Y E (pc + 1) lv (vi (a >>> (b &&& 31)) :: st) M c k) : zAt l G Y E (pc) lv (vi b :: vi a :: st) M c k := by
  intro p e s m args below meth cd H locs ls C hlv hst hR hlo hl
  exact lv_ishr C.1 C.2.1 d (h p e s m args below meth cd H locs ls C hlv (zkc trivial (zk1 (zk1 hst))) hR hlo hl)
theorem Z_iushr {a b : Int32} (d : decode (zyC Y) pc = .ok (.iushr, 1)) (h : zAt l G Y E (pc + 1) lv (vi (a.toUInt32 >>> (b.toUInt32 &&& Int32.toUInt32 31)).toInt32 :: st) M c k) : zAt l G Y E (pc) lv (vi b :: vi a :: st) M c k := by
  intro p e s m args below meth cd H locs ls C hlv hst hR hlo hl
  exact lv_iushr C.1 C.2.1 d rfl (h p e s m args below meth cd H locs ls C hlv (zkc trivial (zk1 (zk1 hst))) hR hlo hl)
theorem Z_idiv {a b : Int32} (d : decode (zyC Y) pc = .ok (.idiv, 1)) (hne : ¬ b = 0) (h : zAt l G Y E (pc + 1) lv (vi (a / b) :: st) M c k) : zAt l G Y E (pc) lv (vi b :: vi a :: st) M c k := by
  intro p e s m args below meth cd H locs ls C hlv hst hR hlo hl
  exact lv_idiv C.1 C.2.1 d hne (h p e s m args below meth cd H locs ls C hlv (zkc trivial (zk1 (zk1 hst))) hR hlo hl)
theorem Z_irem {a b : Int32} (d : decode (zyC Y) pc = .ok (.irem, 1)) (hne : ¬ b = 0) (h : zAt l G Y E (pc + 1) lv (vi (a - a / b * b) :: st) M c k) : zAt l G Y E (pc) lv (vi b :: vi a :: st) M c k := by
  intro p e s m args below meth cd H locs ls C hlv hst hR hlo hl
  exact lv_irem C.1 C.2.1 d hne (h p e s m args below meth cd H locs ls C hlv (zkc trivial (zk1 (zk1 hst))) hR hlo hl)
theorem Z_ladd {a b : Int64} (d : decode (zyC Y) pc = .ok (.ladd, 1)) (h : zAt l G Y E (pc + 1) lv (vl (a + b) :: st) M c k) : zAt l G Y E (pc) lv (vl b :: vl a :: st) M c k := by
  intro p e s m args below meth cd H locs ls C hlv hst hR hlo hl
  exact lv_ladd C.1 C.2.1 d (h p e s m args below meth cd H locs ls C hlv (zkc trivial (zk1 (zk1 hst))) hR hlo hl)
theorem Z_lsub {a b : Int64} (d : decode (zyC Y) pc = .ok (.lsub, 1)) (h : zAt l G Y E (pc + 1) lv (vl (a - b) :: st) M c k) : zAt l G Y E (pc) lv (vl b :: vl a :: st) M c k := by
  intro p e s m args below meth cd H locs ls C hlv hst hR hlo hl
  exact lv_lsub C.1 C.2.1 d (h p e s m args below meth cd H locs ls C hlv (zkc trivial (zk1 (zk1 hst))) hR hlo hl)
theorem Z_lmul {a b : Int64} (d : decode (zyC Y) pc = .ok (.lmul, 1)) (h : zAt l G Y E (pc + 1) lv (vl (a * b) :: st) M c k) : zAt l G Y E (pc) lv (vl b :: vl a :: st) M c k := by
  intro p e s m args below meth cd H locs ls C hlv hst hR hlo hl
  exact lv_lmul C.1 C.2.1 d (h p e s m args below meth cd H locs ls C hlv (zkc trivial (zk1 (zk1 hst))) hR hlo hl)
theorem Z_ldiv {a b : Int64} (d : decode (zyC Y) pc = .ok (.ldiv, 1)) (hne : ¬ b = 0) (h : zAt l G Y E (pc + 1) lv (vl (a / b) :: st) M c k) : zAt l G Y E (pc) lv (vl b :: vl a :: st) M c k := by
  intro p e s m args below meth cd H locs ls C hlv hst hR hlo hl
  exact lv_ldiv C.1 C.2.1 d hne (h p e s m args below meth cd H locs ls C hlv (zkc trivial (zk1 (zk1 hst))) hR hlo hl)
theorem Z_lcmp {a b : Int64} (d : decode (zyC Y) pc = .ok (.lcmp, 1)) (h : zAt l G Y E (pc + 1) lv (vi (lg_cmp a b) :: st) M c k) : zAt l G Y E (pc) lv (vl b :: vl a :: st) M c k := by
  intro p e s m args below meth cd H locs ls C hlv hst hR hlo hl
  exact W.lcmp C.1 C.2.1 d (h p e s m args below meth cd H locs ls C hlv (zkc trivial (zk1 (zk1 hst))) hR hlo hl)
theorem Z_ineg {a : Int32} (d : decode (zyC Y) pc = .ok (.ineg, 1)) (h : zAt l G Y E (pc + 1) lv (vi (-a) :: st) M c k) : zAt l G Y E (pc) lv (vi a :: st) M c k := by
  intro p e s m args below meth cd H locs ls C hlv hst hR hlo hl
  exact lv_ineg C.1 C.2.1 d (h p e s m args below meth cd H locs ls C hlv (zkc trivial (zk1 hst)) hR hlo hl)
theorem Z_i2l {a : Int32} (d : decode (zyC Y) pc = .ok (.i2l, 1)) (h : zAt l G Y E (pc + 1) lv (vl a.toInt64 :: st) M c k) : zAt l G Y E (pc) lv (vi a :: st) M c k := by
  intro p e s m args below meth cd H locs ls C hlv hst hR hlo hl
  exact lv_i2l C.1 C.2.1 d rfl (h p e s m args below meth cd H locs ls C hlv (zkc trivial (zk1 hst)) hR hlo hl)
theorem Z_l2i {a : Int64} (d : decode (zyC Y) pc = .ok (.l2i, 1)) (h : zAt l G Y E (pc + 1) lv (vi a.toInt32 :: st) M c k) : zAt l G Y E (pc) lv (vl a :: st) M c k := by
  intro p e s m args below meth cd H locs ls C hlv hst hR hlo hl
  exact lv_l2i C.1 C.2.1 d rfl (h p e s m args below meth cd H locs ls C hlv (zkc trivial (zk1 hst)) hR hlo hl)
theorem Z_i2b {a : Int32} (d : decode (zyC Y) pc = .ok (.i2b, 1)) (h : zAt l G Y E (pc + 1) lv (vi a.toInt8.toInt32 :: st) M c k) : zAt l G Y E (pc) lv (vi a :: st) M c k := by
  intro p e s m args below meth cd H locs ls C hlv hst hR hlo hl
  exact lv_i2b C.1 C.2.1 d rfl (h p e s m args below meth cd H locs ls C hlv (zkc trivial (zk1 hst)) hR hlo hl)
theorem Z_i2c {a : Int32} (d : decode (zyC Y) pc = .ok (.i2c, 1)) (h : zAt l G Y E (pc + 1) lv (vi (a.toUInt32 % 65536).toInt32 :: st) M c k) : zAt l G Y E (pc) lv (vi a :: st) M c k := by
  intro p e s m args below meth cd H locs ls C hlv hst hR hlo hl
  exact lv_i2c C.1 C.2.1 d rfl (h p e s m args below meth cd H locs ls C hlv (zkc trivial (zk1 hst)) hR hlo hl)
theorem Z_i2d {a : Int32} (d : decode (zyC Y) pc = .ok (.i2d, 1)) (h : zAt l G Y E (pc + 1) lv (vd (FP.i2d a) :: st) M c k) : zAt l G Y E (pc) lv (vi a :: st) M c k := by
  intro p e s m args below meth cd H locs ls C hlv hst hR hlo hl
  exact lv_i2d C.1 C.2.1 d (h p e s m args below meth cd H locs ls C hlv (zkc trivial (zk1 hst)) hR hlo hl)
theorem Z_l2d {a : Int64} (d : decode (zyC Y) pc = .ok (.l2d, 1)) (h : zAt l G Y E (pc + 1) lv (vd (FP.l2d a) :: st) M c k) : zAt l G Y E (pc) lv (vl a :: st) M c k := by
  intro p e s m args below meth cd H locs ls C hlv hst hR hlo hl
  exact lv_l2d C.1 C.2.1 d (h p e s m args below meth cd H locs ls C hlv (zkc trivial (zk1 hst)) hR hlo hl)
theorem Z_l2f {a : Int64} (d : decode (zyC Y) pc = .ok (.l2f, 1)) (h : zAt l G Y E (pc + 1) lv (vfl (FP.l2f a) :: st) M c k) : zAt l G Y E (pc) lv (vl a :: st) M c k := by
  intro p e s m args below meth cd H locs ls C hlv hst hR hlo hl
  exact lv_l2f C.1 C.2.1 d (h p e s m args below meth cd H locs ls C hlv (zkc trivial (zk1 hst)) hR hlo hl)
theorem Z_i2f {a : Int32} (d : decode (zyC Y) pc = .ok (.i2f, 1)) (h : zAt l G Y E (pc + 1) lv (vfl (FP.i2f a) :: st) M c k) : zAt l G Y E (pc) lv (vi a :: st) M c k := by
  intro p e s m args below meth cd H locs ls C hlv hst hR hlo hl
  exact lv_i2f C.1 C.2.1 d (h p e s m args below meth cd H locs ls C hlv (zkc trivial (zk1 hst)) hR hlo hl)
theorem Z_fdiv {a b : UInt32} (d : decode (zyC Y) pc = .ok (.fdiv, 1)) (hne : vf_n32 (FP.fdiv a b)) (h : zAt l G Y E (pc + 1) lv (vfl (FP.fdiv a b) :: st) M c k) : zAt l G Y E (pc) lv (vfl b :: vfl a :: st) M c k := by
  intro p e s m args below meth cd H locs ls C hlv hst hR hlo hl
  exact lv_fdiv C.1 C.2.1 d hne (h p e s m args below meth cd H locs ls C hlv (zkc trivial (zk1 (zk1 hst))) hR hlo hl)
theorem Z_ddiv {a b : UInt64} (d : decode (zyC Y) pc = .ok (.ddiv, 1)) (hne : vf_n64 (FP.ddiv a b)) (h : zAt l G Y E (pc + 1) lv (vd (FP.ddiv a b) :: st) M c k) : zAt l G Y E (pc) lv (vd b :: vd a :: st) M c k := by
  intro p e s m args below meth cd H locs ls C hlv hst hR hlo hl
  exact lv_ddiv C.1 C.2.1 d hne (h p e s m args below meth cd H locs ls C hlv (zkc trivial (zk1 (zk1 hst))) hR hlo hl)
theorem Z_dmul {a b : UInt64} (d : decode (zyC Y) pc = .ok (.dmul, 1)) (hne : vf_n64 (FP.dmul a b)) (h : zAt l G Y E (pc + 1) lv (vd (FP.dmul a b) :: st) M c k) : zAt l G Y E (pc) lv (vd b :: vd a :: st) M c k := by
  intro p e s m args below meth cd H locs ls C hlv hst hR hlo hl
  exact lv_dmul C.1 C.2.1 d hne (h p e s m args below meth cd H locs ls C hlv (zkc trivial (zk1 (zk1 hst))) hR hlo hl)
theorem Z_f2d {a : UInt32} (d : decode (zyC Y) pc = .ok (.f2d, 1)) (hne : vf_n64 (FP.f2d a)) (h : zAt l G Y E (pc + 1) lv (vd (FP.f2d a) :: st) M c k) : zAt l G Y E (pc) lv (vfl a :: st) M c k := by
  intro p e s m args below meth cd H locs ls C hlv hst hR hlo hl
  exact lv_f2d C.1 C.2.1 d hne (h p e s m args below meth cd H locs ls C hlv (zkc trivial (zk1 hst)) hR hlo hl)
theorem Z_dcmp {a b : UInt64} {op : CmpOp} (d : decode (zyC Y) pc = .ok (.dcmp op, 1)) (h : zAt l G Y E (pc + 1) lv (vi (Op.cmpValue (FP.dcmp a b) op) :: st) M c k) : zAt l G Y E (pc) lv (vd b :: vd a :: st) M c k := by
  intro p e s m args below meth cd H locs ls C hlv hst hR hlo hl
  exact lv_dcmp C.1 C.2.1 d (h p e s m args below meth cd H locs ls C hlv (zkc trivial (zk1 (zk1 hst))) hR hlo hl)
theorem Z_dup {v : zV} (hc : zcat v = 1) (d : decode (zyC Y) pc = .ok (.dup, 1)) (h : zAt l G Y E (pc + 1) lv (v :: v :: st) M c k) : zAt l G Y E (pc) lv (v :: st) M c k := by
  intro p e s m args below meth cd H locs ls C hlv hst hR hlo hl
  exact lv_dup C.1 C.2.1 d (by rw [zcat_tr]; exact hc) (h p e s m args below meth cd H locs ls C hlv (zkc (zkh hst) hst) hR hlo hl)
theorem Z_pop {v : zV} (hc : zcat v = 1) (d : decode (zyC Y) pc = .ok (.pop, 1)) (h : zAt l G Y E (pc + 1) lv (st) M c k) : zAt l G Y E (pc) lv (v :: st) M c k := by
  intro p e s m args below meth cd H locs ls C hlv hst hR hlo hl
  exact lv_pop C.1 C.2.1 d (by rw [zcat_tr]; exact hc) (h p e s m args below meth cd H locs ls C hlv (zk1 hst) hR hlo hl)
theorem Z_dup_x1 {v u : zV} (hc : zcat v = 1) (hu : zcat u = 1) (d : decode (zyC Y) pc = .ok (.dup_x1, 1)) (h : zAt l G Y E (pc + 1) lv (v :: u :: v :: st) M c k) : zAt l G Y E (pc) lv (v :: u :: st) M c k := by
  intro p e s m args below meth cd H locs ls C hlv hst hR hlo hl
  exact lv_dup_x1 C.1 C.2.1 d (by rw [zcat_tr]; exact hc) (by rw [zcat_tr]; exact hu) (h p e s m args below meth cd H locs ls C hlv (zkc (zkh hst) (zkc (zkh (zk1 hst)) (zkc (zkh hst) (zk1 (zk1 hst))))) hR hlo hl)
theorem Z_dup2 {v u : zV} (hc : zcat v = 1) (hu : zcat u = 1) (d : decode (zyC Y) pc = .ok (.dup2, 1)) (h : zAt l G Y E (pc + 1) lv (v :: u :: v :: u :: st) M c k) : zAt l G Y E (pc) lv (v :: u :: st) M c k := by
  intro p e s m args below meth cd H locs ls C hlv hst hR hlo hl
  exact lv_dup2_11 C.1 C.2.1 d (by rw [zcat_tr]; exact hc) (by rw [zcat_tr]; exact hu) (h p e s m args below meth cd H locs ls C hlv (zkc (zkh hst) (zkc (zkh (zk1 hst)) hst)) hR hlo hl)
theorem Z_dup2L {v : zV} (hc : zcat v = 2) (d : decode (zyC Y) pc = .ok (.dup2, 1)) (h : zAt l G Y E (pc + 1) lv (v :: v :: st) M c k) : zAt l G Y E (pc) lv (v :: st) M c k := by
  intro p e s m args below meth cd H locs ls C hlv hst hR hlo hl
  exact lv_dup2_2 C.1 C.2.1 d (by rw [zcat_tr]; exact hc) (h p e s m args below meth cd H locs ls C hlv (zkc (zkh hst) hst) hR hlo hl)
theorem Z_if_eq {x : Int32} {off : Int} {tgt : Nat} (d : decode (zyC Y) pc = .ok (.ifCond .eq off, 3)) (ht : (pc : Int) + off = (tgt : Int)) (kt : x = 0 → zAt l G Y E (tgt) lv (st) M c k) (kf : ¬ x = 0 → zAt l G Y E (pc + 3) lv (st) M c k) : zAt l G Y E (pc) lv (vi x :: st) M c k := by
  intro p e s m args below meth cd H locs ls C hlv hst hR hlo hl
  exact lv_if_eq C.1 C.2.1 d ht (fun q => kt q p e s m args below meth cd H locs ls C hlv (zk1 hst) hR hlo hl) (fun q => kf q p e s m args below meth cd H locs ls C hlv (zk1 hst) hR hlo hl)
theorem Z_icmp_eq {x y : Int32} {off : Int} {tgt : Nat} (d : decode (zyC Y) pc = .ok (.if_icmp .eq off, 3)) (ht : (pc : Int) + off = (tgt : Int)) (kt : x = y → zAt l G Y E (tgt) lv (st) M c k) (kf : ¬ x = y → zAt l G Y E (pc + 3) lv (st) M c k) : zAt l G Y E (pc) lv (vi y :: vi x :: st) M c k := by
  intro p e s m args below meth cd H locs ls C hlv hst hR hlo hl
  exact lv_icmp_eq C.1 C.2.1 d ht (fun q => kt q p e s m args below meth cd H locs ls C hlv (zk1 (zk1 hst)) hR hlo hl) (fun q => kf q p e s m args below meth cd H locs ls C hlv (zk1 (zk1 hst)) hR hlo hl)
theorem Z_if_ne {x : Int32} {off : Int} {tgt : Nat} (d : decode (zyC Y) pc = .ok (.ifCond .ne off, 3)) (ht : (pc : Int) + off = (tgt : Int)) (kt : ¬ x = 0 → zAt l G Y E (tgt) lv (st) M c k) (kf : x = 0 → zAt l G Y E (pc + 3) lv (st) M c k) : zAt l G Y E (pc) lv (vi x :: st) M c k := by
  intro p e s m args below meth cd H locs ls C hlv hst hR hlo hl
  exact lv_if_ne C.1 C.2.1 d ht (fun q => kt q p e s m args below meth cd H locs ls C hlv (zk1 hst) hR hlo hl) (fun q => kf q p e s m args below meth cd H locs ls C hlv (zk1 hst) hR hlo hl)
theorem Z_icmp_ne {x y : Int32} {off : Int} {tgt : Nat} (d : decode (zyC Y) pc = .ok (.if_icmp .ne off, 3)) (ht : (pc : Int) + off = (tgt : Int)) (kt : ¬ x = y → zAt l G Y E (tgt) lv (st) M c k) (kf : x = y → zAt l G Y E (pc + 3) lv (st) M c k) : zAt l G Y E (pc) lv (vi y :: vi x :: st) M c k := by
  intro p e s m args below meth cd H locs ls C hlv hst hR hlo hl
  exact lv_icmp_ne C.1 C.2.1 d ht (fun q => kt q p e s m args below meth cd H locs ls C hlv (zk1 (zk1 hst)) hR hlo hl) (fun q => kf q p e s m args below meth cd H locs ls C hlv (zk1 (zk1 hst)) hR hlo hl)
theorem Z_if_lt {x : Int32} {off : Int} {tgt : Nat} (d : decode (zyC Y) pc = .ok (.ifCond .lt off, 3)) (ht : (pc : Int) + off = (tgt : Int)) (kt : x < 0 → zAt l G Y E (tgt) lv (st) M c k) (kf : ¬ x < 0 → zAt l G Y E (pc + 3) lv (st) M c k) : zAt l G Y E (pc) lv (vi x :: st) M c k := by
  intro p e s m args below meth cd H locs ls C hlv hst hR hlo hl
  exact lv_if_lt C.1 C.2.1 d ht (fun q => kt q p e s m args below meth cd H locs ls C hlv (zk1 hst) hR hlo hl) (fun q => kf q p e s m args below meth cd H locs ls C hlv (zk1 hst) hR hlo hl)
theorem Z_icmp_lt {x y : Int32} {off : Int} {tgt : Nat} (d : decode (zyC Y) pc = .ok (.if_icmp .lt off, 3)) (ht : (pc : Int) + off = (tgt : Int)) (kt : x < y → zAt l G Y E (tgt) lv (st) M c k) (kf : ¬ x < y → zAt l G Y E (pc + 3) lv (st) M c k) : zAt l G Y E (pc) lv (vi y :: vi x :: st) M c k := by
  intro p e s m args below meth cd H locs ls C hlv hst hR hlo hl
  exact lv_icmp_lt C.1 C.2.1 d ht (fun q => kt q p e s m args below meth cd H locs ls C hlv (zk1 (zk1 hst)) hR hlo hl) (fun q => kf q p e s m args below meth cd H locs ls C hlv (zk1 (zk1 hst)) hR hlo hl)
theorem Z_if_ge {x : Int32} {off : Int} {tgt : Nat} (d : decode (zyC Y) pc = .ok (.ifCond .ge off, 3)) (ht : (pc : Int) + off = (tgt : Int)) (kt : 0 ≤ x → zAt l G Y E (tgt) lv (st) M c k) (kf : ¬ 0 ≤ x → zAt l G Y E (pc + 3) lv (st) M c k) : zAt l G Y E (pc) lv (vi x :: st) M c k := by
  intro p e s m args below meth cd H locs ls C hlv hst hR hlo hl
  exact lv_if_ge C.1 C.2.1 d ht (fun q => kt q p e s m args below meth cd H locs ls C hlv (zk1 hst) hR hlo hl) (fun q => kf q p e s m args below meth cd H locs ls C hlv (zk1 hst) hR hlo hl)
theorem Z_icmp_ge {x y : Int32} {off : Int} {tgt : Nat} (d : decode (zyC Y) pc = .ok (.if_icmp .ge off, 3)) (ht : (pc : Int) + off = (tgt : Int)) (kt : y ≤ x → zAt l G Y E (tgt) lv (st) M c k) (kf : ¬ y ≤ x → zAt l G Y E (pc + 3) lv (st) M c k) : zAt l G Y E (pc) lv (vi y :: vi x :: st) M c k := by
  intro p e s m args below meth cd H locs ls C hlv hst hR hlo hl
  exact lv_icmp_ge C.1 C.2.1 d ht (fun q => kt q p e s m args below meth cd H locs ls C hlv (zk1 (zk1 hst)) hR hlo hl) (fun q => kf q p e s m args below meth cd H locs ls C hlv (zk1 (zk1 hst)) hR hlo hl)
theorem Z_if_gt {x : Int32} {off : Int} {tgt : Nat} (d : decode (zyC Y) pc = .ok (.ifCond .gt off, 3)) (ht : (pc : Int) + off = (tgt : Int)) (kt : 0 < x → zAt l G Y E (tgt) lv (st) M c k) (kf : ¬ 0 < x → zAt l G Y E (pc + 3) lv (st) M c k) : zAt l G Y E (pc) lv (vi x :: st) M c k := by
  intro p e s m args below meth cd H locs ls C hlv hst hR hlo hl
  exact lv_if_gt C.1 C.2.1 d ht (fun q => kt q p e s m args below meth cd H locs ls C hlv (zk1 hst) hR hlo hl) (fun q => kf q p e s m args below meth cd H locs ls C hlv (zk1 hst) hR hlo hl)
theorem Z_icmp_gt {x y : Int32} {off : Int} {tgt : Nat} (d : decode (zyC Y) pc = .ok (.if_icmp .gt off, 3)) (ht : (pc : Int) + off = (tgt : Int)) (kt : y < x → zAt l G Y E (tgt) lv (st) M c k) (kf : ¬ y < x → zAt l G Y E (pc + 3) lv (st) M c k) : zAt l G Y E (pc) lv (vi y :: vi x :: st) M c k := by
  intro p e s m args below meth cd H locs ls C hlv hst hR hlo hl
  exact lv_icmp_gt C.1 C.2.1 d ht (fun q => kt q p e s m args below meth cd H locs ls C hlv (zk1 (zk1 hst)) hR hlo hl) (fun q => kf q p e s m args below meth cd H locs ls C hlv (zk1 (zk1 hst)) hR hlo hl)
theorem Z_if_le {x : Int32} {off : Int} {tgt : Nat} (d : decode (zyC Y) pc = .ok (.ifCond .le off, 3)) (ht : (pc : Int) + off = (tgt : Int)) (kt : x ≤ 0 → zAt l G Y E (tgt) lv (st) M c k) (kf : ¬ x ≤ 0 → zAt l G Y E (pc + 3) lv (st) M c k) : zAt l G Y E (pc) lv (vi x :: st) M c k := by
  intro p e s m args below meth cd H locs ls C hlv hst hR hlo hl
  exact lv_if_le C.1 C.2.1 d ht (fun q => kt q p e s m args below meth cd H locs ls C hlv (zk1 hst) hR hlo hl) (fun q => kf q p e s m args below meth cd H locs ls C hlv (zk1 hst) hR hlo hl)
theorem Z_icmp_le {x y : Int32} {off : Int} {tgt : Nat} (d : decode (zyC Y) pc = .ok (.if_icmp .le off, 3)) (ht : (pc : Int) + off = (tgt : Int)) (kt : x ≤ y → zAt l G Y E (tgt) lv (st) M c k) (kf : ¬ x ≤ y → zAt l G Y E (pc + 3) lv (st) M c k) : zAt l G Y E (pc) lv (vi y :: vi x :: st) M c k := by
  intro p e s m args below meth cd H locs ls C hlv hst hR hlo hl
  exact lv_icmp_le C.1 C.2.1 d ht (fun q => kt q p e s m args below meth cd H locs ls C hlv (zk1 (zk1 hst)) hR hlo hl) (fun q => kf q p e s m args below meth cd H locs ls C hlv (zk1 (zk1 hst)) hR hlo hl)
theorem Z_goto {off : Int} {tgt : Nat} (d : decode (zyC Y) pc = .ok (.goto off, 3)) (ht : (pc : Int) + off = (tgt : Int)) (h : zAt l G Y E (tgt) lv (st) M c k) : zAt l G Y E (pc) lv (st) M c k := by
  intro p e s m args below meth cd H locs ls C hlv hst hR hlo hl
  exact lv_goto C.1 C.2.1 d ht (h p e s m args below meth cd H locs ls C hlv hst hR hlo hl)
end ZR
