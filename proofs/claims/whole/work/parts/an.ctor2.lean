/-! printed by wip/whole/h_ctor2.py: a router's constructor -/
theorem hfp_X0_X0_15 : hFP RX0 15 4 1 false .int := ⟨RX0, TX0, 3, tyX0, ⟨rfl, by decide, zw_220, zws_X0⟩, tyX0_ok, nmX0, rfl, by decide +kernel, (fun h => by cases h)⟩
theorem hfp_X0_X0_19 : hFP RX0 19 4 2 false .int := ⟨RX0, TX0, 3, tyX0, ⟨rfl, by decide, zw_222, zws_X0⟩, tyX0_ok, nmX0, rfl, by decide +kernel, (fun h => by cases h)⟩
theorem hfp_X5_X5_35 : hFP RX5 35 9 0 false .int := ⟨RX5, TX5, 16, tyX5, ⟨rfl, by decide, zw_302, zws_X5⟩, tyX5_ok, nmX5, rfl, by decide +kernel, (fun h => by cases h)⟩
theorem hfp_X5_X5_39 : hFP RX5 39 9 1 false .int := ⟨RX5, TX5, 16, tyX5, ⟨rfl, by decide, zw_305, zws_X5⟩, tyX5_ok, nmX5, rfl, by decide +kernel, (fun h => by cases h)⟩
theorem hfp_X5_X5_42 : hFP RX5 42 9 2 false .int := ⟨RX5, TX5, 16, tyX5, ⟨rfl, by decide, zw_308, zws_X5⟩, tyX5_ok, nmX5, rfl, by decide +kernel, (fun h => by cases h)⟩
theorem hfp_X5_X5_45 : hFP RX5 45 9 3 false .int := ⟨RX5, TX5, 16, tyX5, ⟨rfl, by decide, zw_311, zws_X5⟩, tyX5_ok, nmX5, rfl, by decide +kernel, (fun h => by cases h)⟩
theorem hfp_X5_X5_48 : hFP RX5 48 9 4 false .int := ⟨RX5, TX5, 16, tyX5, ⟨rfl, by decide, zw_314, zws_X5⟩, tyX5_ok, nmX5, rfl, by decide +kernel, (fun h => by cases h)⟩
theorem hfp_X5_X5_51 : hFP RX5 51 9 5 false .int := ⟨RX5, TX5, 16, tyX5, ⟨rfl, by decide, zw_317, zws_X5⟩, tyX5_ok, nmX5, rfl, by decide +kernel, (fun h => by cases h)⟩
theorem hfp_X5_X5_54 : hFP RX5 54 9 6 false .int := ⟨RX5, TX5, 16, tyX5, ⟨rfl, by decide, zw_320, zws_X5⟩, tyX5_ok, nmX5, rfl, by decide +kernel, (fun h => by cases h)⟩
theorem hfp_X5_X5_57 : hFP RX5 57 9 7 false .int := ⟨RX5, TX5, 16, tyX5, ⟨rfl, by decide, zw_323, zws_X5⟩, tyX5_ok, nmX5, rfl, by decide +kernel, (fun h => by cases h)⟩
theorem hfp_X5_X5_60 : hFP RX5 60 9 8 false .int := ⟨RX5, TX5, 16, tyX5, ⟨rfl, by decide, zw_325, zws_X5⟩, tyX5_ok, nmX5, rfl, by decide +kernel, (fun h => by cases h)⟩
theorem hfp_X5_X5_63 : hFP RX5 63 9 9 false .int := ⟨RX5, TX5, 16, tyX5, ⟨rfl, by decide, zw_327, zws_X5⟩, tyX5_ok, nmX5, rfl, by decide +kernel, (fun h => by cases h)⟩
theorem hfp_X5_X5_66 : hFP RX5 66 9 10 false .int := ⟨RX5, TX5, 16, tyX5, ⟨rfl, by decide, zw_329, zws_X5⟩, tyX5_ok, nmX5, rfl, by decide +kernel, (fun h => by cases h)⟩
theorem hfp_X5_X5_69 : hFP RX5 69 9 11 false .boolean := ⟨RX5, TX5, 16, tyX5, ⟨rfl, by decide, zw_331, zws_X5⟩, tyX5_ok, nmX5, rfl, by decide +kernel, (fun h => by cases h)⟩
theorem hfp_X5_X5_73 : hFP RX5 73 9 12 false .int := ⟨RX5, TX5, 16, tyX5, ⟨rfl, by decide, zw_333, zws_X5⟩, tyX5_ok, nmX5, rfl, by decide +kernel, (fun h => by cases h)⟩
theorem hfl_X5_X5_20 : hFL RX5 20 9 14 := ⟨RX5, TX5, 16, rfl, by decide, zw_341, zws_X5⟩
theorem hfp_X5_X3_76 : hFP RX5 76 7 1 false .int := ⟨RX3, TX3, 2, tyX3, ⟨rfl, by decide, zw_206, zws_X3⟩, tyX3_ok, nmX3, rfl, by decide +kernel, (fun h => by cases h)⟩
theorem hfl_X5_X5_27 : hFL RX5 27 9 15 := ⟨RX5, TX5, 16, rfl, by decide, zw_343, zws_X5⟩
theorem hcv_X5_begin_X0_forget_79 : zLV Y_X5_begin 79 Y_X0_forget 0 RX0 := ⟨zw_298, zw_299, zw_300, zw_116, zw_301, by decide +kernel, by decide, by decide⟩
abbrev Y_X5_init : zY := (yX5_init, cX5_init, 2, none, 5, [])
theorem hfl_X5_X5_11 : hFL RX5 11 9 13 := ⟨RX5, TX5, 16, rfl, by decide, zw_337, zws_X5⟩
theorem zw_294 : Cond.methodLink RX5 32 yX5_begin ∈ zAll := zin 294 (by decide +kernel) (by decide +kernel)
theorem hcv_X5_init_X5_begin_32 : zLV Y_X5_init 32 Y_X5_begin 0 RX5 := ⟨zw_294, zw_295, zw_296, zw_114, zw_297, by decide +kernel, by decide, by decide⟩
theorem zw_196 : Cond.classLink RX5 9 RX1 ∈ zAll := zin 196 (by decide +kernel) (by decide +kernel)
theorem zw_230 : Cond.instantiable RX1 11 ∈ zAll := zin 230 (by decide +kernel) (by decide +kernel)
theorem zw_232 : Cond.instanceMethod yX1_init ∈ zAll := zin 232 (by decide +kernel) (by decide +kernel)
theorem zw_233 : Cond.code yX1_init cX1_init 1 none ∈ zAll := zin 233 (by decide +kernel) (by decide +kernel)
theorem hcq_X5_init_X1_init_31 : hLQ Y_X5_init 31 Y_X1_init 0 := ⟨by decide, zw_232, zw_117, zw_233, rfl, rfl, by decide +kernel, by decide, by decide⟩
theorem zw_195 : Cond.methodLink RX5 3 objectInit ∈ zAll := zin 195 (by decide +kernel) (by decide +kernel)
theorem hfp_X5_X5_11 : hFP RX5 11 9 13 true (.array (.object "EarlyDrops$Flow")) := ⟨RX5, TX5, 16, tyX5, ⟨rfl, by decide, zw_337, zws_X5⟩, tyX5_ok, nmX5, rfl, by decide +kernel, fun _ => rfl⟩
theorem zw_198 : Cond.classLink RX5 17 RX3 ∈ zAll := zin 198 (by decide +kernel) (by decide +kernel)
theorem zw_199 : Cond.instantiable RX3 2 ∈ zAll := zin 199 (by decide +kernel) (by decide +kernel)
theorem zw_201 : Cond.instanceMethod yX3_init ∈ zAll := zin 201 (by decide +kernel) (by decide +kernel)
theorem zw_202 : Cond.code yX3_init cX3_init 1 none ∈ zAll := zin 202 (by decide +kernel) (by decide +kernel)
theorem hcq_X5_init_X3_init_19 : hLQ Y_X5_init 19 Y_X3_init 0 := ⟨by decide, zw_201, zw_115, zw_202, rfl, rfl, by decide +kernel, by decide, by decide⟩
theorem hfp_X5_X5_20 : hFP RX5 20 9 14 true (.object "EarlyDrops$Queue") := ⟨RX5, TX5, 16, tyX5, ⟨rfl, by decide, zw_341, zws_X5⟩, tyX5_ok, nmX5, rfl, by decide +kernel, fun _ => rfl⟩
theorem zw_213 : Cond.classLink RX5 24 RX0 ∈ zAll := zin 213 (by decide +kernel) (by decide +kernel)
theorem zw_214 : Cond.instantiable RX0 3 ∈ zAll := zin 214 (by decide +kernel) (by decide +kernel)
theorem zw_216 : Cond.instanceMethod yX0_init ∈ zAll := zin 216 (by decide +kernel) (by decide +kernel)
theorem zw_217 : Cond.code yX0_init cX0_init 1 none ∈ zAll := zin 217 (by decide +kernel) (by decide +kernel)
theorem hcq_X5_init_X0_init_26 : hLQ Y_X5_init 26 Y_X0_init 0 := ⟨by decide, zw_216, zw_116, zw_217, rfl, rfl, by decide +kernel, by decide, by decide⟩
theorem hfp_X5_X5_27 : hFP RX5 27 9 15 true (.object "EarlyDrops$Decisions") := ⟨RX5, TX5, 16, tyX5, ⟨rfl, by decide, zw_343, zws_X5⟩, tyX5_ok, nmX5, rfl, by decide +kernel, fun _ => rfl⟩
theorem dX5_init_0 : decode cX5_init 0 = .ok (.aload_n 0, 1) := by decide +kernel
theorem dX5_init_1 : decode cX5_init 1 = .ok (.invokespecial 3, 3) := by decide +kernel
theorem dX5_init_4 : decode cX5_init 4 = .ok (.aload_n 0, 1) := by decide +kernel
theorem dX5_init_5 : decode cX5_init 5 = .ok (.bipush 6, 2) := by decide +kernel
theorem dX5_init_7 : decode cX5_init 7 = .ok (.anewarray 9, 3) := by decide +kernel
theorem dX5_init_10 : decode cX5_init 10 = .ok (.putfield 11, 3) := by decide +kernel
theorem dX5_init_13 : decode cX5_init 13 = .ok (.aload_n 0, 1) := by decide +kernel
theorem dX5_init_14 : decode cX5_init 14 = .ok (.new 17, 3) := by decide +kernel
theorem dX5_init_17 : decode cX5_init 17 = .ok (.dup, 1) := by decide +kernel
theorem dX5_init_18 : decode cX5_init 18 = .ok (.invokespecial 19, 3) := by decide +kernel
theorem dX5_init_21 : decode cX5_init 21 = .ok (.putfield 20, 3) := by decide +kernel
theorem dX5_init_24 : decode cX5_init 24 = .ok (.aload_n 0, 1) := by decide +kernel
theorem dX5_init_25 : decode cX5_init 25 = .ok (.new 24, 3) := by decide +kernel
theorem dX5_init_28 : decode cX5_init 28 = .ok (.dup, 1) := by decide +kernel
theorem dX5_init_29 : decode cX5_init 29 = .ok (.invokespecial 26, 3) := by decide +kernel
theorem dX5_init_32 : decode cX5_init 32 = .ok (.putfield 27, 3) := by decide +kernel
theorem dX5_init_35 : decode cX5_init 35 = .ok (.iconst 0, 1) := by decide +kernel
theorem dX5_init_36 : decode cX5_init 36 = .ok (.istore_n 1, 1) := by decide +kernel
theorem dX5_init_37 : decode cX5_init 37 = .ok (.iload_n 1, 1) := by decide +kernel
theorem dX5_init_38 : decode cX5_init 38 = .ok (.aload_n 0, 1) := by decide +kernel
theorem dX5_init_39 : decode cX5_init 39 = .ok (.getfield 11, 3) := by decide +kernel
theorem dX5_init_42 : decode cX5_init 42 = .ok (.arraylength, 1) := by decide +kernel
theorem dX5_init_43 : decode cX5_init 43 = .ok (.if_icmp .ge 22, 3) := by decide +kernel
theorem dX5_init_46 : decode cX5_init 46 = .ok (.aload_n 0, 1) := by decide +kernel
theorem dX5_init_47 : decode cX5_init 47 = .ok (.getfield 11, 3) := by decide +kernel
theorem dX5_init_50 : decode cX5_init 50 = .ok (.iload_n 1, 1) := by decide +kernel
theorem dX5_init_51 : decode cX5_init 51 = .ok (.new 9, 3) := by decide +kernel
theorem dX5_init_54 : decode cX5_init 54 = .ok (.dup, 1) := by decide +kernel
theorem dX5_init_55 : decode cX5_init 55 = .ok (.invokespecial 31, 3) := by decide +kernel
theorem dX5_init_58 : decode cX5_init 58 = .ok (.aastore, 1) := by decide +kernel
theorem dX5_init_59 : decode cX5_init 59 = .ok (.iinc 1 1, 3) := by decide +kernel
theorem dX5_init_62 : decode cX5_init 62 = .ok (.goto (-25), 3) := by decide +kernel
theorem dX5_init_65 : decode cX5_init 65 = .ok (.aload_n 0, 1) := by decide +kernel
theorem dX5_init_66 : decode cX5_init 66 = .ok (.invokevirtual 32, 3) := by decide +kernel
theorem dX5_init_69 : decode cX5_init 69 = .ok (.return_, 1) := by decide +kernel
theorem zfr_gt {G : zG} {q : Nat} (h : gz G ≤ q ∧ ga G 50 0 < q ∧ ga G 51 0 < q) : zfr G q := ⟨h.1, fun e => by have e2 : q = ga G 50 0 := e; omega, fun e => by have e2 : q = ga G 51 0 := e; omega⟩
section HCT2
variable {l : Launch} {G : zG} {H : Heap}
abbrev vFlow (nm ac : Nat) : List Value := [Value.ref nm, Value.int 0, Value.int 0, Value.int 0, Value.int 0, Value.int 0, Value.int 0, Value.int 0, Value.int 0, Value.int 0, Value.ref ac]
abbrev vRtr (z : Nat) : List Value := [Value.int 20, Value.int 1, Value.int 5, Value.int 15, Value.int 6554, Value.int 4, Value.int 0, Value.int 0, Value.int 0, Value.int (-1), Value.int 1, Value.int 1, Value.int 0, Value.ref z, Value.ref (z + 1), Value.ref (z + 3)]
abbrev refs (f : Nat → Option Nat) : ((Nat → Int32) ⊕ (Nat → Int64) ⊕ (Nat → UInt32) ⊕ (Nat → UInt64) ⊕ (Nat → Option Nat)) := .inr (.inr (.inr (.inr f)))
def LS5 (G : zG) (H : Heap) (a i : Nat) (H1 : Heap) : Prop := (H1.size = H.size + 5 + 2 * i) ∧ (∀ q, q < H.size → q ≠ a → H1[q]? = H[q]?) ∧ (hO G H1 a 9 (vp_V [Value.int 0, Value.int 0, Value.int 0, Value.int 0, Value.int 0, Value.int 0, Value.int 0, Value.int 0, Value.int 0, Value.int 0, Value.int 0, Value.int 0, Value.int 0, Value.ref H.size, Value.ref (H.size + 1), Value.ref (H.size + 3)])) ∧ (hA G H1 H.size 6 6 (refs (fun j => if j < i then some (H.size + 5 + 2 * j) else none))) ∧ (hO G H1 (H.size + 1) 7 (vp_V [Value.ref (H.size + 2), Value.int 0])) ∧ (hA G H1 (H.size + 2) 0 120 (.inl (fun _ => 0))) ∧ (hO G H1 (H.size + 3) 4 (vp_V [Value.ref (H.size + 4), Value.int 0, Value.int 0])) ∧ (hA G H1 (H.size + 4) 0 192 (.inl (fun _ => 0))) ∧ (∀ j, j < i → hO G H1 (H.size + 5 + 2 * j) 5 (vp_V (vFlow (gl G RX1 9) (H.size + 6 + 2 * j))) ∧ hA G H1 (H.size + 6 + 2 * j) 1 8 (.inr (.inl (fun _ => 0))))
theorem LS5.sz {G : zG} {H : Heap} {a i : Nat} {H1 : Heap} (h9 : LS5 G H a i H1) : H1.size = H.size + 5 + 2 * i := h9.1
theorem LS5.old {G : zG} {H : Heap} {a i : Nat} {H1 : Heap} (h9 : LS5 G H a i H1) : ∀ q, q < H.size → q ≠ a → H1[q]? = H[q]? := h9.2.1
theorem LS5.ob {G : zG} {H : Heap} {a i : Nat} {H1 : Heap} (h9 : LS5 G H a i H1) : hO G H1 a 9 (vp_V [Value.int 0, Value.int 0, Value.int 0, Value.int 0, Value.int 0, Value.int 0, Value.int 0, Value.int 0, Value.int 0, Value.int 0, Value.int 0, Value.int 0, Value.int 0, Value.ref H.size, Value.ref (H.size + 1), Value.ref (H.size + 3)]) := h9.2.2.1
theorem LS5.arr {G : zG} {H : Heap} {a i : Nat} {H1 : Heap} (h9 : LS5 G H a i H1) : hA G H1 H.size 6 6 (refs (fun j => if j < i then some (H.size + 5 + 2 * j) else none)) := h9.2.2.2.1
theorem LS5.qo {G : zG} {H : Heap} {a i : Nat} {H1 : Heap} (h9 : LS5 G H a i H1) : hO G H1 (H.size + 1) 7 (vp_V [Value.ref (H.size + 2), Value.int 0]) := h9.2.2.2.2.1
theorem LS5.qa {G : zG} {H : Heap} {a i : Nat} {H1 : Heap} (h9 : LS5 G H a i H1) : hA G H1 (H.size + 2) 0 120 (.inl (fun _ => 0)) := h9.2.2.2.2.2.1
theorem LS5.dO {G : zG} {H : Heap} {a i : Nat} {H1 : Heap} (h9 : LS5 G H a i H1) : hO G H1 (H.size + 3) 4 (vp_V [Value.ref (H.size + 4), Value.int 0, Value.int 0]) := h9.2.2.2.2.2.2.1
theorem LS5.da {G : zG} {H : Heap} {a i : Nat} {H1 : Heap} (h9 : LS5 G H a i H1) : hA G H1 (H.size + 4) 0 192 (.inl (fun _ => 0)) := h9.2.2.2.2.2.2.2.1
theorem LS5.fl {G : zG} {H : Heap} {a i : Nat} {H1 : Heap} (h9 : LS5 G H a i H1) : ∀ j, j < i → hO G H1 (H.size + 5 + 2 * j) 5 (vp_V (vFlow (gl G RX1 9) (H.size + 6 + 2 * j))) ∧ hA G H1 (H.size + 6 + 2 * j) 1 8 (.inr (.inl (fun _ => 0))) := h9.2.2.2.2.2.2.2.2
theorem LS5.mk {G : zG} {H : Heap} {a i : Nat} {H1 : Heap} (sz : H1.size = H.size + 5 + 2 * i) (old : ∀ q, q < H.size → q ≠ a → H1[q]? = H[q]?) (ob : hO G H1 a 9 (vp_V [Value.int 0, Value.int 0, Value.int 0, Value.int 0, Value.int 0, Value.int 0, Value.int 0, Value.int 0, Value.int 0, Value.int 0, Value.int 0, Value.int 0, Value.int 0, Value.ref H.size, Value.ref (H.size + 1), Value.ref (H.size + 3)])) (arr : hA G H1 H.size 6 6 (refs (fun j => if j < i then some (H.size + 5 + 2 * j) else none))) (qo : hO G H1 (H.size + 1) 7 (vp_V [Value.ref (H.size + 2), Value.int 0])) (qa : hA G H1 (H.size + 2) 0 120 (.inl (fun _ => 0))) (dO : hO G H1 (H.size + 3) 4 (vp_V [Value.ref (H.size + 4), Value.int 0, Value.int 0])) (da : hA G H1 (H.size + 4) 0 192 (.inl (fun _ => 0))) (fl : ∀ j, j < i → hO G H1 (H.size + 5 + 2 * j) 5 (vp_V (vFlow (gl G RX1 9) (H.size + 6 + 2 * j))) ∧ hA G H1 (H.size + 6 + 2 * j) 1 8 (.inr (.inl (fun _ => 0)))) : LS5 G H a i H1 := ⟨sz, old, ob, arr, qo, qa, dO, da, fl⟩
/-- a whole router at a, its parts behind it -/
def Rtr (G : zG) (H : Heap) (a : Nat) : Prop := (hO G H a 9 (vp_V (vRtr (a + 1)))) ∧ (hA G H (a + 1) 6 6 (refs (fun j => some (a + 6 + 2 * j)))) ∧ (hO G H (a + 2) 7 (vp_V [Value.ref (a + 3), Value.int 0])) ∧ (hA G H (a + 3) 0 120 (.inl (fun _ => 0))) ∧ (hO G H (a + 4) 4 (vp_V [Value.ref (a + 5), Value.int 0, Value.int 0])) ∧ (hA G H (a + 5) 0 192 (.inl (fun _ => 0))) ∧ (∀ j, j < 6 → hO G H (a + 6 + 2 * j) 5 (vp_V (vFlow (gl G RX1 9) (a + 7 + 2 * j))) ∧ hA G H (a + 7 + 2 * j) 1 8 (.inr (.inl (fun _ => 0))))
theorem Rtr.ob {G : zG} {H : Heap} {a : Nat} (h9 : Rtr G H a) : hO G H a 9 (vp_V (vRtr (a + 1))) := h9.1
theorem Rtr.arr {G : zG} {H : Heap} {a : Nat} (h9 : Rtr G H a) : hA G H (a + 1) 6 6 (refs (fun j => some (a + 6 + 2 * j))) := h9.2.1
theorem Rtr.qo {G : zG} {H : Heap} {a : Nat} (h9 : Rtr G H a) : hO G H (a + 2) 7 (vp_V [Value.ref (a + 3), Value.int 0]) := h9.2.2.1
theorem Rtr.qa {G : zG} {H : Heap} {a : Nat} (h9 : Rtr G H a) : hA G H (a + 3) 0 120 (.inl (fun _ => 0)) := h9.2.2.2.1
theorem Rtr.dO {G : zG} {H : Heap} {a : Nat} (h9 : Rtr G H a) : hO G H (a + 4) 4 (vp_V [Value.ref (a + 5), Value.int 0, Value.int 0]) := h9.2.2.2.2.1
theorem Rtr.da {G : zG} {H : Heap} {a : Nat} (h9 : Rtr G H a) : hA G H (a + 5) 0 192 (.inl (fun _ => 0)) := h9.2.2.2.2.2.1
theorem Rtr.fl {G : zG} {H : Heap} {a : Nat} (h9 : Rtr G H a) : ∀ j, j < 6 → hO G H (a + 6 + 2 * j) 5 (vp_V (vFlow (gl G RX1 9) (a + 7 + 2 * j))) ∧ hA G H (a + 7 + 2 * j) 1 8 (.inr (.inl (fun _ => 0))) := h9.2.2.2.2.2.2
theorem Rtr.mk {G : zG} {H : Heap} {a : Nat} (ob : hO G H a 9 (vp_V (vRtr (a + 1)))) (arr : hA G H (a + 1) 6 6 (refs (fun j => some (a + 6 + 2 * j)))) (qo : hO G H (a + 2) 7 (vp_V [Value.ref (a + 3), Value.int 0])) (qa : hA G H (a + 3) 0 120 (.inl (fun _ => 0))) (dO : hO G H (a + 4) 4 (vp_V [Value.ref (a + 5), Value.int 0, Value.int 0])) (da : hA G H (a + 5) 0 192 (.inl (fun _ => 0))) (fl : ∀ j, j < 6 → hO G H (a + 6 + 2 * j) 5 (vp_V (vFlow (gl G RX1 9) (a + 7 + 2 * j))) ∧ hA G H (a + 7 + 2 * j) 1 8 (.inr (.inl (fun _ => 0)))) : Rtr G H a := ⟨ob, arr, qo, qa, dO, da, fl⟩
theorem Rtr.kept {a : Nat} {H1 : Heap} (h : Rtr G H a) (e : ∀ q, a ≤ q → q < a + 18 → H1[q]? = H[q]?) : Rtr G H1 a :=
  Rtr.mk (h.ob.kept (e _ (by omega) (by omega))) ((e _ (by omega) (by omega)).trans h.arr) (h.qo.kept (e _ (by omega) (by omega))) ((e _ (by omega) (by omega)).trans h.qa) (h.dO.kept (e _ (by omega) (by omega))) ((e _ (by omega) (by omega)).trans h.da) (fun j hj => ⟨(h.fl j hj).1.kept (e _ (by omega) (by omega)), (e _ (by omega) (by omega)).trans (h.fl j hj).2⟩)
theorem ct_forget {a x : Nat} (ho : hO G H a 4 (vp_V [Value.ref x, Value.int 0, Value.int 0])) (haz : zfr G a) : hCal l G Y_X0_forget 0 0 [Value.ref a] H (fun r H1 => r = none ∧ H1.size = H.size ∧ (∀ q, q ≠ a → H1[q]? = H[q]?) ∧ hO G H1 a 4 (vp_V [Value.ref x, Value.int 0, Value.int 0])) := by
  refine hCal_of (by decide) rfl (zle rfl) rfl ?_
  have hE : ∀ {mc ms : Nat} {K : hK}, zRm Y_X0_forget (hEM G Y_X0_forget mc ms K).1 := zRm_M
  have hal := ho.lt
  refine H_aload_n dX0_forget_0 rfl 0 rfl ?_
  refine H_iconst (v := 0) rfl dX0_forget_1 ?_
  refine H_putV (fs2 := [Value.ref x, Value.int 0, Value.int 0]) hfp_X0_X0_15 (fun h => by cases h) ho rfl (zle rfl) rfl rfl (by omega) dX0_forget_2 (fun H1 z1 o1 hoN => ?_)
  have z1 : H1.size = H.size + 0 := by omega
  have ho := hoN
  refine H_aload_n dX0_forget_5 rfl 0 rfl ?_
  refine H_iconst (v := 0) rfl dX0_forget_6 ?_
  refine H_putV (fs2 := [Value.ref x, Value.int 0, Value.int 0]) hfp_X0_X0_19 (fun h => by cases h) ho rfl (zle rfl) rfl rfl (by omega) dX0_forget_7 (fun H2 z2 o2 hoN => ?_)
  have z2 : H2.size = H.size + 0 := by omega
  have ho := hoN
  exact H_vret rfl dX0_forget_10 (by show 0 ≤ 0; omega) (by show 0 ≤ 0; omega) ⟨rfl, z2, fun q hqa => (o2 q hqa).trans (o1 q hqa), ho⟩
theorem ct_begin {a f u d x y : Nat} (ho : hO G H a 9 (vp_V [Value.int 0, Value.int 0, Value.int 0, Value.int 0, Value.int 0, Value.int 0, Value.int 0, Value.int 0, Value.int 0, Value.int 0, Value.int 0, Value.int 0, Value.int 0, Value.ref f, Value.ref u, Value.ref d])) (hq : hO G H u 7 (vp_V [Value.ref x, Value.int 0])) (hd : hO G H d 4 (vp_V [Value.ref y, Value.int 0, Value.int 0])) (haz : zfr G a) (hqz : zfr G u) (hdz : zfr G d) (h1 : a ≠ u) (h2 : a ≠ d) (h3 : u ≠ d) : hCal l G Y_X5_begin 0 0 [Value.ref a] H (fun r H1 => r = none ∧ H1.size = H.size ∧ (∀ q, q ≠ a → q ≠ u → q ≠ d → H1[q]? = H[q]?) ∧ hO G H1 a 9 (vp_V [Value.int 20, Value.int 1, Value.int 5, Value.int 15, Value.int 6554, Value.int 4, Value.int 0, Value.int 0, Value.int 0, Value.int (-1), Value.int 1, Value.int 1, Value.int 0, Value.ref f, Value.ref u, Value.ref d]) ∧ hO G H1 u 7 (vp_V [Value.ref x, Value.int 0]) ∧ hO G H1 d 4 (vp_V [Value.ref y, Value.int 0, Value.int 0])) := by
  refine hCal_of (by decide) rfl (zle rfl) rfl ?_
  have hE : ∀ {mc ms : Nat} {K : hK}, zRm Y_X5_begin (hEM G Y_X5_begin mc ms K).1 := zRm_M
  have hal := ho.lt
  refine H_aload_n dX5_begin_0 rfl 0 rfl ?_
  refine H_bipush (v := 20) rfl dX5_begin_1 ?_
  refine H_putV (fs2 := [Value.int 20, Value.int 0, Value.int 0, Value.int 0, Value.int 0, Value.int 0, Value.int 0, Value.int 0, Value.int 0, Value.int 0, Value.int 0, Value.int 0, Value.int 0, Value.ref f, Value.ref u, Value.ref d]) hfp_X5_X5_35 (fun h => by cases h) ho rfl (zle rfl) rfl rfl (by omega) dX5_begin_3 (fun H1 z1 o1 hoN => ?_)
  have z1 : H1.size = H.size + 0 := by omega
  replace hq := hq.kept (o1 u (by omega))
  replace hd := hd.kept (o1 d (by omega))
  have ho := hoN
  refine H_aload_n dX5_begin_6 rfl 0 rfl ?_
  refine H_iconst (v := 1) rfl dX5_begin_7 ?_
  refine H_putV (fs2 := [Value.int 20, Value.int 1, Value.int 0, Value.int 0, Value.int 0, Value.int 0, Value.int 0, Value.int 0, Value.int 0, Value.int 0, Value.int 0, Value.int 0, Value.int 0, Value.ref f, Value.ref u, Value.ref d]) hfp_X5_X5_39 (fun h => by cases h) ho rfl (zle rfl) rfl rfl (by omega) dX5_begin_8 (fun H2 z2 o2 hoN => ?_)
  have z2 : H2.size = H.size + 0 := by omega
  replace hq := hq.kept (o2 u (by omega))
  replace hd := hd.kept (o2 d (by omega))
  have ho := hoN
  refine H_aload_n dX5_begin_11 rfl 0 rfl ?_
  refine H_iconst (v := 5) rfl dX5_begin_12 ?_
  refine H_putV (fs2 := [Value.int 20, Value.int 1, Value.int 5, Value.int 0, Value.int 0, Value.int 0, Value.int 0, Value.int 0, Value.int 0, Value.int 0, Value.int 0, Value.int 0, Value.int 0, Value.ref f, Value.ref u, Value.ref d]) hfp_X5_X5_42 (fun h => by cases h) ho rfl (zle rfl) rfl rfl (by omega) dX5_begin_13 (fun H3 z3 o3 hoN => ?_)
  have z3 : H3.size = H.size + 0 := by omega
  replace hq := hq.kept (o3 u (by omega))
  replace hd := hd.kept (o3 d (by omega))
  have ho := hoN
  refine H_aload_n dX5_begin_16 rfl 0 rfl ?_
  refine H_bipush (v := 15) rfl dX5_begin_17 ?_
  refine H_putV (fs2 := [Value.int 20, Value.int 1, Value.int 5, Value.int 15, Value.int 0, Value.int 0, Value.int 0, Value.int 0, Value.int 0, Value.int 0, Value.int 0, Value.int 0, Value.int 0, Value.ref f, Value.ref u, Value.ref d]) hfp_X5_X5_45 (fun h => by cases h) ho rfl (zle rfl) rfl rfl (by omega) dX5_begin_19 (fun H4 z4 o4 hoN => ?_)
  have z4 : H4.size = H.size + 0 := by omega
  replace hq := hq.kept (o4 u (by omega))
  replace hd := hd.kept (o4 d (by omega))
  have ho := hoN
  refine H_aload_n dX5_begin_22 rfl 0 rfl ?_
  refine H_sipush (v := 6554) rfl dX5_begin_23 ?_
  refine H_putV (fs2 := [Value.int 20, Value.int 1, Value.int 5, Value.int 15, Value.int 6554, Value.int 0, Value.int 0, Value.int 0, Value.int 0, Value.int 0, Value.int 0, Value.int 0, Value.int 0, Value.ref f, Value.ref u, Value.ref d]) hfp_X5_X5_48 (fun h => by cases h) ho rfl (zle rfl) rfl rfl (by omega) dX5_begin_26 (fun H5 z5 o5 hoN => ?_)
  have z5 : H5.size = H.size + 0 := by omega
  replace hq := hq.kept (o5 u (by omega))
  replace hd := hd.kept (o5 d (by omega))
  have ho := hoN
  refine H_aload_n dX5_begin_29 rfl 0 rfl ?_
  refine H_iconst (v := 4) rfl dX5_begin_30 ?_
  refine H_putV (fs2 := [Value.int 20, Value.int 1, Value.int 5, Value.int 15, Value.int 6554, Value.int 4, Value.int 0, Value.int 0, Value.int 0, Value.int 0, Value.int 0, Value.int 0, Value.int 0, Value.ref f, Value.ref u, Value.ref d]) hfp_X5_X5_51 (fun h => by cases h) ho rfl (zle rfl) rfl rfl (by omega) dX5_begin_31 (fun H6 z6 o6 hoN => ?_)
  have z6 : H6.size = H.size + 0 := by omega
  replace hq := hq.kept (o6 u (by omega))
  replace hd := hd.kept (o6 d (by omega))
  have ho := hoN
  refine H_aload_n dX5_begin_34 rfl 0 rfl ?_
  refine H_iconst (v := 0) rfl dX5_begin_35 ?_
  refine H_putV (fs2 := [Value.int 20, Value.int 1, Value.int 5, Value.int 15, Value.int 6554, Value.int 4, Value.int 0, Value.int 0, Value.int 0, Value.int 0, Value.int 0, Value.int 0, Value.int 0, Value.ref f, Value.ref u, Value.ref d]) hfp_X5_X5_54 (fun h => by cases h) ho rfl (zle rfl) rfl rfl (by omega) dX5_begin_36 (fun H7 z7 o7 hoN => ?_)
  have z7 : H7.size = H.size + 0 := by omega
  replace hq := hq.kept (o7 u (by omega))
  replace hd := hd.kept (o7 d (by omega))
  have ho := hoN
  refine H_aload_n dX5_begin_39 rfl 0 rfl ?_
  refine H_iconst (v := 0) rfl dX5_begin_40 ?_
  refine H_putV (fs2 := [Value.int 20, Value.int 1, Value.int 5, Value.int 15, Value.int 6554, Value.int 4, Value.int 0, Value.int 0, Value.int 0, Value.int 0, Value.int 0, Value.int 0, Value.int 0, Value.ref f, Value.ref u, Value.ref d]) hfp_X5_X5_57 (fun h => by cases h) ho rfl (zle rfl) rfl rfl (by omega) dX5_begin_41 (fun H8 z8 o8 hoN => ?_)
  have z8 : H8.size = H.size + 0 := by omega
  replace hq := hq.kept (o8 u (by omega))
  replace hd := hd.kept (o8 d (by omega))
  have ho := hoN
  refine H_aload_n dX5_begin_44 rfl 0 rfl ?_
  refine H_iconst (v := 0) rfl dX5_begin_45 ?_
  refine H_putV (fs2 := [Value.int 20, Value.int 1, Value.int 5, Value.int 15, Value.int 6554, Value.int 4, Value.int 0, Value.int 0, Value.int 0, Value.int 0, Value.int 0, Value.int 0, Value.int 0, Value.ref f, Value.ref u, Value.ref d]) hfp_X5_X5_60 (fun h => by cases h) ho rfl (zle rfl) rfl rfl (by omega) dX5_begin_46 (fun H9 z9 o9 hoN => ?_)
  have z9 : H9.size = H.size + 0 := by omega
  replace hq := hq.kept (o9 u (by omega))
  replace hd := hd.kept (o9 d (by omega))
  have ho := hoN
  refine H_aload_n dX5_begin_49 rfl 0 rfl ?_
  refine H_iconst (v := (-1)) rfl dX5_begin_50 ?_
  refine H_putV (fs2 := [Value.int 20, Value.int 1, Value.int 5, Value.int 15, Value.int 6554, Value.int 4, Value.int 0, Value.int 0, Value.int 0, Value.int (-1), Value.int 0, Value.int 0, Value.int 0, Value.ref f, Value.ref u, Value.ref d]) hfp_X5_X5_63 (fun h => by cases h) ho rfl (zle rfl) rfl rfl (by omega) dX5_begin_51 (fun H10 z10 o10 hoN => ?_)
  have z10 : H10.size = H.size + 0 := by omega
  replace hq := hq.kept (o10 u (by omega))
  replace hd := hd.kept (o10 d (by omega))
  have ho := hoN
  refine H_aload_n dX5_begin_54 rfl 0 rfl ?_
  refine H_iconst (v := 1) rfl dX5_begin_55 ?_
  refine H_putV (fs2 := [Value.int 20, Value.int 1, Value.int 5, Value.int 15, Value.int 6554, Value.int 4, Value.int 0, Value.int 0, Value.int 0, Value.int (-1), Value.int 1, Value.int 0, Value.int 0, Value.ref f, Value.ref u, Value.ref d]) hfp_X5_X5_66 (fun h => by cases h) ho rfl (zle rfl) rfl rfl (by omega) dX5_begin_56 (fun H11 z11 o11 hoN => ?_)
  have z11 : H11.size = H.size + 0 := by omega
  replace hq := hq.kept (o11 u (by omega))
  replace hd := hd.kept (o11 d (by omega))
  have ho := hoN
  refine H_aload_n dX5_begin_59 rfl 0 rfl ?_
  refine H_iconst (v := 1) rfl dX5_begin_60 ?_
  refine H_putV (fs2 := [Value.int 20, Value.int 1, Value.int 5, Value.int 15, Value.int 6554, Value.int 4, Value.int 0, Value.int 0, Value.int 0, Value.int (-1), Value.int 1, Value.int 1, Value.int 0, Value.ref f, Value.ref u, Value.ref d]) hfp_X5_X5_69 (fun h => by cases h) ho rfl (zle rfl) rfl rfl (by omega) dX5_begin_61 (fun H12 z12 o12 hoN => ?_)
  have z12 : H12.size = H.size + 0 := by omega
  replace hq := hq.kept (o12 u (by omega))
  replace hd := hd.kept (o12 d (by omega))
  have ho := hoN
  refine H_aload_n dX5_begin_64 rfl 0 rfl ?_
  refine H_iconst (v := 0) rfl dX5_begin_65 ?_
  refine H_putV (fs2 := [Value.int 20, Value.int 1, Value.int 5, Value.int 15, Value.int 6554, Value.int 4, Value.int 0, Value.int 0, Value.int 0, Value.int (-1), Value.int 1, Value.int 1, Value.int 0, Value.ref f, Value.ref u, Value.ref d]) hfp_X5_X5_73 (fun h => by cases h) ho rfl (zle rfl) rfl rfl (by omega) dX5_begin_66 (fun H13 z13 o13 hoN => ?_)
  have z13 : H13.size = H.size + 0 := by omega
  replace hq := hq.kept (o13 u (by omega))
  replace hd := hd.kept (o13 d (by omega))
  have ho := hoN
  refine H_aload_n dX5_begin_69 rfl 0 rfl ?_
  refine H_getV hfl_X5_X5_20 ho rfl dX5_begin_70 ?_
  refine H_iconst (v := 0) rfl dX5_begin_73 ?_
  refine H_putV (fs2 := [Value.ref x, Value.int 0]) hfp_X5_X3_76 (fun h => by cases h) hq rfl (zle rfl) rfl rfl (by omega) dX5_begin_74 (fun H14 z14 o14 hqN => ?_)
  have z14 : H14.size = H.size + 0 := by omega
  replace ho := ho.kept (o14 a (by omega))
  replace hd := hd.kept (o14 d (by omega))
  have hq := hqN
  refine H_aload_n dX5_begin_77 rfl 0 rfl ?_
  refine H_getV hfl_X5_X5_27 ho rfl dX5_begin_78 ?_
  refine H_callV (as := []) (st := []) (mc' := 0) (ms' := 0) hE hcv_X5_begin_X0_forget_79 rfl hd.rc rfl rfl (zle rfl) dX5_begin_81 ⟨by show 0 ≤ 0; omega, by show 0 ≤ 0; omega⟩ (ct_forget hd hdz) (fun r15 H15 q15 => ?_)
  obtain ⟨rfl, z15, o15, hd2⟩ := q15
  have z15 : H15.size = H.size + 0 := by omega
  replace ho := ho.kept (o15 a (by omega))
  replace hq := hq.kept (o15 u (by omega))
  exact H_vret rfl dX5_begin_84 (by show 0 ≤ 0; omega) (by show 0 ≤ 0; omega) ⟨rfl, z15, (fun q hqa hqu hqd => ((o15 q (by omega)).trans ((o14 q (by omega)).trans ((o13 q (by omega)).trans ((o12 q (by omega)).trans ((o11 q (by omega)).trans ((o10 q (by omega)).trans ((o9 q (by omega)).trans ((o8 q (by omega)).trans ((o7 q (by omega)).trans ((o6 q (by omega)).trans ((o5 q (by omega)).trans ((o4 q (by omega)).trans ((o3 q (by omega)).trans ((o2 q (by omega)).trans (o1 q (by omega))))))))))))))))), ho, hq, hd2⟩
theorem lp_X5 {a : Nat} {K : hK} (haz : zfr G a) (hz : gz G ≤ H.size ∧ ga G 50 0 < H.size ∧ ga G 51 0 < H.size) (hal : a < H.size)
    (hQ : ∀ H1 : Heap, H1.size = H.size + 17 → (∀ q, q < H.size → q ≠ a → H1[q]? = H[q]?) → hO G H1 a 9 (vp_V (vRtr H.size)) → hA G H1 H.size 6 6 (refs (fun j => some (H.size + 5 + 2 * j))) → hO G H1 (H.size + 1) 7 (vp_V [Value.ref (H.size + 2), Value.int 0]) → hA G H1 (H.size + 2) 0 120 (.inl (fun _ => 0)) → hO G H1 (H.size + 3) 4 (vp_V [Value.ref (H.size + 4), Value.int 0, Value.int 0]) → hA G H1 (H.size + 4) 0 192 (.inl (fun _ => 0)) → (∀ j, j < 6 → hO G H1 (H.size + 5 + 2 * j) 5 (vp_V (vFlow (gl G RX1 9) (H.size + 6 + 2 * j))) ∧ hA G H1 (H.size + 6 + 2 * j) 1 8 (.inr (.inl (fun _ => 0)))) → K none H1) :
    ∀ d i, i + d = 6 → ∀ Hb : Heap, LS5 G H a i Hb → hAt l G Y_X5_init (hEM G Y_X5_init 17 437 K) 37 [(1, Value.int (nI i)), (0, Value.ref a)] [] Hb (5 + 2 * i) (323 + 19 * i) := by
  have hE : ∀ {mc ms : Nat} {K : hK}, zRm Y_X5_init (hEM G Y_X5_init mc ms K).1 := zRm_M
  intro d
  induction d with
  | zero =>
    intro i hi Hb hL
    obtain ⟨hs, old, ob, arr, qo, qa, dO, da, fl⟩ := hL
    refine H_iload_n dX5_init_37 rfl 0 rfl ?_
    refine H_aload_n dX5_init_38 rfl 1 rfl ?_
    refine H_getV hfl_X5_X5_11 ob rfl dX5_init_39 ?_
    refine H_alenR arr (by decide) dX5_init_42 ?_
    refine H_icmp_ge (tgt := 65) dX5_init_43 rfl (fun _ => ?_) (fun q9 => absurd (by rw [ti_le, ti_nI (by omega), ti_nI (by omega)]; omega) q9)
    refine H_aload_n dX5_init_65 rfl 1 rfl ?_
    refine H_callV (as := []) (st := []) (mc' := 0) (ms' := 0) hE hcv_X5_init_X5_begin_32 rfl ob.rc rfl rfl (zle rfl) dX5_init_66 ⟨by show 5 + 2 * i + 0 ≤ 17; omega, by show 323 + 19 * i + 0 ≤ 437; omega⟩ (ct_begin ob qo dO haz (zfr_gt (by omega)) (zfr_gt (by omega)) (by omega) (by omega) (by omega)) (fun r1 H1 q1 => ?_)
    obtain ⟨rfl, z1, o1, ob2, qo2, dO2⟩ := q1
    have z1 : H1.size = Hb.size + 0 := by omega
    replace arr := (o1 H.size (by omega) (by omega) (by omega)).trans arr
    replace qa := (o1 (H.size + 2) (by omega) (by omega) (by omega)).trans qa
    replace da := (o1 (H.size + 4) (by omega) (by omega) (by omega)).trans da
    replace fl := fun j hj => And.intro ((fl j hj).1.kept (o1 _ (by omega) (by omega) (by omega))) ((o1 _ (by omega) (by omega) (by omega)).trans (fl j hj).2)
    exact H_vret rfl dX5_init_69 (by show 5 + 2 * i + 0 ≤ 17; omega) (by show 323 + 19 * i + 0 ≤ 437; omega) (hQ H1 (by omega) (fun q q1 q2 => (o1 q (by omega) (by omega) (by omega)).trans (old q q1 q2)) ob2 (hA.cong arr fun j hj => if_pos (by omega)) qo2 qa dO2 da (fun j hj => fl j (by omega)))
  | succ d ih =>
    intro i hi Hb hL
    obtain ⟨hs, old, ob, arr, qo, qa, dO, da, fl⟩ := hL
    refine H_iload_n dX5_init_37 rfl 0 rfl ?_
    refine H_aload_n dX5_init_38 rfl 1 rfl ?_
    refine H_getV hfl_X5_X5_11 ob rfl dX5_init_39 ?_
    refine H_alenR arr (by decide) dX5_init_42 ?_
    refine H_icmp_ge (tgt := 65) dX5_init_43 rfl (fun q9 => absurd q9 (by rw [ti_le, ti_nI (by omega), ti_nI (by omega)]; omega)) (fun _ => ?_)
    refine H_aload_n dX5_init_46 rfl 1 rfl ?_
    refine H_getV hfl_X5_X5_11 ob rfl dX5_init_47 ?_
    refine H_iload_n dX5_init_50 rfl 0 rfl ?_
    refine H_new (ci := 5) (N := 11) (V := vp_V [Value.null, Value.int 0, Value.int 0, Value.int 0, Value.int 0, Value.int 0, Value.int 0, Value.int 0, Value.int 0, Value.int 0, Value.null]) tyX1 rfl zws_X1 tyX1_ok zw_196 zw_230 zw_117 (fun j hj => by have h4 : j = 0 ∨ j = 1 ∨ j = 2 ∨ j = 3 ∨ j = 4 ∨ j = 5 ∨ j = 6 ∨ j = 7 ∨ j = 8 ∨ j = 9 ∨ j = 10 := (by omega); rcases h4 with e | e | e | e | e | e | e | e | e | e | e <;> subst e <;> rfl) (by show 5 + 2 * i + 1 ≤ 17; omega) (by show 323 + 19 * i + 11 ≤ 437; omega) dX5_init_51 (fun H1 z1 o1 fo => ?_)
    have z1 : H1.size = Hb.size + 1 := by omega
    replace ob := ob.kept (o1 a (by omega))
    replace arr := (o1 H.size (by omega)).trans arr
    replace qo := qo.kept (o1 (H.size + 1) (by omega))
    replace qa := (o1 (H.size + 2) (by omega)).trans qa
    replace dO := dO.kept (o1 (H.size + 3) (by omega))
    replace da := (o1 (H.size + 4) (by omega)).trans da
    replace fl := fun j hj => And.intro ((fl j hj).1.kept (o1 _ (by omega))) ((o1 _ (by omega)).trans (fl j hj).2)
    refine H_dup rfl dX5_init_54 ?_
    refine H_callQ (as := []) (st := [Value.ref Hb.size, Value.int (nI i), Value.ref H.size]) (mc' := 1) (ms' := 8) hE hcq_X5_init_X1_init_31 rfl rfl (zle rfl) dX5_init_55 ⟨by show 5 + 2 * i + 2 ≤ 17; omega, by show 323 + 19 * i + 19 ≤ 437; omega⟩ (ct_X1 fo (zfr_gt (by omega)) (by omega)) (fun r2 H2 q2 => ?_)
    obtain ⟨rfl, z2, o2, fa, fo2⟩ := q2
    simp only [z1, Nat.add_assoc, Nat.reduceAdd] at z2 o2 fa fo2
    have z2 : H2.size = Hb.size + 2 := by omega
    replace ob := ob.kept (o2 a (by omega) (by omega))
    replace arr := (o2 H.size (by omega) (by omega)).trans arr
    replace qo := qo.kept (o2 (H.size + 1) (by omega) (by omega))
    replace qa := (o2 (H.size + 2) (by omega) (by omega)).trans qa
    replace dO := dO.kept (o2 (H.size + 3) (by omega) (by omega))
    replace da := (o2 (H.size + 4) (by omega) (by omega)).trans da
    replace fl := fun j hj => And.intro ((fl j hj).1.kept (o2 _ (by omega) (by omega))) ((o2 _ (by omega) (by omega)).trans (fl j hj).2)
    refine H_aast (t := 6) (ci := 5) (by decide) rfl rfl arr fo2.rc (ti_in (by rw [ti_nI (by omega)]; omega)) (zfr_gt (by omega)) dX5_init_58 (fun H3 z3 o3 arr2 => ?_)
    have z3 : H3.size = Hb.size + 2 := by omega
    replace ob := ob.kept (o3 a (by omega))
    replace qo := qo.kept (o3 (H.size + 1) (by omega))
    replace qa := (o3 (H.size + 2) (by omega)).trans qa
    replace dO := dO.kept (o3 (H.size + 3) (by omega))
    replace da := (o3 (H.size + 4) (by omega)).trans da
    replace fl := fun j hj => And.intro ((fl j hj).1.kept (o3 _ (by omega))) ((o3 _ (by omega)).trans (fl j hj).2)
    replace fa := (o3 (Hb.size + 1) (by omega)).trans fa
    replace fo2 := fo2.kept (o3 Hb.size (by omega))
    rw [ti_at (ti_nI (show i < 2147483648 by omega))] at arr2
    refine H_iinc (lv2 := [(1, Value.int ((nI i) + 1)), (0, Value.ref a)]) dX5_init_59 0 rfl rfl (by decide) rfl ?_
    refine H_goto (tgt := 37) dX5_init_62 rfl ?_
    rw [show nI i + 1 = nI (i + 1) from nI_ofT (ti_inc (ti_nI (by omega)) (by omega))]
    rw [show 5 + 2 * i + 1 + 1 = 5 + 2 * (i + 1) by omega, show 323 + 19 * i + 11 + 8 = 323 + 19 * (i + 1) by omega]
    refine ih (i + 1) (by omega) H3 (LS5.mk (by omega) (fun q q1 q2 => (((o3 q (by omega)).trans ((o2 q (by omega) (by omega)).trans (o1 q (by omega))))).trans (old q q1 q2)) ob (hA.cong arr2 fun j hj => ?_) qo qa dO da fun j hj => ?_)
    · by_cases c : j = i
      · rw [if_pos c, if_pos (by omega), c, hs]
      · rw [if_neg c]
        by_cases c2 : j < i
        · rw [if_pos c2, if_pos (by omega)]
        · rw [if_neg c2, if_neg (by omega)]
    · by_cases c : j = i
      · rw [c, show H.size + 5 + 2 * i = Hb.size from hs.symm, show H.size + 6 + 2 * i = Hb.size + 1 by omega]
        exact ⟨fo2, fa⟩
      · exact fl j (by omega)
theorem ct_X5 {a : Nat} (ho : hO G H a 9 (vp_V [Value.int 0, Value.int 0, Value.int 0, Value.int 0, Value.int 0, Value.int 0, Value.int 0, Value.int 0, Value.int 0, Value.int 0, Value.int 0, Value.int 0, Value.int 0, Value.null, Value.null, Value.null])) (haz : zfr G a) (hz : gz G ≤ H.size ∧ ga G 50 0 < H.size ∧ ga G 51 0 < H.size) (hsa : H.size = a + 1) : hCal l G Y_X5_init 17 437 [Value.ref a] H (fun r H1 => r = none ∧ H1.size = H.size + 17 ∧ (∀ q, q < H.size → q ≠ a → H1[q]? = H[q]?) ∧ Rtr G H1 a) := by
  refine hCal_of (by decide) rfl (zle rfl) rfl ?_
  have hE : ∀ {mc ms : Nat} {K : hK}, zRm Y_X5_init (hEM G Y_X5_init mc ms K).1 := zRm_M
  have hal := ho.lt
  refine H_aload_n dX5_init_0 rfl 0 rfl ?_
  refine H_objInit zw_195 zw_146 zw_147 hE (by decide) (zle rfl) dX5_init_1 ?_
  refine H_aload_n dX5_init_4 rfl 0 rfl ?_
  refine H_bipush (v := 6) rfl dX5_init_5 ?_
  refine H_anewa (t := 6) (n := 6) (by decide) rfl zw_196 (fun U h => h.2.2.2.1.1) rfl (by decide) (by show 1 ≤ 17; omega) (by show 6 ≤ 437; omega) dX5_init_7 (fun H1 z1 o1 arr => ?_)
  have z1 : H1.size = H.size + 1 := by omega
  replace ho := ho.kept (o1 a (by omega))
  refine H_putV (fs2 := [Value.int 0, Value.int 0, Value.int 0, Value.int 0, Value.int 0, Value.int 0, Value.int 0, Value.int 0, Value.int 0, Value.int 0, Value.int 0, Value.int 0, Value.int 0, Value.ref H.size, Value.null, Value.null]) hfp_X5_X5_11 (fun _ => rfl) ho rfl (zle rfl) rfl rfl (by omega) dX5_init_10 (fun H2 z2 o2 hoN => ?_)
  have z2 : H2.size = H.size + 1 := by omega
  replace arr := (o2 H.size (by omega)).trans arr
  have ho := hoN
  refine H_aload_n dX5_init_13 rfl 0 rfl ?_
  refine H_new (ci := 7) (N := 2) (V := vp_V [Value.null, Value.int 0]) tyX3 rfl zws_X3 tyX3_ok zw_198 zw_199 zw_115 (fun j hj => by have h4 : j = 0 ∨ j = 1 := (by omega); rcases h4 with e | e <;> subst e <;> rfl) (by show 2 ≤ 17; omega) (by show 8 ≤ 437; omega) dX5_init_14 (fun H3 z3 o3 qo => ?_)
  rw [z2] at z3 o3 qo ⊢
  have z3 : H3.size = H.size + 2 := by omega
  replace ho := ho.kept (o3 a (by omega))
  replace arr := (o3 H.size (by omega)).trans arr
  refine H_dup rfl dX5_init_17 ?_
  refine H_callQ (as := []) (st := [Value.ref (H.size + 1), Value.ref a]) (mc' := 1) (ms' := 120) hE hcq_X5_init_X3_init_19 rfl rfl (zle rfl) dX5_init_18 ⟨by show 3 ≤ 17; omega, by show 128 ≤ 437; omega⟩ (ct_X3 qo (zfr_gt (by omega)) (by omega)) (fun r4 H4 q4 => ?_)
  obtain ⟨rfl, z4, o4, qa, qo2⟩ := q4
  simp only [z3, Nat.add_assoc, Nat.reduceAdd] at z4 o4 qa qo2
  have z4 : H4.size = H.size + 3 := by omega
  replace ho := ho.kept (o4 a (by omega) (by omega))
  replace arr := (o4 H.size (by omega) (by omega)).trans arr
  refine H_putV (fs2 := [Value.int 0, Value.int 0, Value.int 0, Value.int 0, Value.int 0, Value.int 0, Value.int 0, Value.int 0, Value.int 0, Value.int 0, Value.int 0, Value.int 0, Value.int 0, Value.ref H.size, Value.ref (H.size + 1), Value.null]) hfp_X5_X5_20 (fun _ => rfl) ho rfl (zle rfl) rfl rfl (by omega) dX5_init_21 (fun H5 z5 o5 hoN => ?_)
  have z5 : H5.size = H.size + 3 := by omega
  replace arr := (o5 H.size (by omega)).trans arr
  replace qa := (o5 (H.size + 2) (by omega)).trans qa
  replace qo2 := qo2.kept (o5 (H.size + 1) (by omega))
  have ho := hoN
  refine H_aload_n dX5_init_24 rfl 0 rfl ?_
  refine H_new (ci := 4) (N := 3) (V := vp_V [Value.null, Value.int 0, Value.int 0]) tyX0 rfl zws_X0 tyX0_ok zw_213 zw_214 zw_116 (fun j hj => by have h4 : j = 0 ∨ j = 1 ∨ j = 2 := (by omega); rcases h4 with e | e | e <;> subst e <;> rfl) (by show 4 ≤ 17; omega) (by show 131 ≤ 437; omega) dX5_init_25 (fun H6 z6 o6 dO => ?_)
  rw [z5] at z6 o6 dO ⊢
  have z6 : H6.size = H.size + 4 := by omega
  replace ho := ho.kept (o6 a (by omega))
  replace arr := (o6 H.size (by omega)).trans arr
  replace qa := (o6 (H.size + 2) (by omega)).trans qa
  replace qo2 := qo2.kept (o6 (H.size + 1) (by omega))
  refine H_dup rfl dX5_init_28 ?_
  refine H_callQ (as := []) (st := [Value.ref (H.size + 3), Value.ref a]) (mc' := 1) (ms' := 192) hE hcq_X5_init_X0_init_26 rfl rfl (zle rfl) dX5_init_29 ⟨by show 5 ≤ 17; omega, by show 323 ≤ 437; omega⟩ (ct_X0 dO (zfr_gt (by omega)) (by omega)) (fun r7 H7 q7 => ?_)
  obtain ⟨rfl, z7, o7, da, dO2⟩ := q7
  simp only [z6, Nat.add_assoc, Nat.reduceAdd] at z7 o7 da dO2
  have z7 : H7.size = H.size + 5 := by omega
  replace ho := ho.kept (o7 a (by omega) (by omega))
  replace arr := (o7 H.size (by omega) (by omega)).trans arr
  replace qa := (o7 (H.size + 2) (by omega) (by omega)).trans qa
  replace qo2 := qo2.kept (o7 (H.size + 1) (by omega) (by omega))
  refine H_putV (fs2 := [Value.int 0, Value.int 0, Value.int 0, Value.int 0, Value.int 0, Value.int 0, Value.int 0, Value.int 0, Value.int 0, Value.int 0, Value.int 0, Value.int 0, Value.int 0, Value.ref H.size, Value.ref (H.size + 1), Value.ref (H.size + 3)]) hfp_X5_X5_27 (fun _ => rfl) ho rfl (zle rfl) rfl rfl (by omega) dX5_init_32 (fun H8 z8 o8 hoN => ?_)
  have z8 : H8.size = H.size + 5 := by omega
  replace arr := (o8 H.size (by omega)).trans arr
  replace qa := (o8 (H.size + 2) (by omega)).trans qa
  replace qo2 := qo2.kept (o8 (H.size + 1) (by omega))
  replace da := (o8 (H.size + 4) (by omega)).trans da
  replace dO2 := dO2.kept (o8 (H.size + 3) (by omega))
  have ho := hoN
  refine H_iconst (v := 0) rfl dX5_init_35 ?_
  refine H_istore_n (lv2 := [(1, Value.int 0), (0, Value.ref a)]) dX5_init_36 rfl (by decide) rfl ?_
  refine lp_X5 (K := fun r H1 => r = none ∧ H1.size = H.size + 17 ∧ (∀ q, q < H.size → q ≠ a → H1[q]? = H[q]?) ∧ Rtr G H1 a) haz hz hal (fun H1 g1 g2 g3 g4 g5 g6 g7 g8 g9 => ⟨rfl, g1, g2, ?_⟩) 6 0 rfl H8 (LS5.mk (by omega) (fun q hq hqa => ((o8 q (by omega)).trans ((o7 q (by omega) (by omega)).trans ((o6 q (by omega)).trans ((o5 q (by omega)).trans ((o4 q (by omega) (by omega)).trans ((o3 q (by omega)).trans ((o2 q (by omega)).trans (o1 q (by omega)))))))))) ho (hA.cong arr fun j _ => (if_neg (by omega)).symm) qo2 qa dO2 da (fun j hj => absurd hj (by omega)))
  have ha1 : H.size = a + 1 := hsa
  rw [ha1] at g3 g4 g5 g6 g7 g8
  exact Rtr.mk g3 (hA.cong g4 fun j _ => congrArg some (by omega)) g5 g6 g7 g8 fun j hj => by rw [show a + 6 + 2 * j = H.size + 5 + 2 * j by omega, show a + 7 + 2 * j = H.size + 6 + 2 * j by omega]; exact g9 j hj
end HCT2
