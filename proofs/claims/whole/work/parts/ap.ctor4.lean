/-! printed by wip/whole/h_ctor5.py: the class's own constructor -/
abbrev Y_X8_init : zY := (yX8_init, cX8_init, 2, none, 17, [])
theorem zw_145 : Cond.methodLink RX8 1 objectInit ∈ zAll := zin 145 (by decide +kernel) (by decide +kernel)
theorem zw_148 : Cond.classLink RX8 7 RX4 ∈ zAll := zin 148 (by decide +kernel) (by decide +kernel)
theorem zw_149 : Cond.instantiable RX4 7 ∈ zAll := zin 149 (by decide +kernel) (by decide +kernel)
theorem zw_151 : Cond.instanceMethod yX4_init ∈ zAll := zin 151 (by decide +kernel) (by decide +kernel)
theorem zw_152 : Cond.code yX4_init cX4_init 1 none ∈ zAll := zin 152 (by decide +kernel) (by decide +kernel)
theorem hcq_X8_init_X4_init_9 : hLQ Y_X8_init 9 Y_X4_init 0 := ⟨by decide, zw_151, zw_112, zw_152, rfl, rfl, by decide +kernel, by decide, by decide⟩
theorem hfp_X8_X8_10 : hFP RX8 10 12 0 true (.object "EarlyDrops$Reader") := ⟨RX8, TX8, 9, tyX8, ⟨rfl, by decide, zw_481, zws_X8⟩, tyX8_ok, nmX8, rfl, by decide +kernel, fun _ => rfl⟩
theorem zw_184 : Cond.classLink RX8 16 RX7 ∈ zAll := zin 184 (by decide +kernel) (by decide +kernel)
theorem zw_185 : Cond.instantiable RX7 3 ∈ zAll := zin 185 (by decide +kernel) (by decide +kernel)
theorem hfl_X8_X8_10 : hFL RX8 10 12 0 := ⟨RX8, TX8, 9, rfl, by decide, zw_481, zws_X8⟩
theorem zw_186 : Cond.methodLink RX8 18 yX7_init ∈ zAll := zin 186 (by decide +kernel) (by decide +kernel)
theorem zw_188 : Cond.code yX7_init cX7_init 2 none ∈ zAll := zin 188 (by decide +kernel) (by decide +kernel)
theorem zw_187 : Cond.instanceMethod yX7_init ∈ zAll := zin 187 (by decide +kernel) (by decide +kernel)
theorem hci_X8_init_X7_init_18 : hLI Y_X8_init 18 Y_X7_init 1 := ⟨zw_186, zw_187, zw_113, zw_188, rfl, rfl, by decide +kernel, by decide, by decide⟩
theorem hfp_X8_X8_21 : hFP RX8 21 12 1 true (.object "EarlyDrops$Setup") := ⟨RX8, TX8, 9, tyX8, ⟨rfl, by decide, zw_482, zws_X8⟩, tyX8_ok, nmX8, rfl, by decide +kernel, fun _ => rfl⟩
theorem zw_389 : Cond.classLink RX8 25 RX5 ∈ zAll := zin 389 (by decide +kernel) (by decide +kernel)
theorem zw_390 : Cond.methodLink RX8 27 yX5_init ∈ zAll := zin 390 (by decide +kernel) (by decide +kernel)
theorem hci_X8_init_X5_init_27 : hLI Y_X8_init 27 Y_X5_init 0 := ⟨zw_390, zw_193, zw_114, zw_194, rfl, rfl, by decide +kernel, by decide, by decide⟩
theorem hfp_X8_X8_28 : hFP RX8 28 12 3 true (.object "EarlyDrops$Router") := ⟨RX8, TX8, 9, tyX8, ⟨rfl, by decide, zw_484, zws_X8⟩, tyX8_ok, nmX8, rfl, by decide +kernel, fun _ => rfl⟩
theorem zw_391 : Cond.classLink RX8 32 RX6 ∈ zAll := zin 391 (by decide +kernel) (by decide +kernel)
theorem zw_392 : Cond.instantiable RX6 10 ∈ zAll := zin 392 (by decide +kernel) (by decide +kernel)
theorem hfl_X8_X8_28 : hFL RX8 28 12 3 := ⟨RX8, TX8, 9, rfl, by decide, zw_484, zws_X8⟩
theorem zw_393 : Cond.methodLink RX8 34 yX6_init ∈ zAll := zin 393 (by decide +kernel) (by decide +kernel)
theorem zw_395 : Cond.code yX6_init cX6_init 3 none ∈ zAll := zin 395 (by decide +kernel) (by decide +kernel)
theorem zw_394 : Cond.instanceMethod yX6_init ∈ zAll := zin 394 (by decide +kernel) (by decide +kernel)
theorem hci_X8_init_X6_init_34 : hLI Y_X8_init 34 Y_X6_init 2 := ⟨zw_393, zw_394, zw_118, zw_395, rfl, rfl, by decide +kernel, by decide, by decide⟩
theorem hfp_X8_X8_37 : hFP RX8 37 12 2 true (.object "EarlyDrops$Script") := ⟨RX8, TX8, 9, tyX8, ⟨rfl, by decide, zw_483, zws_X8⟩, tyX8_ok, nmX8, rfl, by decide +kernel, fun _ => rfl⟩
theorem hfp_X8_X8_41 : hFP RX8 41 12 4 true (.object "EarlyDrops$Router") := ⟨RX8, TX8, 9, tyX8, ⟨rfl, by decide, zw_485, zws_X8⟩, tyX8_ok, nmX8, rfl, by decide +kernel, fun _ => rfl⟩
theorem zw_428 : Cond.classLink RX8 44 RX2 ∈ zAll := zin 428 (by decide +kernel) (by decide +kernel)
theorem zw_429 : Cond.instantiable RX2 3 ∈ zAll := zin 429 (by decide +kernel) (by decide +kernel)
theorem zw_430 : Cond.methodLink RX8 46 yX2_init ∈ zAll := zin 430 (by decide +kernel) (by decide +kernel)
theorem zw_432 : Cond.code yX2_init cX2_init 2 none ∈ zAll := zin 432 (by decide +kernel) (by decide +kernel)
theorem zw_431 : Cond.instanceMethod yX2_init ∈ zAll := zin 431 (by decide +kernel) (by decide +kernel)
theorem hci_X8_init_X2_init_46 : hLI Y_X8_init 46 Y_X2_init 0 := ⟨zw_430, zw_431, zw_119, zw_432, rfl, rfl, by decide +kernel, by decide, by decide⟩
theorem hfp_X8_X8_47 : hFP RX8 47 12 5 true (.object "EarlyDrops$Past") := ⟨RX8, TX8, 9, tyX8, ⟨rfl, by decide, zw_486, zws_X8⟩, tyX8_ok, nmX8, rfl, by decide +kernel, fun _ => rfl⟩
theorem hfp_X8_X8_51 : hFP RX8 51 12 6 true (.array (.object "EarlyDrops$Router")) := ⟨RX8, TX8, 9, tyX8, ⟨rfl, by decide, zw_487, zws_X8⟩, tyX8_ok, nmX8, rfl, by decide +kernel, fun _ => rfl⟩
theorem hfl_X8_X8_51 : hFL RX8 51 12 6 := ⟨RX8, TX8, 9, rfl, by decide, zw_487, zws_X8⟩
theorem zw_480 : Cond.arrayClass (newarray.typeOf .boolean) ∈ zAll := zin 480 (by decide +kernel) (by decide +kernel)
theorem hfp_X8_X8_55 : hFP RX8 55 12 7 true (.array .boolean) := ⟨RX8, TX8, 9, tyX8, ⟨rfl, by decide, zw_488, zws_X8⟩, tyX8_ok, nmX8, rfl, by decide +kernel, fun _ => rfl⟩
theorem zw_448 : Cond.classLink RX8 59 RJ4 ∈ zAll := zin 448 (by decide +kernel) (by decide +kernel)
theorem zw_449 : Cond.instantiable RJ4 4 ∈ zAll := zin 449 (by decide +kernel) (by decide +kernel)
theorem zw_450 : Cond.methodLink RX8 61 yJ4_init_da8c8 ∈ zAll := zin 450 (by decide +kernel) (by decide +kernel)
theorem zw_452 : Cond.code yJ4_init_da8c8 cJ4_init_da8c8 1 none ∈ zAll := zin 452 (by decide +kernel) (by decide +kernel)
theorem zw_451 : Cond.instanceMethod yJ4_init_da8c8 ∈ zAll := zin 451 (by decide +kernel) (by decide +kernel)
theorem hci_X8_init_J4_init_da8c8_61 : hLI Y_X8_init 61 Y_J4_init_da8c8 0 := ⟨zw_450, zw_451, zw_121, zw_452, rfl, rfl, by decide +kernel, by decide, by decide⟩
theorem hfp_X8_X8_62 : hFP RX8 62 12 8 true (.object "java/lang/StringBuilder") := ⟨RX8, TX8, 9, tyX8, ⟨rfl, by decide, zw_489, zws_X8⟩, tyX8_ok, nmX8, rfl, by decide +kernel, fun _ => rfl⟩
theorem dX8_init_0 : decode cX8_init 0 = .ok (.aload_n 0, 1) := by decide +kernel
theorem dX8_init_1 : decode cX8_init 1 = .ok (.invokespecial 1, 3) := by decide +kernel
theorem dX8_init_4 : decode cX8_init 4 = .ok (.aload_n 0, 1) := by decide +kernel
theorem dX8_init_5 : decode cX8_init 5 = .ok (.new 7, 3) := by decide +kernel
theorem dX8_init_8 : decode cX8_init 8 = .ok (.dup, 1) := by decide +kernel
theorem dX8_init_9 : decode cX8_init 9 = .ok (.invokespecial 9, 3) := by decide +kernel
theorem dX8_init_12 : decode cX8_init 12 = .ok (.putfield 10, 3) := by decide +kernel
theorem dX8_init_15 : decode cX8_init 15 = .ok (.aload_n 0, 1) := by decide +kernel
theorem dX8_init_16 : decode cX8_init 16 = .ok (.new 16, 3) := by decide +kernel
theorem dX8_init_19 : decode cX8_init 19 = .ok (.dup, 1) := by decide +kernel
theorem dX8_init_20 : decode cX8_init 20 = .ok (.aload_n 0, 1) := by decide +kernel
theorem dX8_init_21 : decode cX8_init 21 = .ok (.getfield 10, 3) := by decide +kernel
theorem dX8_init_24 : decode cX8_init 24 = .ok (.invokespecial 18, 3) := by decide +kernel
theorem dX8_init_27 : decode cX8_init 27 = .ok (.putfield 21, 3) := by decide +kernel
theorem dX8_init_30 : decode cX8_init 30 = .ok (.aload_n 0, 1) := by decide +kernel
theorem dX8_init_31 : decode cX8_init 31 = .ok (.new 25, 3) := by decide +kernel
theorem dX8_init_34 : decode cX8_init 34 = .ok (.dup, 1) := by decide +kernel
theorem dX8_init_35 : decode cX8_init 35 = .ok (.invokespecial 27, 3) := by decide +kernel
theorem dX8_init_38 : decode cX8_init 38 = .ok (.putfield 28, 3) := by decide +kernel
theorem dX8_init_41 : decode cX8_init 41 = .ok (.aload_n 0, 1) := by decide +kernel
theorem dX8_init_42 : decode cX8_init 42 = .ok (.new 32, 3) := by decide +kernel
theorem dX8_init_45 : decode cX8_init 45 = .ok (.dup, 1) := by decide +kernel
theorem dX8_init_46 : decode cX8_init 46 = .ok (.aload_n 0, 1) := by decide +kernel
theorem dX8_init_47 : decode cX8_init 47 = .ok (.getfield 10, 3) := by decide +kernel
theorem dX8_init_50 : decode cX8_init 50 = .ok (.aload_n 0, 1) := by decide +kernel
theorem dX8_init_51 : decode cX8_init 51 = .ok (.getfield 28, 3) := by decide +kernel
theorem dX8_init_54 : decode cX8_init 54 = .ok (.invokespecial 34, 3) := by decide +kernel
theorem dX8_init_57 : decode cX8_init 57 = .ok (.putfield 37, 3) := by decide +kernel
theorem dX8_init_60 : decode cX8_init 60 = .ok (.aload_n 0, 1) := by decide +kernel
theorem dX8_init_61 : decode cX8_init 61 = .ok (.new 25, 3) := by decide +kernel
theorem dX8_init_64 : decode cX8_init 64 = .ok (.dup, 1) := by decide +kernel
theorem dX8_init_65 : decode cX8_init 65 = .ok (.invokespecial 27, 3) := by decide +kernel
theorem dX8_init_68 : decode cX8_init 68 = .ok (.putfield 41, 3) := by decide +kernel
theorem dX8_init_71 : decode cX8_init 71 = .ok (.aload_n 0, 1) := by decide +kernel
theorem dX8_init_72 : decode cX8_init 72 = .ok (.new 44, 3) := by decide +kernel
theorem dX8_init_75 : decode cX8_init 75 = .ok (.dup, 1) := by decide +kernel
theorem dX8_init_76 : decode cX8_init 76 = .ok (.invokespecial 46, 3) := by decide +kernel
theorem dX8_init_79 : decode cX8_init 79 = .ok (.putfield 47, 3) := by decide +kernel
theorem dX8_init_82 : decode cX8_init 82 = .ok (.aload_n 0, 1) := by decide +kernel
theorem dX8_init_83 : decode cX8_init 83 = .ok (.iconst 2, 1) := by decide +kernel
theorem dX8_init_84 : decode cX8_init 84 = .ok (.anewarray 25, 3) := by decide +kernel
theorem dX8_init_87 : decode cX8_init 87 = .ok (.putfield 51, 3) := by decide +kernel
theorem dX8_init_90 : decode cX8_init 90 = .ok (.iconst 0, 1) := by decide +kernel
theorem dX8_init_91 : decode cX8_init 91 = .ok (.istore_n 1, 1) := by decide +kernel
theorem dX8_init_92 : decode cX8_init 92 = .ok (.iload_n 1, 1) := by decide +kernel
theorem dX8_init_93 : decode cX8_init 93 = .ok (.aload_n 0, 1) := by decide +kernel
theorem dX8_init_94 : decode cX8_init 94 = .ok (.getfield 51, 3) := by decide +kernel
theorem dX8_init_97 : decode cX8_init 97 = .ok (.arraylength, 1) := by decide +kernel
theorem dX8_init_98 : decode cX8_init 98 = .ok (.if_icmp .ge 22, 3) := by decide +kernel
theorem dX8_init_101 : decode cX8_init 101 = .ok (.aload_n 0, 1) := by decide +kernel
theorem dX8_init_102 : decode cX8_init 102 = .ok (.getfield 51, 3) := by decide +kernel
theorem dX8_init_105 : decode cX8_init 105 = .ok (.iload_n 1, 1) := by decide +kernel
theorem dX8_init_106 : decode cX8_init 106 = .ok (.new 25, 3) := by decide +kernel
theorem dX8_init_109 : decode cX8_init 109 = .ok (.dup, 1) := by decide +kernel
theorem dX8_init_110 : decode cX8_init 110 = .ok (.invokespecial 27, 3) := by decide +kernel
theorem dX8_init_113 : decode cX8_init 113 = .ok (.aastore, 1) := by decide +kernel
theorem dX8_init_114 : decode cX8_init 114 = .ok (.iinc 1 1, 3) := by decide +kernel
theorem dX8_init_117 : decode cX8_init 117 = .ok (.goto (-25), 3) := by decide +kernel
theorem dX8_init_120 : decode cX8_init 120 = .ok (.aload_n 0, 1) := by decide +kernel
theorem dX8_init_121 : decode cX8_init 121 = .ok (.iconst 2, 1) := by decide +kernel
theorem dX8_init_122 : decode cX8_init 122 = .ok (.newarray .boolean, 2) := by decide +kernel
theorem dX8_init_124 : decode cX8_init 124 = .ok (.putfield 55, 3) := by decide +kernel
theorem dX8_init_127 : decode cX8_init 127 = .ok (.aload_n 0, 1) := by decide +kernel
theorem dX8_init_128 : decode cX8_init 128 = .ok (.new 59, 3) := by decide +kernel
theorem dX8_init_131 : decode cX8_init 131 = .ok (.dup, 1) := by decide +kernel
theorem dX8_init_132 : decode cX8_init 132 = .ok (.invokespecial 61, 3) := by decide +kernel
theorem dX8_init_135 : decode cX8_init 135 = .ok (.putfield 62, 3) := by decide +kernel
theorem dX8_init_138 : decode cX8_init 138 = .ok (.return_, 1) := by decide +kernel
section HCT4
variable {l : Launch} {G : zG} {H : Heap}
def X8w (G : zG) (H : Heap) (a : Nat) (H1 : Heap) : Prop := (hO G H1 a 12 (vp_V [Value.ref H.size, Value.ref (H.size + 2), Value.ref (H.size + 39), Value.ref (H.size + 21), Value.ref (H.size + 45), Value.ref (H.size + 63), Value.ref (H.size + 209), Value.ref (H.size + 246), Value.ref (H.size + 247)])) ∧ (hO G H1 H.size 8 (vp_V [Value.ref (H.size + 1), Value.int 0, Value.int 0, Value.int 0, Value.int 0, Value.int 0, Value.int (-1)])) ∧ (hA G H1 (H.size + 1) 0 500 (.inl (fun _ => 0))) ∧ (hO G H1 (H.size + 2) 11 (vp_V [Value.ref H.size, Value.ref (H.size + 3), Value.int 0])) ∧ (Rtr G H1 (H.size + 3)) ∧ (Rtr G H1 (H.size + 21)) ∧ (hO G H1 (H.size + 39) 10 (vp_V [Value.ref H.size, Value.ref (H.size + 21), Value.ref (H.size + 40), Value.ref (H.size + 41), Value.ref (H.size + 42), Value.ref (H.size + 43), Value.ref (H.size + 44), Value.int 0, Value.int 0, Value.int 0])) ∧ (hA G H1 (H.size + 40) 0 60 (.inl (fun _ => 0))) ∧ (hA G H1 (H.size + 41) 0 60 (.inl (fun _ => 0))) ∧ (hA G H1 (H.size + 42) 0 60 (.inl (fun _ => 0))) ∧ (hA G H1 (H.size + 43) 0 60 (.inl (fun _ => 0))) ∧ (hA G H1 (H.size + 44) 0 2 (.inl (fun _ => 0))) ∧ (Rtr G H1 (H.size + 45)) ∧ (hO G H1 (H.size + 63) 6 (vp_V [Value.ref (H.size + 64), Value.int 0, Value.int 0])) ∧ (hA G H1 (H.size + 64) 7 8 (refs (fun j => some (H.size + 65 + 18 * j)))) ∧ (∀ j, j < 8 → Rtr G H1 (H.size + 65 + 18 * j)) ∧ (hA G H1 (H.size + 209) 7 2 (refs (fun j => some (H.size + 210 + 18 * j)))) ∧ (Rtr G H1 (H.size + 210)) ∧ (Rtr G H1 (H.size + 228)) ∧ (hA G H1 (H.size + 246) 2 2 (.inl (fun _ => 0))) ∧ (hO G H1 (H.size + 247) 1 (vp_V [Value.ref (H.size + 248), Value.int 0, Value.int 0, Value.int 0])) ∧ (hA G H1 (H.size + 248) 4 16 (.inl (fun _ => 0)))
theorem X8w.ob {G : zG} {H : Heap} {a : Nat} {H1 : Heap} (h9 : X8w G H a H1) : hO G H1 a 12 (vp_V [Value.ref H.size, Value.ref (H.size + 2), Value.ref (H.size + 39), Value.ref (H.size + 21), Value.ref (H.size + 45), Value.ref (H.size + 63), Value.ref (H.size + 209), Value.ref (H.size + 246), Value.ref (H.size + 247)]) := h9.1
theorem X8w.rd {G : zG} {H : Heap} {a : Nat} {H1 : Heap} (h9 : X8w G H a H1) : hO G H1 H.size 8 (vp_V [Value.ref (H.size + 1), Value.int 0, Value.int 0, Value.int 0, Value.int 0, Value.int 0, Value.int (-1)]) := h9.2.1
theorem X8w.byt {G : zG} {H : Heap} {a : Nat} {H1 : Heap} (h9 : X8w G H a H1) : hA G H1 (H.size + 1) 0 500 (.inl (fun _ => 0)) := h9.2.2.1
theorem X8w.su {G : zG} {H : Heap} {a : Nat} {H1 : Heap} (h9 : X8w G H a H1) : hO G H1 (H.size + 2) 11 (vp_V [Value.ref H.size, Value.ref (H.size + 3), Value.int 0]) := h9.2.2.2.1
theorem X8w.r0 {G : zG} {H : Heap} {a : Nat} {H1 : Heap} (h9 : X8w G H a H1) : Rtr G H1 (H.size + 3) := h9.2.2.2.2.1
theorem X8w.r1 {G : zG} {H : Heap} {a : Nat} {H1 : Heap} (h9 : X8w G H a H1) : Rtr G H1 (H.size + 21) := h9.2.2.2.2.2.1
theorem X8w.sc {G : zG} {H : Heap} {a : Nat} {H1 : Heap} (h9 : X8w G H a H1) : hO G H1 (H.size + 39) 10 (vp_V [Value.ref H.size, Value.ref (H.size + 21), Value.ref (H.size + 40), Value.ref (H.size + 41), Value.ref (H.size + 42), Value.ref (H.size + 43), Value.ref (H.size + 44), Value.int 0, Value.int 0, Value.int 0]) := h9.2.2.2.2.2.2.1
theorem X8w.s1 {G : zG} {H : Heap} {a : Nat} {H1 : Heap} (h9 : X8w G H a H1) : hA G H1 (H.size + 40) 0 60 (.inl (fun _ => 0)) := h9.2.2.2.2.2.2.2.1
theorem X8w.s2 {G : zG} {H : Heap} {a : Nat} {H1 : Heap} (h9 : X8w G H a H1) : hA G H1 (H.size + 41) 0 60 (.inl (fun _ => 0)) := h9.2.2.2.2.2.2.2.2.1
theorem X8w.s3 {G : zG} {H : Heap} {a : Nat} {H1 : Heap} (h9 : X8w G H a H1) : hA G H1 (H.size + 42) 0 60 (.inl (fun _ => 0)) := h9.2.2.2.2.2.2.2.2.2.1
theorem X8w.s4 {G : zG} {H : Heap} {a : Nat} {H1 : Heap} (h9 : X8w G H a H1) : hA G H1 (H.size + 43) 0 60 (.inl (fun _ => 0)) := h9.2.2.2.2.2.2.2.2.2.2.1
theorem X8w.s5 {G : zG} {H : Heap} {a : Nat} {H1 : Heap} (h9 : X8w G H a H1) : hA G H1 (H.size + 44) 0 2 (.inl (fun _ => 0)) := h9.2.2.2.2.2.2.2.2.2.2.2.1
theorem X8w.r2 {G : zG} {H : Heap} {a : Nat} {H1 : Heap} (h9 : X8w G H a H1) : Rtr G H1 (H.size + 45) := h9.2.2.2.2.2.2.2.2.2.2.2.2.1
theorem X8w.pa {G : zG} {H : Heap} {a : Nat} {H1 : Heap} (h9 : X8w G H a H1) : hO G H1 (H.size + 63) 6 (vp_V [Value.ref (H.size + 64), Value.int 0, Value.int 0]) := h9.2.2.2.2.2.2.2.2.2.2.2.2.2.1
theorem X8w.pl {G : zG} {H : Heap} {a : Nat} {H1 : Heap} (h9 : X8w G H a H1) : hA G H1 (H.size + 64) 7 8 (refs (fun j => some (H.size + 65 + 18 * j))) := h9.2.2.2.2.2.2.2.2.2.2.2.2.2.2.1
theorem X8w.pr {G : zG} {H : Heap} {a : Nat} {H1 : Heap} (h9 : X8w G H a H1) : ∀ j, j < 8 → Rtr G H1 (H.size + 65 + 18 * j) := h9.2.2.2.2.2.2.2.2.2.2.2.2.2.2.2.1
theorem X8w.sv {G : zG} {H : Heap} {a : Nat} {H1 : Heap} (h9 : X8w G H a H1) : hA G H1 (H.size + 209) 7 2 (refs (fun j => some (H.size + 210 + 18 * j))) := h9.2.2.2.2.2.2.2.2.2.2.2.2.2.2.2.2.1
theorem X8w.q0 {G : zG} {H : Heap} {a : Nat} {H1 : Heap} (h9 : X8w G H a H1) : Rtr G H1 (H.size + 210) := h9.2.2.2.2.2.2.2.2.2.2.2.2.2.2.2.2.2.1
theorem X8w.q1 {G : zG} {H : Heap} {a : Nat} {H1 : Heap} (h9 : X8w G H a H1) : Rtr G H1 (H.size + 228) := h9.2.2.2.2.2.2.2.2.2.2.2.2.2.2.2.2.2.2.1
theorem X8w.isv {G : zG} {H : Heap} {a : Nat} {H1 : Heap} (h9 : X8w G H a H1) : hA G H1 (H.size + 246) 2 2 (.inl (fun _ => 0)) := h9.2.2.2.2.2.2.2.2.2.2.2.2.2.2.2.2.2.2.2.1
theorem X8w.sb {G : zG} {H : Heap} {a : Nat} {H1 : Heap} (h9 : X8w G H a H1) : hO G H1 (H.size + 247) 1 (vp_V [Value.ref (H.size + 248), Value.int 0, Value.int 0, Value.int 0]) := h9.2.2.2.2.2.2.2.2.2.2.2.2.2.2.2.2.2.2.2.2.1
theorem X8w.sa {G : zG} {H : Heap} {a : Nat} {H1 : Heap} (h9 : X8w G H a H1) : hA G H1 (H.size + 248) 4 16 (.inl (fun _ => 0)) := h9.2.2.2.2.2.2.2.2.2.2.2.2.2.2.2.2.2.2.2.2.2
theorem X8w.mk {G : zG} {H : Heap} {a : Nat} {H1 : Heap} (ob : hO G H1 a 12 (vp_V [Value.ref H.size, Value.ref (H.size + 2), Value.ref (H.size + 39), Value.ref (H.size + 21), Value.ref (H.size + 45), Value.ref (H.size + 63), Value.ref (H.size + 209), Value.ref (H.size + 246), Value.ref (H.size + 247)])) (rd : hO G H1 H.size 8 (vp_V [Value.ref (H.size + 1), Value.int 0, Value.int 0, Value.int 0, Value.int 0, Value.int 0, Value.int (-1)])) (byt : hA G H1 (H.size + 1) 0 500 (.inl (fun _ => 0))) (su : hO G H1 (H.size + 2) 11 (vp_V [Value.ref H.size, Value.ref (H.size + 3), Value.int 0])) (r0 : Rtr G H1 (H.size + 3)) (r1 : Rtr G H1 (H.size + 21)) (sc : hO G H1 (H.size + 39) 10 (vp_V [Value.ref H.size, Value.ref (H.size + 21), Value.ref (H.size + 40), Value.ref (H.size + 41), Value.ref (H.size + 42), Value.ref (H.size + 43), Value.ref (H.size + 44), Value.int 0, Value.int 0, Value.int 0])) (s1 : hA G H1 (H.size + 40) 0 60 (.inl (fun _ => 0))) (s2 : hA G H1 (H.size + 41) 0 60 (.inl (fun _ => 0))) (s3 : hA G H1 (H.size + 42) 0 60 (.inl (fun _ => 0))) (s4 : hA G H1 (H.size + 43) 0 60 (.inl (fun _ => 0))) (s5 : hA G H1 (H.size + 44) 0 2 (.inl (fun _ => 0))) (r2 : Rtr G H1 (H.size + 45)) (pa : hO G H1 (H.size + 63) 6 (vp_V [Value.ref (H.size + 64), Value.int 0, Value.int 0])) (pl : hA G H1 (H.size + 64) 7 8 (refs (fun j => some (H.size + 65 + 18 * j)))) (pr : ∀ j, j < 8 → Rtr G H1 (H.size + 65 + 18 * j)) (sv : hA G H1 (H.size + 209) 7 2 (refs (fun j => some (H.size + 210 + 18 * j)))) (q0 : Rtr G H1 (H.size + 210)) (q1 : Rtr G H1 (H.size + 228)) (isv : hA G H1 (H.size + 246) 2 2 (.inl (fun _ => 0))) (sb : hO G H1 (H.size + 247) 1 (vp_V [Value.ref (H.size + 248), Value.int 0, Value.int 0, Value.int 0])) (sa : hA G H1 (H.size + 248) 4 16 (.inl (fun _ => 0))) : X8w G H a H1 := ⟨ob, rd, byt, su, r0, r1, sc, s1, s2, s3, s4, s5, r2, pa, pl, pr, sv, q0, q1, isv, sb, sa⟩
theorem cs8_0 {K : hK} {a : Nat} (haz : zfr G a) (hz : gz G ≤ H.size ∧ ga G 50 0 < H.size ∧ ga G 51 0 < H.size) (hal : a < H.size) (ho : hO G H a 12 (vp_V [Value.null, Value.null, Value.null, Value.null, Value.null, Value.null, Value.null, Value.null, Value.null])) (hk : ∀ H1 : Heap, H1.size = H.size + 2 → (∀ q, q < H.size → q ≠ a → H1[q]? = H[q]?) → (hO G H1 a 12 (vp_V [Value.ref H.size, Value.null, Value.null, Value.null, Value.null, Value.null, Value.null, Value.null, Value.null])) → (hA G H1 (H.size + 1) 0 500 (.inl (fun _ => 0))) → (hO G H1 H.size 8 (vp_V [Value.ref (H.size + 1), Value.int 0, Value.int 0, Value.int 0, Value.int 0, Value.int 0, Value.int (-1)])) → hAt l G Y_X8_init (hEM G Y_X8_init 249 6686 K) 15 [(0, Value.ref a)] [] H1 2 507) : hAt l G Y_X8_init (hEM G Y_X8_init 249 6686 K) 4 [(0, Value.ref a)] [] H 0 0 := by
  have hE : ∀ {mc ms : Nat} {K : hK}, zRm Y_X8_init (hEM G Y_X8_init mc ms K).1 := zRm_M
  refine H_aload_n dX8_init_4 rfl 0 rfl ?_
  refine H_new (ci := 8) (N := 7) (V := vp_V [Value.null, Value.int 0, Value.int 0, Value.int 0, Value.int 0, Value.int 0, Value.int 0]) tyX4 rfl zws_X4 tyX4_ok zw_148 zw_149 zw_112 (fun j hj => by have h4 : j = 0 ∨ j = 1 ∨ j = 2 ∨ j = 3 ∨ j = 4 ∨ j = 5 ∨ j = 6 := (by omega); rcases h4 with e | e | e | e | e | e | e <;> subst e <;> rfl) (by show 1 ≤ 249; omega) (by show 7 ≤ 6686; omega) dX8_init_5 (fun H1 z1 o1 rd => ?_)
  have z1 : H1.size = H.size + 1 := by omega
  replace ho := ho.kept (o1 a (by omega))
  refine H_dup rfl dX8_init_8 ?_
  refine H_callQ (as := []) (st := [Value.ref H.size, Value.ref a]) (mc' := 1) (ms' := 500) hE hcq_X8_init_X4_init_9 rfl rfl (zle rfl) dX8_init_9 ⟨by show 2 ≤ 249; omega, by show 507 ≤ 6686; omega⟩ (ct_X4 rd (zfr_gt (by omega)) (by omega)) (fun r2 H2 q2 => ?_)
  obtain ⟨rfl, z2, o2, by_, rd2⟩ := q2
  simp only [z1, Nat.add_assoc, Nat.reduceAdd] at z2 o2 by_ rd2
  have z2 : H2.size = H.size + 2 := by omega
  replace ho := ho.kept (o2 a (by omega) (by omega))
  refine H_putV (fs2 := [Value.ref H.size, Value.null, Value.null, Value.null, Value.null, Value.null, Value.null, Value.null, Value.null]) hfp_X8_X8_10 (fun _ => rfl) ho rfl (zle rfl) rfl rfl (by omega) dX8_init_12 (fun H3 z3 o3 hoN => ?_)
  have z3 : H3.size = H.size + 2 := by omega
  replace by_ := (o3 (H.size + 1) (by omega)).trans by_
  replace rd2 := rd2.kept (o3 H.size (by omega))
  have ho := hoN
  exact hk H3 (by omega) (fun q hq hqa => ((o3 q (by omega)).trans ((o2 q (by omega) (by omega)).trans (o1 q (by omega))))) ho by_ rd2
theorem cs8_1 {K : hK} {a : Nat} (haz : zfr G a) (hz : gz G ≤ H.size ∧ ga G 50 0 < H.size ∧ ga G 51 0 < H.size) (hal : a < H.size) {Hb : Heap} (zb : Hb.size = H.size + 2) (old : ∀ q, q < H.size → q ≠ a → Hb[q]? = H[q]?) (ho : hO G Hb a 12 (vp_V [Value.ref H.size, Value.null, Value.null, Value.null, Value.null, Value.null, Value.null, Value.null, Value.null])) (by_ : hA G Hb (H.size + 1) 0 500 (.inl (fun _ => 0))) (rd2 : hO G Hb H.size 8 (vp_V [Value.ref (H.size + 1), Value.int 0, Value.int 0, Value.int 0, Value.int 0, Value.int 0, Value.int (-1)])) (hk : ∀ H1 : Heap, H1.size = H.size + 21 → (∀ q, q < H.size → q ≠ a → H1[q]? = H[q]?) → (hO G H1 a 12 (vp_V [Value.ref H.size, Value.ref (H.size + 2), Value.null, Value.null, Value.null, Value.null, Value.null, Value.null, Value.null])) → (hA G H1 (H.size + 1) 0 500 (.inl (fun _ => 0))) → (hO G H1 H.size 8 (vp_V [Value.ref (H.size + 1), Value.int 0, Value.int 0, Value.int 0, Value.int 0, Value.int 0, Value.int (-1)])) → (Rtr G H1 (H.size + 3)) → (hO G H1 (H.size + 2) 11 (vp_V [Value.ref H.size, Value.ref (H.size + 3), Value.int 0])) → hAt l G Y_X8_init (hEM G Y_X8_init 249 6686 K) 30 [(0, Value.ref a)] [] H1 21 963) : hAt l G Y_X8_init (hEM G Y_X8_init 249 6686 K) 15 [(0, Value.ref a)] [] Hb 2 507 := by
  have hE : ∀ {mc ms : Nat} {K : hK}, zRm Y_X8_init (hEM G Y_X8_init mc ms K).1 := zRm_M
  refine H_aload_n dX8_init_15 rfl 0 rfl ?_
  refine H_new (ci := 11) (N := 3) (V := vp_V [Value.null, Value.null, Value.int 0]) tyX7 rfl zws_X7 tyX7_ok zw_184 zw_185 zw_113 (fun j hj => by have h4 : j = 0 ∨ j = 1 ∨ j = 2 := (by omega); rcases h4 with e | e | e <;> subst e <;> rfl) (by show 3 ≤ 249; omega) (by show 510 ≤ 6686; omega) dX8_init_16 (fun H4 z4 o4 su => ?_)
  rw [zb] at z4 o4 su ⊢
  have z4 : H4.size = H.size + 3 := by omega
  replace ho := ho.kept (o4 a (by omega))
  replace by_ := (o4 (H.size + 1) (by omega)).trans by_
  replace rd2 := rd2.kept (o4 H.size (by omega))
  refine H_dup rfl dX8_init_19 ?_
  refine H_aload_n dX8_init_20 rfl 0 rfl ?_
  refine H_getV hfl_X8_X8_10 ho rfl dX8_init_21 ?_
  refine H_callI (as := [Value.ref H.size]) (st := [Value.ref (H.size + 2), Value.ref a]) (mc' := 18) (ms' := 453) hE hci_X8_init_X7_init_18 rfl rfl (zle rfl) dX8_init_24 ⟨by show 21 ≤ 249; omega, by show 963 ≤ 6686; omega⟩ (ct_X7 su (zfr_gt (by omega)) (by omega)) (fun r5 H5 q5 => ?_)
  obtain ⟨rfl, z5, o5, rt0, su2⟩ := q5
  simp only [z4, Nat.add_assoc, Nat.reduceAdd] at z5 o5 rt0 su2
  have z5 : H5.size = H.size + 21 := by omega
  replace ho := ho.kept (o5 a (by omega) (by omega))
  replace by_ := (o5 (H.size + 1) (by omega) (by omega)).trans by_
  replace rd2 := rd2.kept (o5 H.size (by omega) (by omega))
  refine H_putV (fs2 := [Value.ref H.size, Value.ref (H.size + 2), Value.null, Value.null, Value.null, Value.null, Value.null, Value.null, Value.null]) hfp_X8_X8_21 (fun _ => rfl) ho rfl (zle rfl) rfl rfl (by omega) dX8_init_27 (fun H6 z6 o6 hoN => ?_)
  have z6 : H6.size = H.size + 21 := by omega
  replace by_ := (o6 (H.size + 1) (by omega)).trans by_
  replace rd2 := rd2.kept (o6 H.size (by omega))
  replace rt0 := rt0.kept (fun q q1 q2 => o6 q (by omega))
  replace su2 := su2.kept (o6 (H.size + 2) (by omega))
  have ho := hoN
  exact hk H6 (by omega) (fun q hq hqa => ((o6 q (by omega)).trans ((o5 q (by omega) (by omega)).trans (o4 q (by omega)))).trans (old q hq hqa)) ho by_ rd2 rt0 su2
theorem cs8_2 {K : hK} {a : Nat} (haz : zfr G a) (hz : gz G ≤ H.size ∧ ga G 50 0 < H.size ∧ ga G 51 0 < H.size) (hal : a < H.size) {Hb : Heap} (zb : Hb.size = H.size + 21) (old : ∀ q, q < H.size → q ≠ a → Hb[q]? = H[q]?) (ho : hO G Hb a 12 (vp_V [Value.ref H.size, Value.ref (H.size + 2), Value.null, Value.null, Value.null, Value.null, Value.null, Value.null, Value.null])) (by_ : hA G Hb (H.size + 1) 0 500 (.inl (fun _ => 0))) (rd2 : hO G Hb H.size 8 (vp_V [Value.ref (H.size + 1), Value.int 0, Value.int 0, Value.int 0, Value.int 0, Value.int 0, Value.int (-1)])) (rt0 : Rtr G Hb (H.size + 3)) (su2 : hO G Hb (H.size + 2) 11 (vp_V [Value.ref H.size, Value.ref (H.size + 3), Value.int 0])) (hk : ∀ H1 : Heap, H1.size = H.size + 39 → (∀ q, q < H.size → q ≠ a → H1[q]? = H[q]?) → (hO G H1 a 12 (vp_V [Value.ref H.size, Value.ref (H.size + 2), Value.null, Value.ref (H.size + 21), Value.null, Value.null, Value.null, Value.null, Value.null])) → (hA G H1 (H.size + 1) 0 500 (.inl (fun _ => 0))) → (hO G H1 H.size 8 (vp_V [Value.ref (H.size + 1), Value.int 0, Value.int 0, Value.int 0, Value.int 0, Value.int 0, Value.int (-1)])) → (Rtr G H1 (H.size + 3)) → (hO G H1 (H.size + 2) 11 (vp_V [Value.ref H.size, Value.ref (H.size + 3), Value.int 0])) → (Rtr G H1 (H.size + 21)) → hAt l G Y_X8_init (hEM G Y_X8_init 249 6686 K) 41 [(0, Value.ref a)] [] H1 39 1416) : hAt l G Y_X8_init (hEM G Y_X8_init 249 6686 K) 30 [(0, Value.ref a)] [] Hb 21 963 := by
  have hE : ∀ {mc ms : Nat} {K : hK}, zRm Y_X8_init (hEM G Y_X8_init mc ms K).1 := zRm_M
  refine H_aload_n dX8_init_30 rfl 0 rfl ?_
  refine H_new (ci := 9) (N := 16) (V := vp_V [Value.int 0, Value.int 0, Value.int 0, Value.int 0, Value.int 0, Value.int 0, Value.int 0, Value.int 0, Value.int 0, Value.int 0, Value.int 0, Value.int 0, Value.int 0, Value.null, Value.null, Value.null]) tyX5 rfl zws_X5 tyX5_ok zw_389 zw_191 zw_114 (fun j hj => by have h4 : j = 0 ∨ j = 1 ∨ j = 2 ∨ j = 3 ∨ j = 4 ∨ j = 5 ∨ j = 6 ∨ j = 7 ∨ j = 8 ∨ j = 9 ∨ j = 10 ∨ j = 11 ∨ j = 12 ∨ j = 13 ∨ j = 14 ∨ j = 15 := (by omega); rcases h4 with e | e | e | e | e | e | e | e | e | e | e | e | e | e | e | e <;> subst e <;> rfl) (by show 22 ≤ 249; omega) (by show 979 ≤ 6686; omega) dX8_init_31 (fun H7 z7 o7 r1 => ?_)
  rw [zb] at z7 o7 r1 ⊢
  have z7 : H7.size = H.size + 22 := by omega
  replace ho := ho.kept (o7 a (by omega))
  replace by_ := (o7 (H.size + 1) (by omega)).trans by_
  replace rd2 := rd2.kept (o7 H.size (by omega))
  replace rt0 := rt0.kept (fun q q1 q2 => o7 q (by omega))
  replace su2 := su2.kept (o7 (H.size + 2) (by omega))
  refine H_dup rfl dX8_init_34 ?_
  refine H_callI (as := []) (st := [Value.ref (H.size + 21), Value.ref a]) (mc' := 17) (ms' := 437) hE hci_X8_init_X5_init_27 rfl rfl (zle rfl) dX8_init_35 ⟨by show 39 ≤ 249; omega, by show 1416 ≤ 6686; omega⟩ (ct_X5 r1 (zfr_gt (by omega)) (by omega) (by omega)) (fun r8 H8 q8 => ?_)
  obtain ⟨rfl, z8, o8, rt1⟩ := q8
  simp only [z7, Nat.add_assoc, Nat.reduceAdd] at z8 o8 rt1
  have z8 : H8.size = H.size + 39 := by omega
  replace ho := ho.kept (o8 a (by omega) (by omega))
  replace by_ := (o8 (H.size + 1) (by omega) (by omega)).trans by_
  replace rd2 := rd2.kept (o8 H.size (by omega) (by omega))
  replace rt0 := rt0.kept (fun q q1 q2 => o8 q (by omega) (by omega))
  replace su2 := su2.kept (o8 (H.size + 2) (by omega) (by omega))
  refine H_putV (fs2 := [Value.ref H.size, Value.ref (H.size + 2), Value.null, Value.ref (H.size + 21), Value.null, Value.null, Value.null, Value.null, Value.null]) hfp_X8_X8_28 (fun _ => rfl) ho rfl (zle rfl) rfl rfl (by omega) dX8_init_38 (fun H9 z9 o9 hoN => ?_)
  have z9 : H9.size = H.size + 39 := by omega
  replace by_ := (o9 (H.size + 1) (by omega)).trans by_
  replace rd2 := rd2.kept (o9 H.size (by omega))
  replace rt0 := rt0.kept (fun q q1 q2 => o9 q (by omega))
  replace su2 := su2.kept (o9 (H.size + 2) (by omega))
  replace rt1 := rt1.kept (fun q q1 q2 => o9 q (by omega))
  have ho := hoN
  exact hk H9 (by omega) (fun q hq hqa => ((o9 q (by omega)).trans ((o8 q (by omega) (by omega)).trans (o7 q (by omega)))).trans (old q hq hqa)) ho by_ rd2 rt0 su2 rt1
theorem cs8_3 {K : hK} {a : Nat} (haz : zfr G a) (hz : gz G ≤ H.size ∧ ga G 50 0 < H.size ∧ ga G 51 0 < H.size) (hal : a < H.size) {Hb : Heap} (zb : Hb.size = H.size + 39) (old : ∀ q, q < H.size → q ≠ a → Hb[q]? = H[q]?) (ho : hO G Hb a 12 (vp_V [Value.ref H.size, Value.ref (H.size + 2), Value.null, Value.ref (H.size + 21), Value.null, Value.null, Value.null, Value.null, Value.null])) (by_ : hA G Hb (H.size + 1) 0 500 (.inl (fun _ => 0))) (rd2 : hO G Hb H.size 8 (vp_V [Value.ref (H.size + 1), Value.int 0, Value.int 0, Value.int 0, Value.int 0, Value.int 0, Value.int (-1)])) (rt0 : Rtr G Hb (H.size + 3)) (su2 : hO G Hb (H.size + 2) 11 (vp_V [Value.ref H.size, Value.ref (H.size + 3), Value.int 0])) (rt1 : Rtr G Hb (H.size + 21)) (hk : ∀ H1 : Heap, H1.size = H.size + 63 → (∀ q, q < H.size → q ≠ a → H1[q]? = H[q]?) → (hO G H1 a 12 (vp_V [Value.ref H.size, Value.ref (H.size + 2), Value.ref (H.size + 39), Value.ref (H.size + 21), Value.ref (H.size + 45), Value.null, Value.null, Value.null, Value.null])) → (hA G H1 (H.size + 1) 0 500 (.inl (fun _ => 0))) → (hO G H1 H.size 8 (vp_V [Value.ref (H.size + 1), Value.int 0, Value.int 0, Value.int 0, Value.int 0, Value.int 0, Value.int (-1)])) → (Rtr G H1 (H.size + 3)) → (hO G H1 (H.size + 2) 11 (vp_V [Value.ref H.size, Value.ref (H.size + 3), Value.int 0])) → (Rtr G H1 (H.size + 21)) → (hA G H1 (H.size + 40) 0 60 (.inl (fun _ => 0))) → (hA G H1 (H.size + 41) 0 60 (.inl (fun _ => 0))) → (hA G H1 (H.size + 42) 0 60 (.inl (fun _ => 0))) → (hA G H1 (H.size + 43) 0 60 (.inl (fun _ => 0))) → (hA G H1 (H.size + 44) 0 2 (.inl (fun _ => 0))) → (hO G H1 (H.size + 39) 10 (vp_V [Value.ref H.size, Value.ref (H.size + 21), Value.ref (H.size + 40), Value.ref (H.size + 41), Value.ref (H.size + 42), Value.ref (H.size + 43), Value.ref (H.size + 44), Value.int 0, Value.int 0, Value.int 0])) → (Rtr G H1 (H.size + 45)) → hAt l G Y_X8_init (hEM G Y_X8_init 249 6686 K) 71 [(0, Value.ref a)] [] H1 63 2121) : hAt l G Y_X8_init (hEM G Y_X8_init 249 6686 K) 41 [(0, Value.ref a)] [] Hb 39 1416 := by
  have hE : ∀ {mc ms : Nat} {K : hK}, zRm Y_X8_init (hEM G Y_X8_init mc ms K).1 := zRm_M
  refine H_aload_n dX8_init_41 rfl 0 rfl ?_
  refine H_new (ci := 10) (N := 10) (V := vp_V [Value.null, Value.null, Value.null, Value.null, Value.null, Value.null, Value.null, Value.int 0, Value.int 0, Value.int 0]) tyX6 rfl zws_X6 tyX6_ok zw_391 zw_392 zw_118 (fun j hj => by have h4 : j = 0 ∨ j = 1 ∨ j = 2 ∨ j = 3 ∨ j = 4 ∨ j = 5 ∨ j = 6 ∨ j = 7 ∨ j = 8 ∨ j = 9 := (by omega); rcases h4 with e | e | e | e | e | e | e | e | e | e <;> subst e <;> rfl) (by show 40 ≤ 249; omega) (by show 1426 ≤ 6686; omega) dX8_init_42 (fun H10 z10 o10 sc => ?_)
  rw [zb] at z10 o10 sc ⊢
  have z10 : H10.size = H.size + 40 := by omega
  replace ho := ho.kept (o10 a (by omega))
  replace by_ := (o10 (H.size + 1) (by omega)).trans by_
  replace rd2 := rd2.kept (o10 H.size (by omega))
  replace rt0 := rt0.kept (fun q q1 q2 => o10 q (by omega))
  replace su2 := su2.kept (o10 (H.size + 2) (by omega))
  replace rt1 := rt1.kept (fun q q1 q2 => o10 q (by omega))
  refine H_dup rfl dX8_init_45 ?_
  refine H_aload_n dX8_init_46 rfl 0 rfl ?_
  refine H_getV hfl_X8_X8_10 ho rfl dX8_init_47 ?_
  refine H_aload_n dX8_init_50 rfl 0 rfl ?_
  refine H_getV hfl_X8_X8_28 ho rfl dX8_init_51 ?_
  refine H_callI (as := [Value.ref H.size, Value.ref (H.size + 21)]) (st := [Value.ref (H.size + 39), Value.ref a]) (mc' := 5) (ms' := 242) hE hci_X8_init_X6_init_34 rfl rfl (zle rfl) dX8_init_54 ⟨by show 45 ≤ 249; omega, by show 1668 ≤ 6686; omega⟩ (ct_X6 sc (zfr_gt (by omega)) (by omega)) (fun r11 H11 q11 => ?_)
  obtain ⟨rfl, z11, o11, s1, s2, s3, s4, s5, sc2⟩ := q11
  simp only [z10, Nat.add_assoc, Nat.reduceAdd] at z11 o11 s1 s2 s3 s4 s5 sc2
  have z11 : H11.size = H.size + 45 := by omega
  replace ho := ho.kept (o11 a (by omega) (by omega))
  replace by_ := (o11 (H.size + 1) (by omega) (by omega)).trans by_
  replace rd2 := rd2.kept (o11 H.size (by omega) (by omega))
  replace rt0 := rt0.kept (fun q q1 q2 => o11 q (by omega) (by omega))
  replace su2 := su2.kept (o11 (H.size + 2) (by omega) (by omega))
  replace rt1 := rt1.kept (fun q q1 q2 => o11 q (by omega) (by omega))
  refine H_putV (fs2 := [Value.ref H.size, Value.ref (H.size + 2), Value.ref (H.size + 39), Value.ref (H.size + 21), Value.null, Value.null, Value.null, Value.null, Value.null]) hfp_X8_X8_37 (fun _ => rfl) ho rfl (zle rfl) rfl rfl (by omega) dX8_init_57 (fun H12 z12 o12 hoN => ?_)
  have z12 : H12.size = H.size + 45 := by omega
  replace by_ := (o12 (H.size + 1) (by omega)).trans by_
  replace rd2 := rd2.kept (o12 H.size (by omega))
  replace rt0 := rt0.kept (fun q q1 q2 => o12 q (by omega))
  replace su2 := su2.kept (o12 (H.size + 2) (by omega))
  replace rt1 := rt1.kept (fun q q1 q2 => o12 q (by omega))
  replace s1 := (o12 (H.size + 40) (by omega)).trans s1
  replace s2 := (o12 (H.size + 41) (by omega)).trans s2
  replace s3 := (o12 (H.size + 42) (by omega)).trans s3
  replace s4 := (o12 (H.size + 43) (by omega)).trans s4
  replace s5 := (o12 (H.size + 44) (by omega)).trans s5
  replace sc2 := sc2.kept (o12 (H.size + 39) (by omega))
  have ho := hoN
  refine H_aload_n dX8_init_60 rfl 0 rfl ?_
  refine H_new (ci := 9) (N := 16) (V := vp_V [Value.int 0, Value.int 0, Value.int 0, Value.int 0, Value.int 0, Value.int 0, Value.int 0, Value.int 0, Value.int 0, Value.int 0, Value.int 0, Value.int 0, Value.int 0, Value.null, Value.null, Value.null]) tyX5 rfl zws_X5 tyX5_ok zw_389 zw_191 zw_114 (fun j hj => by have h4 : j = 0 ∨ j = 1 ∨ j = 2 ∨ j = 3 ∨ j = 4 ∨ j = 5 ∨ j = 6 ∨ j = 7 ∨ j = 8 ∨ j = 9 ∨ j = 10 ∨ j = 11 ∨ j = 12 ∨ j = 13 ∨ j = 14 ∨ j = 15 := (by omega); rcases h4 with e | e | e | e | e | e | e | e | e | e | e | e | e | e | e | e <;> subst e <;> rfl) (by show 46 ≤ 249; omega) (by show 1684 ≤ 6686; omega) dX8_init_61 (fun H13 z13 o13 r2 => ?_)
  rw [z12] at z13 o13 r2 ⊢
  have z13 : H13.size = H.size + 46 := by omega
  replace ho := ho.kept (o13 a (by omega))
  replace by_ := (o13 (H.size + 1) (by omega)).trans by_
  replace rd2 := rd2.kept (o13 H.size (by omega))
  replace rt0 := rt0.kept (fun q q1 q2 => o13 q (by omega))
  replace su2 := su2.kept (o13 (H.size + 2) (by omega))
  replace rt1 := rt1.kept (fun q q1 q2 => o13 q (by omega))
  replace s1 := (o13 (H.size + 40) (by omega)).trans s1
  replace s2 := (o13 (H.size + 41) (by omega)).trans s2
  replace s3 := (o13 (H.size + 42) (by omega)).trans s3
  replace s4 := (o13 (H.size + 43) (by omega)).trans s4
  replace s5 := (o13 (H.size + 44) (by omega)).trans s5
  replace sc2 := sc2.kept (o13 (H.size + 39) (by omega))
  refine H_dup rfl dX8_init_64 ?_
  refine H_callI (as := []) (st := [Value.ref (H.size + 45), Value.ref a]) (mc' := 17) (ms' := 437) hE hci_X8_init_X5_init_27 rfl rfl (zle rfl) dX8_init_65 ⟨by show 63 ≤ 249; omega, by show 2121 ≤ 6686; omega⟩ (ct_X5 r2 (zfr_gt (by omega)) (by omega) (by omega)) (fun r14 H14 q14 => ?_)
  obtain ⟨rfl, z14, o14, rt2⟩ := q14
  simp only [z13, Nat.add_assoc, Nat.reduceAdd] at z14 o14 rt2
  have z14 : H14.size = H.size + 63 := by omega
  replace ho := ho.kept (o14 a (by omega) (by omega))
  replace by_ := (o14 (H.size + 1) (by omega) (by omega)).trans by_
  replace rd2 := rd2.kept (o14 H.size (by omega) (by omega))
  replace rt0 := rt0.kept (fun q q1 q2 => o14 q (by omega) (by omega))
  replace su2 := su2.kept (o14 (H.size + 2) (by omega) (by omega))
  replace rt1 := rt1.kept (fun q q1 q2 => o14 q (by omega) (by omega))
  replace s1 := (o14 (H.size + 40) (by omega) (by omega)).trans s1
  replace s2 := (o14 (H.size + 41) (by omega) (by omega)).trans s2
  replace s3 := (o14 (H.size + 42) (by omega) (by omega)).trans s3
  replace s4 := (o14 (H.size + 43) (by omega) (by omega)).trans s4
  replace s5 := (o14 (H.size + 44) (by omega) (by omega)).trans s5
  replace sc2 := sc2.kept (o14 (H.size + 39) (by omega) (by omega))
  refine H_putV (fs2 := [Value.ref H.size, Value.ref (H.size + 2), Value.ref (H.size + 39), Value.ref (H.size + 21), Value.ref (H.size + 45), Value.null, Value.null, Value.null, Value.null]) hfp_X8_X8_41 (fun _ => rfl) ho rfl (zle rfl) rfl rfl (by omega) dX8_init_68 (fun H15 z15 o15 hoN => ?_)
  have z15 : H15.size = H.size + 63 := by omega
  replace by_ := (o15 (H.size + 1) (by omega)).trans by_
  replace rd2 := rd2.kept (o15 H.size (by omega))
  replace rt0 := rt0.kept (fun q q1 q2 => o15 q (by omega))
  replace su2 := su2.kept (o15 (H.size + 2) (by omega))
  replace rt1 := rt1.kept (fun q q1 q2 => o15 q (by omega))
  replace s1 := (o15 (H.size + 40) (by omega)).trans s1
  replace s2 := (o15 (H.size + 41) (by omega)).trans s2
  replace s3 := (o15 (H.size + 42) (by omega)).trans s3
  replace s4 := (o15 (H.size + 43) (by omega)).trans s4
  replace s5 := (o15 (H.size + 44) (by omega)).trans s5
  replace sc2 := sc2.kept (o15 (H.size + 39) (by omega))
  replace rt2 := rt2.kept (fun q q1 q2 => o15 q (by omega))
  have ho := hoN
  exact hk H15 (by omega) (fun q hq hqa => ((o15 q (by omega)).trans ((o14 q (by omega) (by omega)).trans ((o13 q (by omega)).trans ((o12 q (by omega)).trans ((o11 q (by omega) (by omega)).trans (o10 q (by omega))))))).trans (old q hq hqa)) ho by_ rd2 rt0 su2 rt1 s1 s2 s3 s4 s5 sc2 rt2
theorem cs8_4 {K : hK} {a : Nat} (haz : zfr G a) (hz : gz G ≤ H.size ∧ ga G 50 0 < H.size ∧ ga G 51 0 < H.size) (hal : a < H.size) {Hb : Heap} (zb : Hb.size = H.size + 63) (old : ∀ q, q < H.size → q ≠ a → Hb[q]? = H[q]?) (ho : hO G Hb a 12 (vp_V [Value.ref H.size, Value.ref (H.size + 2), Value.ref (H.size + 39), Value.ref (H.size + 21), Value.ref (H.size + 45), Value.null, Value.null, Value.null, Value.null])) (by_ : hA G Hb (H.size + 1) 0 500 (.inl (fun _ => 0))) (rd2 : hO G Hb H.size 8 (vp_V [Value.ref (H.size + 1), Value.int 0, Value.int 0, Value.int 0, Value.int 0, Value.int 0, Value.int (-1)])) (rt0 : Rtr G Hb (H.size + 3)) (su2 : hO G Hb (H.size + 2) 11 (vp_V [Value.ref H.size, Value.ref (H.size + 3), Value.int 0])) (rt1 : Rtr G Hb (H.size + 21)) (s1 : hA G Hb (H.size + 40) 0 60 (.inl (fun _ => 0))) (s2 : hA G Hb (H.size + 41) 0 60 (.inl (fun _ => 0))) (s3 : hA G Hb (H.size + 42) 0 60 (.inl (fun _ => 0))) (s4 : hA G Hb (H.size + 43) 0 60 (.inl (fun _ => 0))) (s5 : hA G Hb (H.size + 44) 0 2 (.inl (fun _ => 0))) (sc2 : hO G Hb (H.size + 39) 10 (vp_V [Value.ref H.size, Value.ref (H.size + 21), Value.ref (H.size + 40), Value.ref (H.size + 41), Value.ref (H.size + 42), Value.ref (H.size + 43), Value.ref (H.size + 44), Value.int 0, Value.int 0, Value.int 0])) (rt2 : Rtr G Hb (H.size + 45)) (hk : ∀ H1 : Heap, H1.size = H.size + 209 → (∀ q, q < H.size → q ≠ a → H1[q]? = H[q]?) → (hO G H1 a 12 (vp_V [Value.ref H.size, Value.ref (H.size + 2), Value.ref (H.size + 39), Value.ref (H.size + 21), Value.ref (H.size + 45), Value.ref (H.size + 63), Value.null, Value.null, Value.null])) → (hA G H1 (H.size + 1) 0 500 (.inl (fun _ => 0))) → (hO G H1 H.size 8 (vp_V [Value.ref (H.size + 1), Value.int 0, Value.int 0, Value.int 0, Value.int 0, Value.int 0, Value.int (-1)])) → (Rtr G H1 (H.size + 3)) → (hO G H1 (H.size + 2) 11 (vp_V [Value.ref H.size, Value.ref (H.size + 3), Value.int 0])) → (Rtr G H1 (H.size + 21)) → (hA G H1 (H.size + 40) 0 60 (.inl (fun _ => 0))) → (hA G H1 (H.size + 41) 0 60 (.inl (fun _ => 0))) → (hA G H1 (H.size + 42) 0 60 (.inl (fun _ => 0))) → (hA G H1 (H.size + 43) 0 60 (.inl (fun _ => 0))) → (hA G H1 (H.size + 44) 0 2 (.inl (fun _ => 0))) → (hO G H1 (H.size + 39) 10 (vp_V [Value.ref H.size, Value.ref (H.size + 21), Value.ref (H.size + 40), Value.ref (H.size + 41), Value.ref (H.size + 42), Value.ref (H.size + 43), Value.ref (H.size + 44), Value.int 0, Value.int 0, Value.int 0])) → (Rtr G H1 (H.size + 45)) → (hA G H1 (H.size + 64) 7 8 (refs (fun j => some (H.size + 65 + 18 * j)))) → (hO G H1 (H.size + 63) 6 (vp_V [Value.ref (H.size + 64), Value.int 0, Value.int 0])) → (∀ j, j < 8 → Rtr G H1 (H.size + (65 + 18 * j))) → hAt l G Y_X8_init (hEM G Y_X8_init 249 6686 K) 82 [(0, Value.ref a)] [] H1 209 5756) : hAt l G Y_X8_init (hEM G Y_X8_init 249 6686 K) 71 [(0, Value.ref a)] [] Hb 63 2121 := by
  have hE : ∀ {mc ms : Nat} {K : hK}, zRm Y_X8_init (hEM G Y_X8_init mc ms K).1 := zRm_M
  refine H_aload_n dX8_init_71 rfl 0 rfl ?_
  refine H_new (ci := 6) (N := 3) (V := vp_V [Value.null, Value.int 0, Value.int 0]) tyX2 rfl zws_X2 tyX2_ok zw_428 zw_429 zw_119 (fun j hj => by have h4 : j = 0 ∨ j = 1 ∨ j = 2 := (by omega); rcases h4 with e | e | e <;> subst e <;> rfl) (by show 64 ≤ 249; omega) (by show 2124 ≤ 6686; omega) dX8_init_72 (fun H16 z16 o16 pa => ?_)
  rw [zb] at z16 o16 pa ⊢
  have z16 : H16.size = H.size + 64 := by omega
  replace ho := ho.kept (o16 a (by omega))
  replace by_ := (o16 (H.size + 1) (by omega)).trans by_
  replace rd2 := rd2.kept (o16 H.size (by omega))
  replace rt0 := rt0.kept (fun q q1 q2 => o16 q (by omega))
  replace su2 := su2.kept (o16 (H.size + 2) (by omega))
  replace rt1 := rt1.kept (fun q q1 q2 => o16 q (by omega))
  replace s1 := (o16 (H.size + 40) (by omega)).trans s1
  replace s2 := (o16 (H.size + 41) (by omega)).trans s2
  replace s3 := (o16 (H.size + 42) (by omega)).trans s3
  replace s4 := (o16 (H.size + 43) (by omega)).trans s4
  replace s5 := (o16 (H.size + 44) (by omega)).trans s5
  replace sc2 := sc2.kept (o16 (H.size + 39) (by omega))
  replace rt2 := rt2.kept (fun q q1 q2 => o16 q (by omega))
  refine H_dup rfl dX8_init_75 ?_
  refine H_callI (as := []) (st := [Value.ref (H.size + 63), Value.ref a]) (mc' := 145) (ms' := 3632) hE hci_X8_init_X2_init_46 rfl rfl (zle rfl) dX8_init_76 ⟨by show 209 ≤ 249; omega, by show 5756 ≤ 6686; omega⟩ (ct_X2 pa (zfr_gt (by omega)) (by omega)) (fun r17 H17 q17 => ?_)
  obtain ⟨rfl, z17, o17, pl, pa2, prt⟩ := q17
  simp only [z16, Nat.add_assoc, Nat.reduceAdd] at z17 o17 pl pa2 prt
  have z17 : H17.size = H.size + 209 := by omega
  replace ho := ho.kept (o17 a (by omega) (by omega))
  replace by_ := (o17 (H.size + 1) (by omega) (by omega)).trans by_
  replace rd2 := rd2.kept (o17 H.size (by omega) (by omega))
  replace rt0 := rt0.kept (fun q q1 q2 => o17 q (by omega) (by omega))
  replace su2 := su2.kept (o17 (H.size + 2) (by omega) (by omega))
  replace rt1 := rt1.kept (fun q q1 q2 => o17 q (by omega) (by omega))
  replace s1 := (o17 (H.size + 40) (by omega) (by omega)).trans s1
  replace s2 := (o17 (H.size + 41) (by omega) (by omega)).trans s2
  replace s3 := (o17 (H.size + 42) (by omega) (by omega)).trans s3
  replace s4 := (o17 (H.size + 43) (by omega) (by omega)).trans s4
  replace s5 := (o17 (H.size + 44) (by omega) (by omega)).trans s5
  replace sc2 := sc2.kept (o17 (H.size + 39) (by omega) (by omega))
  replace rt2 := rt2.kept (fun q q1 q2 => o17 q (by omega) (by omega))
  refine H_putV (fs2 := [Value.ref H.size, Value.ref (H.size + 2), Value.ref (H.size + 39), Value.ref (H.size + 21), Value.ref (H.size + 45), Value.ref (H.size + 63), Value.null, Value.null, Value.null]) hfp_X8_X8_47 (fun _ => rfl) ho rfl (zle rfl) rfl rfl (by omega) dX8_init_79 (fun H18 z18 o18 hoN => ?_)
  have z18 : H18.size = H.size + 209 := by omega
  replace by_ := (o18 (H.size + 1) (by omega)).trans by_
  replace rd2 := rd2.kept (o18 H.size (by omega))
  replace rt0 := rt0.kept (fun q q1 q2 => o18 q (by omega))
  replace su2 := su2.kept (o18 (H.size + 2) (by omega))
  replace rt1 := rt1.kept (fun q q1 q2 => o18 q (by omega))
  replace s1 := (o18 (H.size + 40) (by omega)).trans s1
  replace s2 := (o18 (H.size + 41) (by omega)).trans s2
  replace s3 := (o18 (H.size + 42) (by omega)).trans s3
  replace s4 := (o18 (H.size + 43) (by omega)).trans s4
  replace s5 := (o18 (H.size + 44) (by omega)).trans s5
  replace sc2 := sc2.kept (o18 (H.size + 39) (by omega))
  replace rt2 := rt2.kept (fun q q1 q2 => o18 q (by omega))
  replace pl := (o18 (H.size + 64) (by omega)).trans pl
  replace pa2 := pa2.kept (o18 (H.size + 63) (by omega))
  replace prt := fun j hj => (prt j hj).kept (fun q q1 q2 => o18 q (by omega))
  have ho := hoN
  exact hk H18 (by omega) (fun q hq hqa => ((o18 q (by omega)).trans ((o17 q (by omega) (by omega)).trans (o16 q (by omega)))).trans (old q hq hqa)) ho by_ rd2 rt0 su2 rt1 s1 s2 s3 s4 s5 sc2 rt2 pl pa2 prt
theorem cs8_5 {K : hK} {a : Nat} (haz : zfr G a) (hz : gz G ≤ H.size ∧ ga G 50 0 < H.size ∧ ga G 51 0 < H.size) (hal : a < H.size) {Hb : Heap} (zb : Hb.size = H.size + 209) (old : ∀ q, q < H.size → q ≠ a → Hb[q]? = H[q]?) (ho : hO G Hb a 12 (vp_V [Value.ref H.size, Value.ref (H.size + 2), Value.ref (H.size + 39), Value.ref (H.size + 21), Value.ref (H.size + 45), Value.ref (H.size + 63), Value.null, Value.null, Value.null])) (by_ : hA G Hb (H.size + 1) 0 500 (.inl (fun _ => 0))) (rd2 : hO G Hb H.size 8 (vp_V [Value.ref (H.size + 1), Value.int 0, Value.int 0, Value.int 0, Value.int 0, Value.int 0, Value.int (-1)])) (rt0 : Rtr G Hb (H.size + 3)) (su2 : hO G Hb (H.size + 2) 11 (vp_V [Value.ref H.size, Value.ref (H.size + 3), Value.int 0])) (rt1 : Rtr G Hb (H.size + 21)) (s1 : hA G Hb (H.size + 40) 0 60 (.inl (fun _ => 0))) (s2 : hA G Hb (H.size + 41) 0 60 (.inl (fun _ => 0))) (s3 : hA G Hb (H.size + 42) 0 60 (.inl (fun _ => 0))) (s4 : hA G Hb (H.size + 43) 0 60 (.inl (fun _ => 0))) (s5 : hA G Hb (H.size + 44) 0 2 (.inl (fun _ => 0))) (sc2 : hO G Hb (H.size + 39) 10 (vp_V [Value.ref H.size, Value.ref (H.size + 21), Value.ref (H.size + 40), Value.ref (H.size + 41), Value.ref (H.size + 42), Value.ref (H.size + 43), Value.ref (H.size + 44), Value.int 0, Value.int 0, Value.int 0])) (rt2 : Rtr G Hb (H.size + 45)) (pl : hA G Hb (H.size + 64) 7 8 (refs (fun j => some (H.size + 65 + 18 * j)))) (pa2 : hO G Hb (H.size + 63) 6 (vp_V [Value.ref (H.size + 64), Value.int 0, Value.int 0])) (prt : ∀ j, j < 8 → Rtr G Hb (H.size + (65 + 18 * j))) (hk : ∀ H1 : Heap, H1.size = H.size + 210 → (∀ q, q < H.size → q ≠ a → H1[q]? = H[q]?) → (hO G H1 a 12 (vp_V [Value.ref H.size, Value.ref (H.size + 2), Value.ref (H.size + 39), Value.ref (H.size + 21), Value.ref (H.size + 45), Value.ref (H.size + 63), Value.ref (H.size + 209), Value.null, Value.null])) → (hA G H1 (H.size + 1) 0 500 (.inl (fun _ => 0))) → (hO G H1 H.size 8 (vp_V [Value.ref (H.size + 1), Value.int 0, Value.int 0, Value.int 0, Value.int 0, Value.int 0, Value.int (-1)])) → (Rtr G H1 (H.size + 3)) → (hO G H1 (H.size + 2) 11 (vp_V [Value.ref H.size, Value.ref (H.size + 3), Value.int 0])) → (Rtr G H1 (H.size + 21)) → (hA G H1 (H.size + 40) 0 60 (.inl (fun _ => 0))) → (hA G H1 (H.size + 41) 0 60 (.inl (fun _ => 0))) → (hA G H1 (H.size + 42) 0 60 (.inl (fun _ => 0))) → (hA G H1 (H.size + 43) 0 60 (.inl (fun _ => 0))) → (hA G H1 (H.size + 44) 0 2 (.inl (fun _ => 0))) → (hO G H1 (H.size + 39) 10 (vp_V [Value.ref H.size, Value.ref (H.size + 21), Value.ref (H.size + 40), Value.ref (H.size + 41), Value.ref (H.size + 42), Value.ref (H.size + 43), Value.ref (H.size + 44), Value.int 0, Value.int 0, Value.int 0])) → (Rtr G H1 (H.size + 45)) → (hA G H1 (H.size + 64) 7 8 (refs (fun j => some (H.size + 65 + 18 * j)))) → (hO G H1 (H.size + 63) 6 (vp_V [Value.ref (H.size + 64), Value.int 0, Value.int 0])) → (∀ j, j < 8 → Rtr G H1 (H.size + (65 + 18 * j))) → (hA G H1 (H.size + 209) 7 2 (.inr (.inr (.inr (.inr (fun _ => none)))))) → hAt l G Y_X8_init (hEM G Y_X8_init 249 6686 K) 90 [(0, Value.ref a)] [] H1 210 5758) : hAt l G Y_X8_init (hEM G Y_X8_init 249 6686 K) 82 [(0, Value.ref a)] [] Hb 209 5756 := by
  have hE : ∀ {mc ms : Nat} {K : hK}, zRm Y_X8_init (hEM G Y_X8_init mc ms K).1 := zRm_M
  refine H_aload_n dX8_init_82 rfl 0 rfl ?_
  refine H_iconst (v := 2) rfl dX8_init_83 ?_
  refine H_anewa (t := 7) (n := 2) (by decide) rfl zw_389 (fun U h => h.2.2.2.1.2.1) rfl (by decide) (by show 210 ≤ 249; omega) (by show 5758 ≤ 6686; omega) dX8_init_84 (fun H19 z19 o19 sv => ?_)
  rw [zb] at z19 o19 sv ⊢
  have z19 : H19.size = H.size + 210 := by omega
  replace ho := ho.kept (o19 a (by omega))
  replace by_ := (o19 (H.size + 1) (by omega)).trans by_
  replace rd2 := rd2.kept (o19 H.size (by omega))
  replace rt0 := rt0.kept (fun q q1 q2 => o19 q (by omega))
  replace su2 := su2.kept (o19 (H.size + 2) (by omega))
  replace rt1 := rt1.kept (fun q q1 q2 => o19 q (by omega))
  replace s1 := (o19 (H.size + 40) (by omega)).trans s1
  replace s2 := (o19 (H.size + 41) (by omega)).trans s2
  replace s3 := (o19 (H.size + 42) (by omega)).trans s3
  replace s4 := (o19 (H.size + 43) (by omega)).trans s4
  replace s5 := (o19 (H.size + 44) (by omega)).trans s5
  replace sc2 := sc2.kept (o19 (H.size + 39) (by omega))
  replace rt2 := rt2.kept (fun q q1 q2 => o19 q (by omega))
  replace pl := (o19 (H.size + 64) (by omega)).trans pl
  replace pa2 := pa2.kept (o19 (H.size + 63) (by omega))
  replace prt := fun j hj => (prt j hj).kept (fun q q1 q2 => o19 q (by omega))
  refine H_putV (fs2 := [Value.ref H.size, Value.ref (H.size + 2), Value.ref (H.size + 39), Value.ref (H.size + 21), Value.ref (H.size + 45), Value.ref (H.size + 63), Value.ref (H.size + 209), Value.null, Value.null]) hfp_X8_X8_51 (fun _ => rfl) ho rfl (zle rfl) rfl rfl (by omega) dX8_init_87 (fun H20 z20 o20 hoN => ?_)
  have z20 : H20.size = H.size + 210 := by omega
  replace by_ := (o20 (H.size + 1) (by omega)).trans by_
  replace rd2 := rd2.kept (o20 H.size (by omega))
  replace rt0 := rt0.kept (fun q q1 q2 => o20 q (by omega))
  replace su2 := su2.kept (o20 (H.size + 2) (by omega))
  replace rt1 := rt1.kept (fun q q1 q2 => o20 q (by omega))
  replace s1 := (o20 (H.size + 40) (by omega)).trans s1
  replace s2 := (o20 (H.size + 41) (by omega)).trans s2
  replace s3 := (o20 (H.size + 42) (by omega)).trans s3
  replace s4 := (o20 (H.size + 43) (by omega)).trans s4
  replace s5 := (o20 (H.size + 44) (by omega)).trans s5
  replace sc2 := sc2.kept (o20 (H.size + 39) (by omega))
  replace rt2 := rt2.kept (fun q q1 q2 => o20 q (by omega))
  replace pl := (o20 (H.size + 64) (by omega)).trans pl
  replace pa2 := pa2.kept (o20 (H.size + 63) (by omega))
  replace prt := fun j hj => (prt j hj).kept (fun q q1 q2 => o20 q (by omega))
  replace sv := (o20 (H.size + 209) (by omega)).trans sv
  have ho := hoN
  exact hk H20 (by omega) (fun q hq hqa => ((o20 q (by omega)).trans (o19 q (by omega))).trans (old q hq hqa)) ho by_ rd2 rt0 su2 rt1 s1 s2 s3 s4 s5 sc2 rt2 pl pa2 prt sv
theorem cs8_6 {K : hK} {a : Nat} (haz : zfr G a) (hz : gz G ≤ H.size ∧ ga G 50 0 < H.size ∧ ga G 51 0 < H.size) (hal : a < H.size) {Hb : Heap} (zb : Hb.size = H.size + 210) (old : ∀ q, q < H.size → q ≠ a → Hb[q]? = H[q]?) (ho : hO G Hb a 12 (vp_V [Value.ref H.size, Value.ref (H.size + 2), Value.ref (H.size + 39), Value.ref (H.size + 21), Value.ref (H.size + 45), Value.ref (H.size + 63), Value.ref (H.size + 209), Value.null, Value.null])) (by_ : hA G Hb (H.size + 1) 0 500 (.inl (fun _ => 0))) (rd2 : hO G Hb H.size 8 (vp_V [Value.ref (H.size + 1), Value.int 0, Value.int 0, Value.int 0, Value.int 0, Value.int 0, Value.int (-1)])) (rt0 : Rtr G Hb (H.size + 3)) (su2 : hO G Hb (H.size + 2) 11 (vp_V [Value.ref H.size, Value.ref (H.size + 3), Value.int 0])) (rt1 : Rtr G Hb (H.size + 21)) (s1 : hA G Hb (H.size + 40) 0 60 (.inl (fun _ => 0))) (s2 : hA G Hb (H.size + 41) 0 60 (.inl (fun _ => 0))) (s3 : hA G Hb (H.size + 42) 0 60 (.inl (fun _ => 0))) (s4 : hA G Hb (H.size + 43) 0 60 (.inl (fun _ => 0))) (s5 : hA G Hb (H.size + 44) 0 2 (.inl (fun _ => 0))) (sc2 : hO G Hb (H.size + 39) 10 (vp_V [Value.ref H.size, Value.ref (H.size + 21), Value.ref (H.size + 40), Value.ref (H.size + 41), Value.ref (H.size + 42), Value.ref (H.size + 43), Value.ref (H.size + 44), Value.int 0, Value.int 0, Value.int 0])) (rt2 : Rtr G Hb (H.size + 45)) (pl : hA G Hb (H.size + 64) 7 8 (refs (fun j => some (H.size + 65 + 18 * j)))) (pa2 : hO G Hb (H.size + 63) 6 (vp_V [Value.ref (H.size + 64), Value.int 0, Value.int 0])) (prt : ∀ j, j < 8 → Rtr G Hb (H.size + (65 + 18 * j))) (sv : hA G Hb (H.size + 209) 7 2 (.inr (.inr (.inr (.inr (fun _ => none)))))) (hk : ∀ H1 : Heap, H1.size = H.size + 228 → (∀ q, q < H.size → q ≠ a → H1[q]? = H[q]?) → (hO G H1 a 12 (vp_V [Value.ref H.size, Value.ref (H.size + 2), Value.ref (H.size + 39), Value.ref (H.size + 21), Value.ref (H.size + 45), Value.ref (H.size + 63), Value.ref (H.size + 209), Value.null, Value.null])) → (hA G H1 (H.size + 1) 0 500 (.inl (fun _ => 0))) → (hO G H1 H.size 8 (vp_V [Value.ref (H.size + 1), Value.int 0, Value.int 0, Value.int 0, Value.int 0, Value.int 0, Value.int (-1)])) → (Rtr G H1 (H.size + 3)) → (hO G H1 (H.size + 2) 11 (vp_V [Value.ref H.size, Value.ref (H.size + 3), Value.int 0])) → (Rtr G H1 (H.size + 21)) → (hA G H1 (H.size + 40) 0 60 (.inl (fun _ => 0))) → (hA G H1 (H.size + 41) 0 60 (.inl (fun _ => 0))) → (hA G H1 (H.size + 42) 0 60 (.inl (fun _ => 0))) → (hA G H1 (H.size + 43) 0 60 (.inl (fun _ => 0))) → (hA G H1 (H.size + 44) 0 2 (.inl (fun _ => 0))) → (hO G H1 (H.size + 39) 10 (vp_V [Value.ref H.size, Value.ref (H.size + 21), Value.ref (H.size + 40), Value.ref (H.size + 41), Value.ref (H.size + 42), Value.ref (H.size + 43), Value.ref (H.size + 44), Value.int 0, Value.int 0, Value.int 0])) → (Rtr G H1 (H.size + 45)) → (hA G H1 (H.size + 64) 7 8 (refs (fun j => some (H.size + 65 + 18 * j)))) → (hO G H1 (H.size + 63) 6 (vp_V [Value.ref (H.size + 64), Value.int 0, Value.int 0])) → (∀ j, j < 8 → Rtr G H1 (H.size + (65 + 18 * j))) → (Rtr G H1 (H.size + 210)) → (hA G H1 (H.size + 209) 7 2 (.inr (.inr (.inr (.inr (fun j => if j = (0 : Int32).toNatClampNeg then some (H.size + 210) else none)))))) → hAt l G Y_X8_init (hEM G Y_X8_init 249 6686 K) 92 [(1, Value.int (0 + 1)), (0, Value.ref a)] [] H1 228 6211) : hAt l G Y_X8_init (hEM G Y_X8_init 249 6686 K) 90 [(0, Value.ref a)] [] Hb 210 5758 := by
  have hE : ∀ {mc ms : Nat} {K : hK}, zRm Y_X8_init (hEM G Y_X8_init mc ms K).1 := zRm_M
  refine H_iconst (v := 0) rfl dX8_init_90 ?_
  refine H_istore_n (lv2 := [(1, Value.int 0), (0, Value.ref a)]) dX8_init_91 rfl (by decide) rfl ?_
  refine H_iload_n dX8_init_92 rfl 0 rfl ?_
  refine H_aload_n dX8_init_93 rfl 1 rfl ?_
  refine H_getV hfl_X8_X8_51 ho rfl dX8_init_94 ?_
  refine H_alenR sv (by decide) dX8_init_97 ?_
  refine H_icmp_ge (tgt := 120) dX8_init_98 rfl (fun q9 => absurd q9 (by decide)) (fun _ => ?_)
  refine H_aload_n dX8_init_101 rfl 1 rfl ?_
  refine H_getV hfl_X8_X8_51 ho rfl dX8_init_102 ?_
  refine H_iload_n dX8_init_105 rfl 0 rfl ?_
  refine H_new (ci := 9) (N := 16) (V := vp_V [Value.int 0, Value.int 0, Value.int 0, Value.int 0, Value.int 0, Value.int 0, Value.int 0, Value.int 0, Value.int 0, Value.int 0, Value.int 0, Value.int 0, Value.int 0, Value.null, Value.null, Value.null]) tyX5 rfl zws_X5 tyX5_ok zw_389 zw_191 zw_114 (fun j hj => by have h4 : j = 0 ∨ j = 1 ∨ j = 2 ∨ j = 3 ∨ j = 4 ∨ j = 5 ∨ j = 6 ∨ j = 7 ∨ j = 8 ∨ j = 9 ∨ j = 10 ∨ j = 11 ∨ j = 12 ∨ j = 13 ∨ j = 14 ∨ j = 15 := (by omega); rcases h4 with e | e | e | e | e | e | e | e | e | e | e | e | e | e | e | e <;> subst e <;> rfl) (by show 211 ≤ 249; omega) (by show 5774 ≤ 6686; omega) dX8_init_106 (fun H21 z21 o21 q0 => ?_)
  rw [zb] at z21 o21 q0 ⊢
  have z21 : H21.size = H.size + 211 := by omega
  replace ho := ho.kept (o21 a (by omega))
  replace by_ := (o21 (H.size + 1) (by omega)).trans by_
  replace rd2 := rd2.kept (o21 H.size (by omega))
  replace rt0 := rt0.kept (fun q q1 q2 => o21 q (by omega))
  replace su2 := su2.kept (o21 (H.size + 2) (by omega))
  replace rt1 := rt1.kept (fun q q1 q2 => o21 q (by omega))
  replace s1 := (o21 (H.size + 40) (by omega)).trans s1
  replace s2 := (o21 (H.size + 41) (by omega)).trans s2
  replace s3 := (o21 (H.size + 42) (by omega)).trans s3
  replace s4 := (o21 (H.size + 43) (by omega)).trans s4
  replace s5 := (o21 (H.size + 44) (by omega)).trans s5
  replace sc2 := sc2.kept (o21 (H.size + 39) (by omega))
  replace rt2 := rt2.kept (fun q q1 q2 => o21 q (by omega))
  replace pl := (o21 (H.size + 64) (by omega)).trans pl
  replace pa2 := pa2.kept (o21 (H.size + 63) (by omega))
  replace prt := fun j hj => (prt j hj).kept (fun q q1 q2 => o21 q (by omega))
  replace sv := (o21 (H.size + 209) (by omega)).trans sv
  refine H_dup rfl dX8_init_109 ?_
  refine H_callI (as := []) (st := [Value.ref (H.size + 210), Value.int 0, Value.ref (H.size + 209)]) (mc' := 17) (ms' := 437) hE hci_X8_init_X5_init_27 rfl rfl (zle rfl) dX8_init_110 ⟨by show 228 ≤ 249; omega, by show 6211 ≤ 6686; omega⟩ (ct_X5 q0 (zfr_gt (by omega)) (by omega) (by omega)) (fun r22 H22 q22 => ?_)
  obtain ⟨rfl, z22, o22, srt0⟩ := q22
  simp only [z21, Nat.add_assoc, Nat.reduceAdd] at z22 o22 srt0
  have z22 : H22.size = H.size + 228 := by omega
  replace ho := ho.kept (o22 a (by omega) (by omega))
  replace by_ := (o22 (H.size + 1) (by omega) (by omega)).trans by_
  replace rd2 := rd2.kept (o22 H.size (by omega) (by omega))
  replace rt0 := rt0.kept (fun q q1 q2 => o22 q (by omega) (by omega))
  replace su2 := su2.kept (o22 (H.size + 2) (by omega) (by omega))
  replace rt1 := rt1.kept (fun q q1 q2 => o22 q (by omega) (by omega))
  replace s1 := (o22 (H.size + 40) (by omega) (by omega)).trans s1
  replace s2 := (o22 (H.size + 41) (by omega) (by omega)).trans s2
  replace s3 := (o22 (H.size + 42) (by omega) (by omega)).trans s3
  replace s4 := (o22 (H.size + 43) (by omega) (by omega)).trans s4
  replace s5 := (o22 (H.size + 44) (by omega) (by omega)).trans s5
  replace sc2 := sc2.kept (o22 (H.size + 39) (by omega) (by omega))
  replace rt2 := rt2.kept (fun q q1 q2 => o22 q (by omega) (by omega))
  replace pl := (o22 (H.size + 64) (by omega) (by omega)).trans pl
  replace pa2 := pa2.kept (o22 (H.size + 63) (by omega) (by omega))
  replace prt := fun j hj => (prt j hj).kept (fun q q1 q2 => o22 q (by omega) (by omega))
  replace sv := (o22 (H.size + 209) (by omega) (by omega)).trans sv
  refine H_aast (t := 7) (ci := 9) (by decide) rfl rfl sv srt0.ob.rc (ti_in (by decide)) (zfr_gt (by omega)) dX8_init_113 (fun H23 z23 o23 svN => ?_)
  have z23 : H23.size = H.size + 228 := by omega
  replace ho := ho.kept (o23 a (by omega))
  replace by_ := (o23 (H.size + 1) (by omega)).trans by_
  replace rd2 := rd2.kept (o23 H.size (by omega))
  replace rt0 := rt0.kept (fun q q1 q2 => o23 q (by omega))
  replace su2 := su2.kept (o23 (H.size + 2) (by omega))
  replace rt1 := rt1.kept (fun q q1 q2 => o23 q (by omega))
  replace s1 := (o23 (H.size + 40) (by omega)).trans s1
  replace s2 := (o23 (H.size + 41) (by omega)).trans s2
  replace s3 := (o23 (H.size + 42) (by omega)).trans s3
  replace s4 := (o23 (H.size + 43) (by omega)).trans s4
  replace s5 := (o23 (H.size + 44) (by omega)).trans s5
  replace sc2 := sc2.kept (o23 (H.size + 39) (by omega))
  replace rt2 := rt2.kept (fun q q1 q2 => o23 q (by omega))
  replace pl := (o23 (H.size + 64) (by omega)).trans pl
  replace pa2 := pa2.kept (o23 (H.size + 63) (by omega))
  replace prt := fun j hj => (prt j hj).kept (fun q q1 q2 => o23 q (by omega))
  replace srt0 := srt0.kept (fun q q1 q2 => o23 q (by omega))
  replace sv := svN; clear svN
  refine H_iinc (lv2 := [(1, Value.int (0 + 1)), (0, Value.ref a)]) dX8_init_114 0 rfl rfl (by decide) rfl ?_
  refine H_goto (tgt := 92) dX8_init_117 rfl ?_
  exact hk H23 (by omega) (fun q hq hqa => ((o23 q (by omega)).trans ((o22 q (by omega) (by omega)).trans (o21 q (by omega)))).trans (old q hq hqa)) ho by_ rd2 rt0 su2 rt1 s1 s2 s3 s4 s5 sc2 rt2 pl pa2 prt srt0 sv
theorem cs8_7 {K : hK} {a : Nat} (haz : zfr G a) (hz : gz G ≤ H.size ∧ ga G 50 0 < H.size ∧ ga G 51 0 < H.size) (hal : a < H.size) {Hb : Heap} (zb : Hb.size = H.size + 228) (old : ∀ q, q < H.size → q ≠ a → Hb[q]? = H[q]?) (ho : hO G Hb a 12 (vp_V [Value.ref H.size, Value.ref (H.size + 2), Value.ref (H.size + 39), Value.ref (H.size + 21), Value.ref (H.size + 45), Value.ref (H.size + 63), Value.ref (H.size + 209), Value.null, Value.null])) (by_ : hA G Hb (H.size + 1) 0 500 (.inl (fun _ => 0))) (rd2 : hO G Hb H.size 8 (vp_V [Value.ref (H.size + 1), Value.int 0, Value.int 0, Value.int 0, Value.int 0, Value.int 0, Value.int (-1)])) (rt0 : Rtr G Hb (H.size + 3)) (su2 : hO G Hb (H.size + 2) 11 (vp_V [Value.ref H.size, Value.ref (H.size + 3), Value.int 0])) (rt1 : Rtr G Hb (H.size + 21)) (s1 : hA G Hb (H.size + 40) 0 60 (.inl (fun _ => 0))) (s2 : hA G Hb (H.size + 41) 0 60 (.inl (fun _ => 0))) (s3 : hA G Hb (H.size + 42) 0 60 (.inl (fun _ => 0))) (s4 : hA G Hb (H.size + 43) 0 60 (.inl (fun _ => 0))) (s5 : hA G Hb (H.size + 44) 0 2 (.inl (fun _ => 0))) (sc2 : hO G Hb (H.size + 39) 10 (vp_V [Value.ref H.size, Value.ref (H.size + 21), Value.ref (H.size + 40), Value.ref (H.size + 41), Value.ref (H.size + 42), Value.ref (H.size + 43), Value.ref (H.size + 44), Value.int 0, Value.int 0, Value.int 0])) (rt2 : Rtr G Hb (H.size + 45)) (pl : hA G Hb (H.size + 64) 7 8 (refs (fun j => some (H.size + 65 + 18 * j)))) (pa2 : hO G Hb (H.size + 63) 6 (vp_V [Value.ref (H.size + 64), Value.int 0, Value.int 0])) (prt : ∀ j, j < 8 → Rtr G Hb (H.size + (65 + 18 * j))) (srt0 : Rtr G Hb (H.size + 210)) (sv : hA G Hb (H.size + 209) 7 2 (.inr (.inr (.inr (.inr (fun j => if j = (0 : Int32).toNatClampNeg then some (H.size + 210) else none)))))) (hk : ∀ H1 : Heap, H1.size = H.size + 246 → (∀ q, q < H.size → q ≠ a → H1[q]? = H[q]?) → (hO G H1 a 12 (vp_V [Value.ref H.size, Value.ref (H.size + 2), Value.ref (H.size + 39), Value.ref (H.size + 21), Value.ref (H.size + 45), Value.ref (H.size + 63), Value.ref (H.size + 209), Value.null, Value.null])) → (hA G H1 (H.size + 1) 0 500 (.inl (fun _ => 0))) → (hO G H1 H.size 8 (vp_V [Value.ref (H.size + 1), Value.int 0, Value.int 0, Value.int 0, Value.int 0, Value.int 0, Value.int (-1)])) → (Rtr G H1 (H.size + 3)) → (hO G H1 (H.size + 2) 11 (vp_V [Value.ref H.size, Value.ref (H.size + 3), Value.int 0])) → (Rtr G H1 (H.size + 21)) → (hA G H1 (H.size + 40) 0 60 (.inl (fun _ => 0))) → (hA G H1 (H.size + 41) 0 60 (.inl (fun _ => 0))) → (hA G H1 (H.size + 42) 0 60 (.inl (fun _ => 0))) → (hA G H1 (H.size + 43) 0 60 (.inl (fun _ => 0))) → (hA G H1 (H.size + 44) 0 2 (.inl (fun _ => 0))) → (hO G H1 (H.size + 39) 10 (vp_V [Value.ref H.size, Value.ref (H.size + 21), Value.ref (H.size + 40), Value.ref (H.size + 41), Value.ref (H.size + 42), Value.ref (H.size + 43), Value.ref (H.size + 44), Value.int 0, Value.int 0, Value.int 0])) → (Rtr G H1 (H.size + 45)) → (hA G H1 (H.size + 64) 7 8 (refs (fun j => some (H.size + 65 + 18 * j)))) → (hO G H1 (H.size + 63) 6 (vp_V [Value.ref (H.size + 64), Value.int 0, Value.int 0])) → (∀ j, j < 8 → Rtr G H1 (H.size + (65 + 18 * j))) → (Rtr G H1 (H.size + 210)) → (Rtr G H1 (H.size + 228)) → (hA G H1 (H.size + 209) 7 2 (.inr (.inr (.inr (.inr (fun j => if j = (1 : Int32).toNatClampNeg then some (H.size + 228) else if j = (0 : Int32).toNatClampNeg then some (H.size + 210) else none)))))) → hAt l G Y_X8_init (hEM G Y_X8_init 249 6686 K) 92 [(1, Value.int ((0 + 1) + 1)), (0, Value.ref a)] [] H1 246 6664) : hAt l G Y_X8_init (hEM G Y_X8_init 249 6686 K) 92 [(1, Value.int (0 + 1)), (0, Value.ref a)] [] Hb 228 6211 := by
  have hE : ∀ {mc ms : Nat} {K : hK}, zRm Y_X8_init (hEM G Y_X8_init mc ms K).1 := zRm_M
  refine H_iload_n dX8_init_92 rfl 0 rfl ?_
  refine H_aload_n dX8_init_93 rfl 1 rfl ?_
  refine H_getV hfl_X8_X8_51 ho rfl dX8_init_94 ?_
  refine H_alenR sv (by decide) dX8_init_97 ?_
  refine H_icmp_ge (tgt := 120) dX8_init_98 rfl (fun q9 => absurd q9 (by decide)) (fun _ => ?_)
  refine H_aload_n dX8_init_101 rfl 1 rfl ?_
  refine H_getV hfl_X8_X8_51 ho rfl dX8_init_102 ?_
  refine H_iload_n dX8_init_105 rfl 0 rfl ?_
  refine H_new (ci := 9) (N := 16) (V := vp_V [Value.int 0, Value.int 0, Value.int 0, Value.int 0, Value.int 0, Value.int 0, Value.int 0, Value.int 0, Value.int 0, Value.int 0, Value.int 0, Value.int 0, Value.int 0, Value.null, Value.null, Value.null]) tyX5 rfl zws_X5 tyX5_ok zw_389 zw_191 zw_114 (fun j hj => by have h4 : j = 0 ∨ j = 1 ∨ j = 2 ∨ j = 3 ∨ j = 4 ∨ j = 5 ∨ j = 6 ∨ j = 7 ∨ j = 8 ∨ j = 9 ∨ j = 10 ∨ j = 11 ∨ j = 12 ∨ j = 13 ∨ j = 14 ∨ j = 15 := (by omega); rcases h4 with e | e | e | e | e | e | e | e | e | e | e | e | e | e | e | e <;> subst e <;> rfl) (by show 229 ≤ 249; omega) (by show 6227 ≤ 6686; omega) dX8_init_106 (fun H24 z24 o24 q1 => ?_)
  rw [zb] at z24 o24 q1 ⊢
  have z24 : H24.size = H.size + 229 := by omega
  replace ho := ho.kept (o24 a (by omega))
  replace by_ := (o24 (H.size + 1) (by omega)).trans by_
  replace rd2 := rd2.kept (o24 H.size (by omega))
  replace rt0 := rt0.kept (fun q q1 q2 => o24 q (by omega))
  replace su2 := su2.kept (o24 (H.size + 2) (by omega))
  replace rt1 := rt1.kept (fun q q1 q2 => o24 q (by omega))
  replace s1 := (o24 (H.size + 40) (by omega)).trans s1
  replace s2 := (o24 (H.size + 41) (by omega)).trans s2
  replace s3 := (o24 (H.size + 42) (by omega)).trans s3
  replace s4 := (o24 (H.size + 43) (by omega)).trans s4
  replace s5 := (o24 (H.size + 44) (by omega)).trans s5
  replace sc2 := sc2.kept (o24 (H.size + 39) (by omega))
  replace rt2 := rt2.kept (fun q q1 q2 => o24 q (by omega))
  replace pl := (o24 (H.size + 64) (by omega)).trans pl
  replace pa2 := pa2.kept (o24 (H.size + 63) (by omega))
  replace prt := fun j hj => (prt j hj).kept (fun q q1 q2 => o24 q (by omega))
  replace srt0 := srt0.kept (fun q q1 q2 => o24 q (by omega))
  replace sv := (o24 (H.size + 209) (by omega)).trans sv
  refine H_dup rfl dX8_init_109 ?_
  refine H_callI (as := []) (st := [Value.ref (H.size + 228), Value.int (0 + 1), Value.ref (H.size + 209)]) (mc' := 17) (ms' := 437) hE hci_X8_init_X5_init_27 rfl rfl (zle rfl) dX8_init_110 ⟨by show 246 ≤ 249; omega, by show 6664 ≤ 6686; omega⟩ (ct_X5 q1 (zfr_gt (by omega)) (by omega) (by omega)) (fun r25 H25 q25 => ?_)
  obtain ⟨rfl, z25, o25, srt1⟩ := q25
  simp only [z24, Nat.add_assoc, Nat.reduceAdd] at z25 o25 srt1
  have z25 : H25.size = H.size + 246 := by omega
  replace ho := ho.kept (o25 a (by omega) (by omega))
  replace by_ := (o25 (H.size + 1) (by omega) (by omega)).trans by_
  replace rd2 := rd2.kept (o25 H.size (by omega) (by omega))
  replace rt0 := rt0.kept (fun q q1 q2 => o25 q (by omega) (by omega))
  replace su2 := su2.kept (o25 (H.size + 2) (by omega) (by omega))
  replace rt1 := rt1.kept (fun q q1 q2 => o25 q (by omega) (by omega))
  replace s1 := (o25 (H.size + 40) (by omega) (by omega)).trans s1
  replace s2 := (o25 (H.size + 41) (by omega) (by omega)).trans s2
  replace s3 := (o25 (H.size + 42) (by omega) (by omega)).trans s3
  replace s4 := (o25 (H.size + 43) (by omega) (by omega)).trans s4
  replace s5 := (o25 (H.size + 44) (by omega) (by omega)).trans s5
  replace sc2 := sc2.kept (o25 (H.size + 39) (by omega) (by omega))
  replace rt2 := rt2.kept (fun q q1 q2 => o25 q (by omega) (by omega))
  replace pl := (o25 (H.size + 64) (by omega) (by omega)).trans pl
  replace pa2 := pa2.kept (o25 (H.size + 63) (by omega) (by omega))
  replace prt := fun j hj => (prt j hj).kept (fun q q1 q2 => o25 q (by omega) (by omega))
  replace srt0 := srt0.kept (fun q q1 q2 => o25 q (by omega) (by omega))
  replace sv := (o25 (H.size + 209) (by omega) (by omega)).trans sv
  refine H_aast (t := 7) (ci := 9) (by decide) rfl rfl sv srt1.ob.rc (ti_in (by decide)) (zfr_gt (by omega)) dX8_init_113 (fun H26 z26 o26 svN => ?_)
  have z26 : H26.size = H.size + 246 := by omega
  replace ho := ho.kept (o26 a (by omega))
  replace by_ := (o26 (H.size + 1) (by omega)).trans by_
  replace rd2 := rd2.kept (o26 H.size (by omega))
  replace rt0 := rt0.kept (fun q q1 q2 => o26 q (by omega))
  replace su2 := su2.kept (o26 (H.size + 2) (by omega))
  replace rt1 := rt1.kept (fun q q1 q2 => o26 q (by omega))
  replace s1 := (o26 (H.size + 40) (by omega)).trans s1
  replace s2 := (o26 (H.size + 41) (by omega)).trans s2
  replace s3 := (o26 (H.size + 42) (by omega)).trans s3
  replace s4 := (o26 (H.size + 43) (by omega)).trans s4
  replace s5 := (o26 (H.size + 44) (by omega)).trans s5
  replace sc2 := sc2.kept (o26 (H.size + 39) (by omega))
  replace rt2 := rt2.kept (fun q q1 q2 => o26 q (by omega))
  replace pl := (o26 (H.size + 64) (by omega)).trans pl
  replace pa2 := pa2.kept (o26 (H.size + 63) (by omega))
  replace prt := fun j hj => (prt j hj).kept (fun q q1 q2 => o26 q (by omega))
  replace srt0 := srt0.kept (fun q q1 q2 => o26 q (by omega))
  replace srt1 := srt1.kept (fun q q1 q2 => o26 q (by omega))
  replace sv := svN; clear svN
  refine H_iinc (lv2 := [(1, Value.int ((0 + 1) + 1)), (0, Value.ref a)]) dX8_init_114 0 rfl rfl (by decide) rfl ?_
  refine H_goto (tgt := 92) dX8_init_117 rfl ?_
  exact hk H26 (by omega) (fun q hq hqa => ((o26 q (by omega)).trans ((o25 q (by omega) (by omega)).trans (o24 q (by omega)))).trans (old q hq hqa)) ho by_ rd2 rt0 su2 rt1 s1 s2 s3 s4 s5 sc2 rt2 pl pa2 prt srt0 srt1 sv
theorem cs8_8 {K : hK} {a : Nat} (haz : zfr G a) (hz : gz G ≤ H.size ∧ ga G 50 0 < H.size ∧ ga G 51 0 < H.size) (hal : a < H.size) {Hb : Heap} (zb : Hb.size = H.size + 246) (old : ∀ q, q < H.size → q ≠ a → Hb[q]? = H[q]?) (ho : hO G Hb a 12 (vp_V [Value.ref H.size, Value.ref (H.size + 2), Value.ref (H.size + 39), Value.ref (H.size + 21), Value.ref (H.size + 45), Value.ref (H.size + 63), Value.ref (H.size + 209), Value.null, Value.null])) (by_ : hA G Hb (H.size + 1) 0 500 (.inl (fun _ => 0))) (rd2 : hO G Hb H.size 8 (vp_V [Value.ref (H.size + 1), Value.int 0, Value.int 0, Value.int 0, Value.int 0, Value.int 0, Value.int (-1)])) (rt0 : Rtr G Hb (H.size + 3)) (su2 : hO G Hb (H.size + 2) 11 (vp_V [Value.ref H.size, Value.ref (H.size + 3), Value.int 0])) (rt1 : Rtr G Hb (H.size + 21)) (s1 : hA G Hb (H.size + 40) 0 60 (.inl (fun _ => 0))) (s2 : hA G Hb (H.size + 41) 0 60 (.inl (fun _ => 0))) (s3 : hA G Hb (H.size + 42) 0 60 (.inl (fun _ => 0))) (s4 : hA G Hb (H.size + 43) 0 60 (.inl (fun _ => 0))) (s5 : hA G Hb (H.size + 44) 0 2 (.inl (fun _ => 0))) (sc2 : hO G Hb (H.size + 39) 10 (vp_V [Value.ref H.size, Value.ref (H.size + 21), Value.ref (H.size + 40), Value.ref (H.size + 41), Value.ref (H.size + 42), Value.ref (H.size + 43), Value.ref (H.size + 44), Value.int 0, Value.int 0, Value.int 0])) (rt2 : Rtr G Hb (H.size + 45)) (pl : hA G Hb (H.size + 64) 7 8 (refs (fun j => some (H.size + 65 + 18 * j)))) (pa2 : hO G Hb (H.size + 63) 6 (vp_V [Value.ref (H.size + 64), Value.int 0, Value.int 0])) (prt : ∀ j, j < 8 → Rtr G Hb (H.size + (65 + 18 * j))) (srt0 : Rtr G Hb (H.size + 210)) (srt1 : Rtr G Hb (H.size + 228)) (sv : hA G Hb (H.size + 209) 7 2 (.inr (.inr (.inr (.inr (fun j => if j = (1 : Int32).toNatClampNeg then some (H.size + 228) else if j = (0 : Int32).toNatClampNeg then some (H.size + 210) else none)))))) (hk : ∀ H1 : Heap, H1.size = H.size + 247 → (∀ q, q < H.size → q ≠ a → H1[q]? = H[q]?) → (hO G H1 a 12 (vp_V [Value.ref H.size, Value.ref (H.size + 2), Value.ref (H.size + 39), Value.ref (H.size + 21), Value.ref (H.size + 45), Value.ref (H.size + 63), Value.ref (H.size + 209), Value.ref (H.size + 246), Value.null])) → (hA G H1 (H.size + 1) 0 500 (.inl (fun _ => 0))) → (hO G H1 H.size 8 (vp_V [Value.ref (H.size + 1), Value.int 0, Value.int 0, Value.int 0, Value.int 0, Value.int 0, Value.int (-1)])) → (Rtr G H1 (H.size + 3)) → (hO G H1 (H.size + 2) 11 (vp_V [Value.ref H.size, Value.ref (H.size + 3), Value.int 0])) → (Rtr G H1 (H.size + 21)) → (hA G H1 (H.size + 40) 0 60 (.inl (fun _ => 0))) → (hA G H1 (H.size + 41) 0 60 (.inl (fun _ => 0))) → (hA G H1 (H.size + 42) 0 60 (.inl (fun _ => 0))) → (hA G H1 (H.size + 43) 0 60 (.inl (fun _ => 0))) → (hA G H1 (H.size + 44) 0 2 (.inl (fun _ => 0))) → (hO G H1 (H.size + 39) 10 (vp_V [Value.ref H.size, Value.ref (H.size + 21), Value.ref (H.size + 40), Value.ref (H.size + 41), Value.ref (H.size + 42), Value.ref (H.size + 43), Value.ref (H.size + 44), Value.int 0, Value.int 0, Value.int 0])) → (Rtr G H1 (H.size + 45)) → (hA G H1 (H.size + 64) 7 8 (refs (fun j => some (H.size + 65 + 18 * j)))) → (hO G H1 (H.size + 63) 6 (vp_V [Value.ref (H.size + 64), Value.int 0, Value.int 0])) → (∀ j, j < 8 → Rtr G H1 (H.size + (65 + 18 * j))) → (Rtr G H1 (H.size + 210)) → (Rtr G H1 (H.size + 228)) → (hA G H1 (H.size + 209) 7 2 (.inr (.inr (.inr (.inr (fun j => if j = (1 : Int32).toNatClampNeg then some (H.size + 228) else if j = (0 : Int32).toNatClampNeg then some (H.size + 210) else none)))))) → (hA G H1 (H.size + 246) 2 2 (.inl (fun _ => 0))) → hAt l G Y_X8_init (hEM G Y_X8_init 249 6686 K) 127 [(1, Value.int ((0 + 1) + 1)), (0, Value.ref a)] [] H1 247 6666) : hAt l G Y_X8_init (hEM G Y_X8_init 249 6686 K) 92 [(1, Value.int ((0 + 1) + 1)), (0, Value.ref a)] [] Hb 246 6664 := by
  have hE : ∀ {mc ms : Nat} {K : hK}, zRm Y_X8_init (hEM G Y_X8_init mc ms K).1 := zRm_M
  refine H_iload_n dX8_init_92 rfl 0 rfl ?_
  refine H_aload_n dX8_init_93 rfl 1 rfl ?_
  refine H_getV hfl_X8_X8_51 ho rfl dX8_init_94 ?_
  refine H_alenR sv (by decide) dX8_init_97 ?_
  refine H_icmp_ge (tgt := 120) dX8_init_98 rfl (fun _ => ?_) (fun q9 => absurd (by decide) q9)
  refine H_aload_n dX8_init_120 rfl 1 rfl ?_
  refine H_iconst (v := 2) rfl dX8_init_121 ?_
  refine H_newa (at_ := .boolean) (t := 2) (n := 2) (z := .inl (fun _ => 0)) (by decide) rfl zw_480 rfl (fun _ => rfl) (by decide) (by show 247 ≤ 249; omega) (by show 6666 ≤ 6686; omega) dX8_init_122 (fun H27 z27 o27 is => ?_)
  rw [zb] at z27 o27 is ⊢
  have z27 : H27.size = H.size + 247 := by omega
  replace ho := ho.kept (o27 a (by omega))
  replace by_ := (o27 (H.size + 1) (by omega)).trans by_
  replace rd2 := rd2.kept (o27 H.size (by omega))
  replace rt0 := rt0.kept (fun q q1 q2 => o27 q (by omega))
  replace su2 := su2.kept (o27 (H.size + 2) (by omega))
  replace rt1 := rt1.kept (fun q q1 q2 => o27 q (by omega))
  replace s1 := (o27 (H.size + 40) (by omega)).trans s1
  replace s2 := (o27 (H.size + 41) (by omega)).trans s2
  replace s3 := (o27 (H.size + 42) (by omega)).trans s3
  replace s4 := (o27 (H.size + 43) (by omega)).trans s4
  replace s5 := (o27 (H.size + 44) (by omega)).trans s5
  replace sc2 := sc2.kept (o27 (H.size + 39) (by omega))
  replace rt2 := rt2.kept (fun q q1 q2 => o27 q (by omega))
  replace pl := (o27 (H.size + 64) (by omega)).trans pl
  replace pa2 := pa2.kept (o27 (H.size + 63) (by omega))
  replace prt := fun j hj => (prt j hj).kept (fun q q1 q2 => o27 q (by omega))
  replace srt0 := srt0.kept (fun q q1 q2 => o27 q (by omega))
  replace srt1 := srt1.kept (fun q q1 q2 => o27 q (by omega))
  replace sv := (o27 (H.size + 209) (by omega)).trans sv
  refine H_putV (fs2 := [Value.ref H.size, Value.ref (H.size + 2), Value.ref (H.size + 39), Value.ref (H.size + 21), Value.ref (H.size + 45), Value.ref (H.size + 63), Value.ref (H.size + 209), Value.ref (H.size + 246), Value.null]) hfp_X8_X8_55 (fun _ => rfl) ho rfl (zle rfl) rfl rfl (by omega) dX8_init_124 (fun H28 z28 o28 hoN => ?_)
  have z28 : H28.size = H.size + 247 := by omega
  replace by_ := (o28 (H.size + 1) (by omega)).trans by_
  replace rd2 := rd2.kept (o28 H.size (by omega))
  replace rt0 := rt0.kept (fun q q1 q2 => o28 q (by omega))
  replace su2 := su2.kept (o28 (H.size + 2) (by omega))
  replace rt1 := rt1.kept (fun q q1 q2 => o28 q (by omega))
  replace s1 := (o28 (H.size + 40) (by omega)).trans s1
  replace s2 := (o28 (H.size + 41) (by omega)).trans s2
  replace s3 := (o28 (H.size + 42) (by omega)).trans s3
  replace s4 := (o28 (H.size + 43) (by omega)).trans s4
  replace s5 := (o28 (H.size + 44) (by omega)).trans s5
  replace sc2 := sc2.kept (o28 (H.size + 39) (by omega))
  replace rt2 := rt2.kept (fun q q1 q2 => o28 q (by omega))
  replace pl := (o28 (H.size + 64) (by omega)).trans pl
  replace pa2 := pa2.kept (o28 (H.size + 63) (by omega))
  replace prt := fun j hj => (prt j hj).kept (fun q q1 q2 => o28 q (by omega))
  replace srt0 := srt0.kept (fun q q1 q2 => o28 q (by omega))
  replace srt1 := srt1.kept (fun q q1 q2 => o28 q (by omega))
  replace sv := (o28 (H.size + 209) (by omega)).trans sv
  replace is := (o28 (H.size + 246) (by omega)).trans is
  have ho := hoN
  exact hk H28 (by omega) (fun q hq hqa => ((o28 q (by omega)).trans (o27 q (by omega))).trans (old q hq hqa)) ho by_ rd2 rt0 su2 rt1 s1 s2 s3 s4 s5 sc2 rt2 pl pa2 prt srt0 srt1 sv is
theorem cs8_9 {K : hK} {a : Nat} (haz : zfr G a) (hz : gz G ≤ H.size ∧ ga G 50 0 < H.size ∧ ga G 51 0 < H.size) (hal : a < H.size) {Hb : Heap} (zb : Hb.size = H.size + 247) (old : ∀ q, q < H.size → q ≠ a → Hb[q]? = H[q]?) (ho : hO G Hb a 12 (vp_V [Value.ref H.size, Value.ref (H.size + 2), Value.ref (H.size + 39), Value.ref (H.size + 21), Value.ref (H.size + 45), Value.ref (H.size + 63), Value.ref (H.size + 209), Value.ref (H.size + 246), Value.null])) (by_ : hA G Hb (H.size + 1) 0 500 (.inl (fun _ => 0))) (rd2 : hO G Hb H.size 8 (vp_V [Value.ref (H.size + 1), Value.int 0, Value.int 0, Value.int 0, Value.int 0, Value.int 0, Value.int (-1)])) (rt0 : Rtr G Hb (H.size + 3)) (su2 : hO G Hb (H.size + 2) 11 (vp_V [Value.ref H.size, Value.ref (H.size + 3), Value.int 0])) (rt1 : Rtr G Hb (H.size + 21)) (s1 : hA G Hb (H.size + 40) 0 60 (.inl (fun _ => 0))) (s2 : hA G Hb (H.size + 41) 0 60 (.inl (fun _ => 0))) (s3 : hA G Hb (H.size + 42) 0 60 (.inl (fun _ => 0))) (s4 : hA G Hb (H.size + 43) 0 60 (.inl (fun _ => 0))) (s5 : hA G Hb (H.size + 44) 0 2 (.inl (fun _ => 0))) (sc2 : hO G Hb (H.size + 39) 10 (vp_V [Value.ref H.size, Value.ref (H.size + 21), Value.ref (H.size + 40), Value.ref (H.size + 41), Value.ref (H.size + 42), Value.ref (H.size + 43), Value.ref (H.size + 44), Value.int 0, Value.int 0, Value.int 0])) (rt2 : Rtr G Hb (H.size + 45)) (pl : hA G Hb (H.size + 64) 7 8 (refs (fun j => some (H.size + 65 + 18 * j)))) (pa2 : hO G Hb (H.size + 63) 6 (vp_V [Value.ref (H.size + 64), Value.int 0, Value.int 0])) (prt : ∀ j, j < 8 → Rtr G Hb (H.size + (65 + 18 * j))) (srt0 : Rtr G Hb (H.size + 210)) (srt1 : Rtr G Hb (H.size + 228)) (sv : hA G Hb (H.size + 209) 7 2 (.inr (.inr (.inr (.inr (fun j => if j = (1 : Int32).toNatClampNeg then some (H.size + 228) else if j = (0 : Int32).toNatClampNeg then some (H.size + 210) else none)))))) (is : hA G Hb (H.size + 246) 2 2 (.inl (fun _ => 0))) (hk : ∀ H1 : Heap, H1.size = H.size + 249 → (∀ q, q < H.size → q ≠ a → H1[q]? = H[q]?) → (hO G H1 a 12 (vp_V [Value.ref H.size, Value.ref (H.size + 2), Value.ref (H.size + 39), Value.ref (H.size + 21), Value.ref (H.size + 45), Value.ref (H.size + 63), Value.ref (H.size + 209), Value.ref (H.size + 246), Value.ref (H.size + 247)])) → (hA G H1 (H.size + 1) 0 500 (.inl (fun _ => 0))) → (hO G H1 H.size 8 (vp_V [Value.ref (H.size + 1), Value.int 0, Value.int 0, Value.int 0, Value.int 0, Value.int 0, Value.int (-1)])) → (Rtr G H1 (H.size + 3)) → (hO G H1 (H.size + 2) 11 (vp_V [Value.ref H.size, Value.ref (H.size + 3), Value.int 0])) → (Rtr G H1 (H.size + 21)) → (hA G H1 (H.size + 40) 0 60 (.inl (fun _ => 0))) → (hA G H1 (H.size + 41) 0 60 (.inl (fun _ => 0))) → (hA G H1 (H.size + 42) 0 60 (.inl (fun _ => 0))) → (hA G H1 (H.size + 43) 0 60 (.inl (fun _ => 0))) → (hA G H1 (H.size + 44) 0 2 (.inl (fun _ => 0))) → (hO G H1 (H.size + 39) 10 (vp_V [Value.ref H.size, Value.ref (H.size + 21), Value.ref (H.size + 40), Value.ref (H.size + 41), Value.ref (H.size + 42), Value.ref (H.size + 43), Value.ref (H.size + 44), Value.int 0, Value.int 0, Value.int 0])) → (Rtr G H1 (H.size + 45)) → (hA G H1 (H.size + 64) 7 8 (refs (fun j => some (H.size + 65 + 18 * j)))) → (hO G H1 (H.size + 63) 6 (vp_V [Value.ref (H.size + 64), Value.int 0, Value.int 0])) → (∀ j, j < 8 → Rtr G H1 (H.size + (65 + 18 * j))) → (Rtr G H1 (H.size + 210)) → (Rtr G H1 (H.size + 228)) → (hA G H1 (H.size + 209) 7 2 (.inr (.inr (.inr (.inr (fun j => if j = (1 : Int32).toNatClampNeg then some (H.size + 228) else if j = (0 : Int32).toNatClampNeg then some (H.size + 210) else none)))))) → (hA G H1 (H.size + 246) 2 2 (.inl (fun _ => 0))) → (hA G H1 (H.size + 248) 4 16 (.inl (fun _ => 0))) → (hO G H1 (H.size + 247) 1 (vp_V [Value.ref (H.size + 248), Value.int 0, Value.int 0, Value.int 0])) → hAt l G Y_X8_init (hEM G Y_X8_init 249 6686 K) 138 [(1, Value.int ((0 + 1) + 1)), (0, Value.ref a)] [] H1 249 6686) : hAt l G Y_X8_init (hEM G Y_X8_init 249 6686 K) 127 [(1, Value.int ((0 + 1) + 1)), (0, Value.ref a)] [] Hb 247 6666 := by
  have hE : ∀ {mc ms : Nat} {K : hK}, zRm Y_X8_init (hEM G Y_X8_init mc ms K).1 := zRm_M
  refine H_aload_n dX8_init_127 rfl 1 rfl ?_
  refine H_new (ci := 1) (N := 4) (V := vp_V [Value.null, Value.int 0, Value.int 0, Value.int 0]) tyJ4 rfl zws_J4 tyJ4_ok zw_448 zw_449 zw_121 (fun j hj => by have h4 : j = 0 ∨ j = 1 ∨ j = 2 ∨ j = 3 := (by omega); rcases h4 with e | e | e | e <;> subst e <;> rfl) (by show 248 ≤ 249; omega) (by show 6670 ≤ 6686; omega) dX8_init_128 (fun H29 z29 o29 sb => ?_)
  rw [zb] at z29 o29 sb ⊢
  have z29 : H29.size = H.size + 248 := by omega
  replace ho := ho.kept (o29 a (by omega))
  replace by_ := (o29 (H.size + 1) (by omega)).trans by_
  replace rd2 := rd2.kept (o29 H.size (by omega))
  replace rt0 := rt0.kept (fun q q1 q2 => o29 q (by omega))
  replace su2 := su2.kept (o29 (H.size + 2) (by omega))
  replace rt1 := rt1.kept (fun q q1 q2 => o29 q (by omega))
  replace s1 := (o29 (H.size + 40) (by omega)).trans s1
  replace s2 := (o29 (H.size + 41) (by omega)).trans s2
  replace s3 := (o29 (H.size + 42) (by omega)).trans s3
  replace s4 := (o29 (H.size + 43) (by omega)).trans s4
  replace s5 := (o29 (H.size + 44) (by omega)).trans s5
  replace sc2 := sc2.kept (o29 (H.size + 39) (by omega))
  replace rt2 := rt2.kept (fun q q1 q2 => o29 q (by omega))
  replace pl := (o29 (H.size + 64) (by omega)).trans pl
  replace pa2 := pa2.kept (o29 (H.size + 63) (by omega))
  replace prt := fun j hj => (prt j hj).kept (fun q q1 q2 => o29 q (by omega))
  replace srt0 := srt0.kept (fun q q1 q2 => o29 q (by omega))
  replace srt1 := srt1.kept (fun q q1 q2 => o29 q (by omega))
  replace sv := (o29 (H.size + 209) (by omega)).trans sv
  replace is := (o29 (H.size + 246) (by omega)).trans is
  refine H_dup rfl dX8_init_131 ?_
  refine H_callI (as := []) (st := [Value.ref (H.size + 247), Value.ref a]) (mc' := 1) (ms' := 16) hE hci_X8_init_J4_init_da8c8_61 rfl rfl (zle rfl) dX8_init_132 ⟨by show 249 ≤ 249; omega, by show 6686 ≤ 6686; omega⟩ (ct_J4 sb (zfr_gt (by omega)) (by omega)) (fun r30 H30 q30 => ?_)
  obtain ⟨rfl, z30, o30, sa, sb2⟩ := q30
  simp only [z29, Nat.add_assoc, Nat.reduceAdd] at z30 o30 sa sb2
  have z30 : H30.size = H.size + 249 := by omega
  replace ho := ho.kept (o30 a (by omega) (by omega))
  replace by_ := (o30 (H.size + 1) (by omega) (by omega)).trans by_
  replace rd2 := rd2.kept (o30 H.size (by omega) (by omega))
  replace rt0 := rt0.kept (fun q q1 q2 => o30 q (by omega) (by omega))
  replace su2 := su2.kept (o30 (H.size + 2) (by omega) (by omega))
  replace rt1 := rt1.kept (fun q q1 q2 => o30 q (by omega) (by omega))
  replace s1 := (o30 (H.size + 40) (by omega) (by omega)).trans s1
  replace s2 := (o30 (H.size + 41) (by omega) (by omega)).trans s2
  replace s3 := (o30 (H.size + 42) (by omega) (by omega)).trans s3
  replace s4 := (o30 (H.size + 43) (by omega) (by omega)).trans s4
  replace s5 := (o30 (H.size + 44) (by omega) (by omega)).trans s5
  replace sc2 := sc2.kept (o30 (H.size + 39) (by omega) (by omega))
  replace rt2 := rt2.kept (fun q q1 q2 => o30 q (by omega) (by omega))
  replace pl := (o30 (H.size + 64) (by omega) (by omega)).trans pl
  replace pa2 := pa2.kept (o30 (H.size + 63) (by omega) (by omega))
  replace prt := fun j hj => (prt j hj).kept (fun q q1 q2 => o30 q (by omega) (by omega))
  replace srt0 := srt0.kept (fun q q1 q2 => o30 q (by omega) (by omega))
  replace srt1 := srt1.kept (fun q q1 q2 => o30 q (by omega) (by omega))
  replace sv := (o30 (H.size + 209) (by omega) (by omega)).trans sv
  replace is := (o30 (H.size + 246) (by omega) (by omega)).trans is
  refine H_putV (fs2 := [Value.ref H.size, Value.ref (H.size + 2), Value.ref (H.size + 39), Value.ref (H.size + 21), Value.ref (H.size + 45), Value.ref (H.size + 63), Value.ref (H.size + 209), Value.ref (H.size + 246), Value.ref (H.size + 247)]) hfp_X8_X8_62 (fun _ => rfl) ho rfl (zle rfl) rfl rfl (by omega) dX8_init_135 (fun H31 z31 o31 hoN => ?_)
  have z31 : H31.size = H.size + 249 := by omega
  replace by_ := (o31 (H.size + 1) (by omega)).trans by_
  replace rd2 := rd2.kept (o31 H.size (by omega))
  replace rt0 := rt0.kept (fun q q1 q2 => o31 q (by omega))
  replace su2 := su2.kept (o31 (H.size + 2) (by omega))
  replace rt1 := rt1.kept (fun q q1 q2 => o31 q (by omega))
  replace s1 := (o31 (H.size + 40) (by omega)).trans s1
  replace s2 := (o31 (H.size + 41) (by omega)).trans s2
  replace s3 := (o31 (H.size + 42) (by omega)).trans s3
  replace s4 := (o31 (H.size + 43) (by omega)).trans s4
  replace s5 := (o31 (H.size + 44) (by omega)).trans s5
  replace sc2 := sc2.kept (o31 (H.size + 39) (by omega))
  replace rt2 := rt2.kept (fun q q1 q2 => o31 q (by omega))
  replace pl := (o31 (H.size + 64) (by omega)).trans pl
  replace pa2 := pa2.kept (o31 (H.size + 63) (by omega))
  replace prt := fun j hj => (prt j hj).kept (fun q q1 q2 => o31 q (by omega))
  replace srt0 := srt0.kept (fun q q1 q2 => o31 q (by omega))
  replace srt1 := srt1.kept (fun q q1 q2 => o31 q (by omega))
  replace sv := (o31 (H.size + 209) (by omega)).trans sv
  replace is := (o31 (H.size + 246) (by omega)).trans is
  replace sa := (o31 (H.size + 248) (by omega)).trans sa
  replace sb2 := sb2.kept (o31 (H.size + 247) (by omega))
  have ho := hoN
  exact hk H31 (by omega) (fun q hq hqa => ((o31 q (by omega)).trans ((o30 q (by omega) (by omega)).trans (o29 q (by omega)))).trans (old q hq hqa)) ho by_ rd2 rt0 su2 rt1 s1 s2 s3 s4 s5 sc2 rt2 pl pa2 prt srt0 srt1 sv is sa sb2
theorem cs8_10 {a : Nat} (haz : zfr G a) (hz : gz G ≤ H.size ∧ ga G 50 0 < H.size ∧ ga G 51 0 < H.size) (hal : a < H.size) {Hb : Heap} (zb : Hb.size = H.size + 249) (old : ∀ q, q < H.size → q ≠ a → Hb[q]? = H[q]?) (ho : hO G Hb a 12 (vp_V [Value.ref H.size, Value.ref (H.size + 2), Value.ref (H.size + 39), Value.ref (H.size + 21), Value.ref (H.size + 45), Value.ref (H.size + 63), Value.ref (H.size + 209), Value.ref (H.size + 246), Value.ref (H.size + 247)])) (by_ : hA G Hb (H.size + 1) 0 500 (.inl (fun _ => 0))) (rd2 : hO G Hb H.size 8 (vp_V [Value.ref (H.size + 1), Value.int 0, Value.int 0, Value.int 0, Value.int 0, Value.int 0, Value.int (-1)])) (rt0 : Rtr G Hb (H.size + 3)) (su2 : hO G Hb (H.size + 2) 11 (vp_V [Value.ref H.size, Value.ref (H.size + 3), Value.int 0])) (rt1 : Rtr G Hb (H.size + 21)) (s1 : hA G Hb (H.size + 40) 0 60 (.inl (fun _ => 0))) (s2 : hA G Hb (H.size + 41) 0 60 (.inl (fun _ => 0))) (s3 : hA G Hb (H.size + 42) 0 60 (.inl (fun _ => 0))) (s4 : hA G Hb (H.size + 43) 0 60 (.inl (fun _ => 0))) (s5 : hA G Hb (H.size + 44) 0 2 (.inl (fun _ => 0))) (sc2 : hO G Hb (H.size + 39) 10 (vp_V [Value.ref H.size, Value.ref (H.size + 21), Value.ref (H.size + 40), Value.ref (H.size + 41), Value.ref (H.size + 42), Value.ref (H.size + 43), Value.ref (H.size + 44), Value.int 0, Value.int 0, Value.int 0])) (rt2 : Rtr G Hb (H.size + 45)) (pl : hA G Hb (H.size + 64) 7 8 (refs (fun j => some (H.size + 65 + 18 * j)))) (pa2 : hO G Hb (H.size + 63) 6 (vp_V [Value.ref (H.size + 64), Value.int 0, Value.int 0])) (prt : ∀ j, j < 8 → Rtr G Hb (H.size + (65 + 18 * j))) (srt0 : Rtr G Hb (H.size + 210)) (srt1 : Rtr G Hb (H.size + 228)) (sv : hA G Hb (H.size + 209) 7 2 (.inr (.inr (.inr (.inr (fun j => if j = (1 : Int32).toNatClampNeg then some (H.size + 228) else if j = (0 : Int32).toNatClampNeg then some (H.size + 210) else none)))))) (is : hA G Hb (H.size + 246) 2 2 (.inl (fun _ => 0))) (sa : hA G Hb (H.size + 248) 4 16 (.inl (fun _ => 0))) (sb2 : hO G Hb (H.size + 247) 1 (vp_V [Value.ref (H.size + 248), Value.int 0, Value.int 0, Value.int 0])) : hAt l G Y_X8_init (hEM G Y_X8_init 249 6686 (fun r H1 => r = none ∧ H1.size = H.size + 249 ∧ (∀ q, q < H.size → q ≠ a → H1[q]? = H[q]?) ∧ X8w G H a H1)) 138 [(1, Value.int ((0 + 1) + 1)), (0, Value.ref a)] [] Hb 249 6686 := by
  have hE : ∀ {mc ms : Nat} {K : hK}, zRm Y_X8_init (hEM G Y_X8_init mc ms K).1 := zRm_M
  refine H_vret rfl dX8_init_138 (by show 249 ≤ 249; omega) (by show 6686 ≤ 6686; omega) ⟨rfl, zb, fun q hq hqa => old q hq hqa, X8w.mk ho rd2 by_ su2 rt0 rt1 sc2 s1 s2 s3 s4 s5 rt2 pa2 pl (fun j hj => by rw [Nat.add_assoc]; exact prt j hj) (hA.cong sv fun j hj => ?_) srt0 srt1 is sb2 sa⟩
  have hj2 : j = 0 ∨ j = 1 := by omega
  rcases hj2 with e | e <;> subst e <;> rfl
theorem ct_X8 {a : Nat} (ho : hO G H a 12 (vp_V [Value.null, Value.null, Value.null, Value.null, Value.null, Value.null, Value.null, Value.null, Value.null])) (haz : zfr G a) (hz : gz G ≤ H.size ∧ ga G 50 0 < H.size ∧ ga G 51 0 < H.size) : hCal l G Y_X8_init 249 6686 [Value.ref a] H (fun r H1 => r = none ∧ H1.size = H.size + 249 ∧ (∀ q, q < H.size → q ≠ a → H1[q]? = H[q]?) ∧ X8w G H a H1) := by
  refine hCal_of (by decide) rfl (zle rfl) rfl ?_
  have hE : ∀ {mc ms : Nat} {K : hK}, zRm Y_X8_init (hEM G Y_X8_init mc ms K).1 := zRm_M
  have hal := ho.lt
  refine H_aload_n dX8_init_0 rfl 0 rfl ?_
  refine H_objInit zw_145 zw_146 zw_147 hE (by decide) (zle rfl) dX8_init_1 ?_
  refine cs8_0 haz hz hal ho (fun H0 z0 o0 ho0 by_0 rd20 => ?_)
  refine cs8_1 haz hz hal z0 o0 ho0 by_0 rd20 (fun H1 z1 o1 ho1 by_1 rd21 rt01 su21 => ?_)
  clear ho0 by_0 rd20
  refine cs8_2 haz hz hal z1 o1 ho1 by_1 rd21 rt01 su21 (fun H2 z2 o2 ho2 by_2 rd22 rt02 su22 rt12 => ?_)
  clear ho1 by_1 rd21 rt01 su21
  refine cs8_3 haz hz hal z2 o2 ho2 by_2 rd22 rt02 su22 rt12 (fun H3 z3 o3 ho3 by_3 rd23 rt03 su23 rt13 s13 s23 s33 s43 s53 sc23 rt23 => ?_)
  clear ho2 by_2 rd22 rt02 su22 rt12
  refine cs8_4 haz hz hal z3 o3 ho3 by_3 rd23 rt03 su23 rt13 s13 s23 s33 s43 s53 sc23 rt23 (fun H4 z4 o4 ho4 by_4 rd24 rt04 su24 rt14 s14 s24 s34 s44 s54 sc24 rt24 pl4 pa24 prt4 => ?_)
  clear ho3 by_3 rd23 rt03 su23 rt13 s13 s23 s33 s43 s53 sc23 rt23
  refine cs8_5 haz hz hal z4 o4 ho4 by_4 rd24 rt04 su24 rt14 s14 s24 s34 s44 s54 sc24 rt24 pl4 pa24 prt4 (fun H5 z5 o5 ho5 by_5 rd25 rt05 su25 rt15 s15 s25 s35 s45 s55 sc25 rt25 pl5 pa25 prt5 sv5 => ?_)
  clear ho4 by_4 rd24 rt04 su24 rt14 s14 s24 s34 s44 s54 sc24 rt24 pl4 pa24 prt4
  refine cs8_6 haz hz hal z5 o5 ho5 by_5 rd25 rt05 su25 rt15 s15 s25 s35 s45 s55 sc25 rt25 pl5 pa25 prt5 sv5 (fun H6 z6 o6 ho6 by_6 rd26 rt06 su26 rt16 s16 s26 s36 s46 s56 sc26 rt26 pl6 pa26 prt6 srt06 sv6 => ?_)
  clear ho5 by_5 rd25 rt05 su25 rt15 s15 s25 s35 s45 s55 sc25 rt25 pl5 pa25 prt5 sv5
  refine cs8_7 haz hz hal z6 o6 ho6 by_6 rd26 rt06 su26 rt16 s16 s26 s36 s46 s56 sc26 rt26 pl6 pa26 prt6 srt06 sv6 (fun H7 z7 o7 ho7 by_7 rd27 rt07 su27 rt17 s17 s27 s37 s47 s57 sc27 rt27 pl7 pa27 prt7 srt07 srt17 sv7 => ?_)
  clear ho6 by_6 rd26 rt06 su26 rt16 s16 s26 s36 s46 s56 sc26 rt26 pl6 pa26 prt6 srt06 sv6
  refine cs8_8 haz hz hal z7 o7 ho7 by_7 rd27 rt07 su27 rt17 s17 s27 s37 s47 s57 sc27 rt27 pl7 pa27 prt7 srt07 srt17 sv7 (fun H8 z8 o8 ho8 by_8 rd28 rt08 su28 rt18 s18 s28 s38 s48 s58 sc28 rt28 pl8 pa28 prt8 srt08 srt18 sv8 is8 => ?_)
  clear ho7 by_7 rd27 rt07 su27 rt17 s17 s27 s37 s47 s57 sc27 rt27 pl7 pa27 prt7 srt07 srt17 sv7
  refine cs8_9 haz hz hal z8 o8 ho8 by_8 rd28 rt08 su28 rt18 s18 s28 s38 s48 s58 sc28 rt28 pl8 pa28 prt8 srt08 srt18 sv8 is8 (fun H9 z9 o9 ho9 by_9 rd29 rt09 su29 rt19 s19 s29 s39 s49 s59 sc29 rt29 pl9 pa29 prt9 srt09 srt19 sv9 is9 sa9 sb29 => ?_)
  clear ho8 by_8 rd28 rt08 su28 rt18 s18 s28 s38 s48 s58 sc28 rt28 pl8 pa28 prt8 srt08 srt18 sv8 is8
  exact cs8_10 haz hz hal z9 o9 ho9 by_9 rd29 rt09 su29 rt19 s19 s29 s39 s49 s59 sc29 rt29 pl9 pa29 prt9 srt09 srt19 sv9 is9 sa9 sb29
end HCT4
