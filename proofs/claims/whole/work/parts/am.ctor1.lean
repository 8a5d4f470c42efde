/-! printed by wip/whole/h_ctor.py: constructors, the leaves -/
abbrev Y_X0_init : zY := (yX0_init, cX0_init, 1, none, 4, [])
theorem zw_218 : Cond.methodLink RX0 3 objectInit ∈ zAll := zin 218 (by decide +kernel) (by decide +kernel)
theorem zw_183 : Cond.arrayClass (newarray.typeOf .int) ∈ zAll := zin 183 (by decide +kernel) (by decide +kernel)
theorem hfp_X0_X0_11 : hFP RX0 11 4 0 true (.array .int) := ⟨RX0, TX0, 3, tyX0, ⟨rfl, by decide, zw_219, zws_X0⟩, tyX0_ok, nmX0, rfl, by decide +kernel, fun _ => rfl⟩
abbrev Y_X3_init : zY := (yX3_init, cX3_init, 1, none, 4, [])
theorem zw_203 : Cond.methodLink RX3 3 objectInit ∈ zAll := zin 203 (by decide +kernel) (by decide +kernel)
theorem hfp_X3_X3_11 : hFP RX3 11 7 0 true (.array .int) := ⟨RX3, TX3, 2, tyX3, ⟨rfl, by decide, zw_204, zws_X3⟩, tyX3_ok, nmX3, rfl, by decide +kernel, fun _ => rfl⟩
abbrev Y_X4_init : zY := (yX4_init, cX4_init, 1, none, 4, [])
theorem zw_153 : Cond.methodLink RX4 3 objectInit ∈ zAll := zin 153 (by decide +kernel) (by decide +kernel)
theorem hfp_X4_X4_9 : hFP RX4 9 8 0 true (.array .int) := ⟨RX4, TX4, 7, tyX4, ⟨rfl, by decide, zw_154, zws_X4⟩, tyX4_ok, nmX4, rfl, by decide +kernel, fun _ => rfl⟩
theorem hfp_X4_X4_15 : hFP RX4 15 8 6 false .int := ⟨RX4, TX4, 7, tyX4, ⟨rfl, by decide, zw_166, zws_X4⟩, tyX4_ok, nmX4, rfl, by decide +kernel, (fun h => by cases h)⟩
abbrev Y_X1_init : zY := (yX1_init, cX1_init, 1, none, 4, [])
theorem zw_234 : Cond.methodLink RX1 3 objectInit ∈ zAll := zin 234 (by decide +kernel) (by decide +kernel)
theorem hfp_X1_X1_11 : hFP RX1 11 5 0 false (.object "java/lang/String") := ⟨RX1, TX1, 11, tyX1, ⟨rfl, by decide, zw_236, zws_X1⟩, tyX1_ok, nmX1, rfl, by decide +kernel, (fun h => by cases h)⟩
theorem zw_293 : Cond.arrayClass (newarray.typeOf .long) ∈ zAll := zin 293 (by decide +kernel) (by decide +kernel)
theorem hfp_X1_X1_17 : hFP RX1 17 5 10 true (.array .long) := ⟨RX1, TX1, 11, tyX1, ⟨rfl, by decide, zw_266, zws_X1⟩, tyX1_ok, nmX1, rfl, by decide +kernel, fun _ => rfl⟩
abbrev Y_X6_init : zY := (yX6_init, cX6_init, 3, none, 4, [])
theorem zw_396 : Cond.methodLink RX6 3 objectInit ∈ zAll := zin 396 (by decide +kernel) (by decide +kernel)
theorem hfp_X6_X6_11 : hFP RX6 11 10 2 true (.array .int) := ⟨RX6, TX6, 10, tyX6, ⟨rfl, by decide, zw_399, zws_X6⟩, tyX6_ok, nmX6, rfl, by decide +kernel, fun _ => rfl⟩
theorem hfp_X6_X6_15 : hFP RX6 15 10 3 true (.array .int) := ⟨RX6, TX6, 10, tyX6, ⟨rfl, by decide, zw_400, zws_X6⟩, tyX6_ok, nmX6, rfl, by decide +kernel, fun _ => rfl⟩
theorem hfp_X6_X6_18 : hFP RX6 18 10 4 true (.array .int) := ⟨RX6, TX6, 10, tyX6, ⟨rfl, by decide, zw_401, zws_X6⟩, tyX6_ok, nmX6, rfl, by decide +kernel, fun _ => rfl⟩
theorem hfp_X6_X6_21 : hFP RX6 21 10 5 true (.array .int) := ⟨RX6, TX6, 10, tyX6, ⟨rfl, by decide, zw_402, zws_X6⟩, tyX6_ok, nmX6, rfl, by decide +kernel, fun _ => rfl⟩
theorem hfp_X6_X6_24 : hFP RX6 24 10 6 true (.array .int) := ⟨RX6, TX6, 10, tyX6, ⟨rfl, by decide, zw_403, zws_X6⟩, tyX6_ok, nmX6, rfl, by decide +kernel, fun _ => rfl⟩
theorem hfp_X6_X6_27 : hFP RX6 27 10 0 true (.object "EarlyDrops$Reader") := ⟨RX6, TX6, 10, tyX6, ⟨rfl, by decide, zw_397, zws_X6⟩, tyX6_ok, nmX6, rfl, by decide +kernel, fun _ => rfl⟩
theorem hfp_X6_X6_31 : hFP RX6 31 10 1 true (.object "EarlyDrops$Router") := ⟨RX6, TX6, 10, tyX6, ⟨rfl, by decide, zw_398, zws_X6⟩, tyX6_ok, nmX6, rfl, by decide +kernel, fun _ => rfl⟩
abbrev Y_J5_init_d00df : zY := (yJ5_init_d00df, cJ5_init_d00df, 2, none, 6, [])
theorem zw_456 : Cond.methodLink RJ5 3 objectInit ∈ zAll := zin 456 (by decide +kernel) (by decide +kernel)
theorem hfp_J5_J4_22 : hFP RJ5 22 1 1 false .byte := ⟨RJ4, TJ4, 4, tyJ4, ⟨rfl, by decide, zw_467, zws_J4⟩, tyJ4_ok, nmJ4, rfl, by decide +kernel, (fun h => by cases h)⟩
abbrev Y_J4_init_da8c8 : zY := (yJ4_init_da8c8, cJ4_init_da8c8, 1, none, 8, [])
theorem zw_453 : Cond.methodLink RJ4 1 yJ5_init_d00df ∈ zAll := zin 453 (by decide +kernel) (by decide +kernel)
theorem zw_455 : Cond.code yJ5_init_d00df cJ5_init_d00df 2 none ∈ zAll := zin 455 (by decide +kernel) (by decide +kernel)
theorem zw_454 : Cond.instanceMethod yJ5_init_d00df ∈ zAll := zin 454 (by decide +kernel) (by decide +kernel)
theorem hci_J4_init_da8c8_J5_init_d00df_1 : hLI Y_J4_init_da8c8 1 Y_J5_init_d00df 1 := ⟨zw_453, zw_454, zw_120, zw_455, rfl, rfl, by decide +kernel, by decide, by decide⟩
theorem dX0_init_0 : decode cX0_init 0 = .ok (.aload_n 0, 1) := by decide +kernel
theorem dX0_init_1 : decode cX0_init 1 = .ok (.invokespecial 3, 3) := by decide +kernel
theorem dX0_init_4 : decode cX0_init 4 = .ok (.aload_n 0, 1) := by decide +kernel
theorem dX0_init_5 : decode cX0_init 5 = .ok (.sipush 192, 3) := by decide +kernel
theorem dX0_init_8 : decode cX0_init 8 = .ok (.newarray .int, 2) := by decide +kernel
theorem dX0_init_10 : decode cX0_init 10 = .ok (.putfield 11, 3) := by decide +kernel
theorem dX0_init_13 : decode cX0_init 13 = .ok (.return_, 1) := by decide +kernel
theorem dX1_init_0 : decode cX1_init 0 = .ok (.aload_n 0, 1) := by decide +kernel
theorem dX1_init_1 : decode cX1_init 1 = .ok (.invokespecial 3, 3) := by decide +kernel
theorem dX1_init_4 : decode cX1_init 4 = .ok (.aload_n 0, 1) := by decide +kernel
theorem dX1_init_5 : decode cX1_init 5 = .ok (.ldc 9, 2) := by decide +kernel
theorem dX1_init_7 : decode cX1_init 7 = .ok (.putfield 11, 3) := by decide +kernel
theorem dX1_init_10 : decode cX1_init 10 = .ok (.aload_n 0, 1) := by decide +kernel
theorem dX1_init_11 : decode cX1_init 11 = .ok (.bipush 8, 2) := by decide +kernel
theorem dX1_init_13 : decode cX1_init 13 = .ok (.newarray .long, 2) := by decide +kernel
theorem dX1_init_15 : decode cX1_init 15 = .ok (.putfield 17, 3) := by decide +kernel
theorem dX1_init_18 : decode cX1_init 18 = .ok (.return_, 1) := by decide +kernel
theorem dX3_init_0 : decode cX3_init 0 = .ok (.aload_n 0, 1) := by decide +kernel
theorem dX3_init_1 : decode cX3_init 1 = .ok (.invokespecial 3, 3) := by decide +kernel
theorem dX3_init_4 : decode cX3_init 4 = .ok (.aload_n 0, 1) := by decide +kernel
theorem dX3_init_5 : decode cX3_init 5 = .ok (.bipush 120, 2) := by decide +kernel
theorem dX3_init_7 : decode cX3_init 7 = .ok (.newarray .int, 2) := by decide +kernel
theorem dX3_init_9 : decode cX3_init 9 = .ok (.putfield 11, 3) := by decide +kernel
theorem dX3_init_12 : decode cX3_init 12 = .ok (.return_, 1) := by decide +kernel
theorem dX4_init_0 : decode cX4_init 0 = .ok (.aload_n 0, 1) := by decide +kernel
theorem dX4_init_1 : decode cX4_init 1 = .ok (.invokespecial 3, 3) := by decide +kernel
theorem dX4_init_4 : decode cX4_init 4 = .ok (.aload_n 0, 1) := by decide +kernel
theorem dX4_init_5 : decode cX4_init 5 = .ok (.sipush 500, 3) := by decide +kernel
theorem dX4_init_8 : decode cX4_init 8 = .ok (.newarray .int, 2) := by decide +kernel
theorem dX4_init_10 : decode cX4_init 10 = .ok (.putfield 9, 3) := by decide +kernel
theorem dX4_init_13 : decode cX4_init 13 = .ok (.aload_n 0, 1) := by decide +kernel
theorem dX4_init_14 : decode cX4_init 14 = .ok (.iconst (-1), 1) := by decide +kernel
theorem dX4_init_15 : decode cX4_init 15 = .ok (.putfield 15, 3) := by decide +kernel
theorem dX4_init_18 : decode cX4_init 18 = .ok (.return_, 1) := by decide +kernel
theorem dX6_init_0 : decode cX6_init 0 = .ok (.aload_n 0, 1) := by decide +kernel
theorem dX6_init_1 : decode cX6_init 1 = .ok (.invokespecial 3, 3) := by decide +kernel
theorem dX6_init_4 : decode cX6_init 4 = .ok (.aload_n 0, 1) := by decide +kernel
theorem dX6_init_5 : decode cX6_init 5 = .ok (.bipush 60, 2) := by decide +kernel
theorem dX6_init_7 : decode cX6_init 7 = .ok (.newarray .int, 2) := by decide +kernel
theorem dX6_init_9 : decode cX6_init 9 = .ok (.putfield 11, 3) := by decide +kernel
theorem dX6_init_12 : decode cX6_init 12 = .ok (.aload_n 0, 1) := by decide +kernel
theorem dX6_init_13 : decode cX6_init 13 = .ok (.bipush 60, 2) := by decide +kernel
theorem dX6_init_15 : decode cX6_init 15 = .ok (.newarray .int, 2) := by decide +kernel
theorem dX6_init_17 : decode cX6_init 17 = .ok (.putfield 15, 3) := by decide +kernel
theorem dX6_init_20 : decode cX6_init 20 = .ok (.aload_n 0, 1) := by decide +kernel
theorem dX6_init_21 : decode cX6_init 21 = .ok (.bipush 60, 2) := by decide +kernel
theorem dX6_init_23 : decode cX6_init 23 = .ok (.newarray .int, 2) := by decide +kernel
theorem dX6_init_25 : decode cX6_init 25 = .ok (.putfield 18, 3) := by decide +kernel
theorem dX6_init_28 : decode cX6_init 28 = .ok (.aload_n 0, 1) := by decide +kernel
theorem dX6_init_29 : decode cX6_init 29 = .ok (.bipush 60, 2) := by decide +kernel
theorem dX6_init_31 : decode cX6_init 31 = .ok (.newarray .int, 2) := by decide +kernel
theorem dX6_init_33 : decode cX6_init 33 = .ok (.putfield 21, 3) := by decide +kernel
theorem dX6_init_36 : decode cX6_init 36 = .ok (.aload_n 0, 1) := by decide +kernel
theorem dX6_init_37 : decode cX6_init 37 = .ok (.iconst 2, 1) := by decide +kernel
theorem dX6_init_38 : decode cX6_init 38 = .ok (.newarray .int, 2) := by decide +kernel
theorem dX6_init_40 : decode cX6_init 40 = .ok (.putfield 24, 3) := by decide +kernel
theorem dX6_init_43 : decode cX6_init 43 = .ok (.aload_n 0, 1) := by decide +kernel
theorem dX6_init_44 : decode cX6_init 44 = .ok (.aload_n 1, 1) := by decide +kernel
theorem dX6_init_45 : decode cX6_init 45 = .ok (.putfield 27, 3) := by decide +kernel
theorem dX6_init_48 : decode cX6_init 48 = .ok (.aload_n 0, 1) := by decide +kernel
theorem dX6_init_49 : decode cX6_init 49 = .ok (.aload_n 2, 1) := by decide +kernel
theorem dX6_init_50 : decode cX6_init 50 = .ok (.putfield 31, 3) := by decide +kernel
theorem dX6_init_53 : decode cX6_init 53 = .ok (.return_, 1) := by decide +kernel
theorem dJ5_init_d00df_0 : decode cJ5_init_d00df 0 = .ok (.aload_n 0, 1) := by decide +kernel
theorem dJ5_init_d00df_1 : decode cJ5_init_d00df 1 = .ok (.invokespecial 3, 3) := by decide +kernel
theorem dJ5_init_d00df_4 : decode cJ5_init_d00df 4 = .ok (.getstatic 18, 3) := by decide +kernel
theorem dJ5_init_d00df_7 : decode cJ5_init_d00df 7 = .ok (.ifCond .eq 18, 3) := by decide +kernel
theorem dJ5_init_d00df_10 : decode cJ5_init_d00df 10 = .ok (.aload_n 0, 1) := by decide +kernel
theorem dJ5_init_d00df_11 : decode cJ5_init_d00df 11 = .ok (.iload_n 1, 1) := by decide +kernel
theorem dJ5_init_d00df_12 : decode cJ5_init_d00df 12 = .ok (.newarray .byte, 2) := by decide +kernel
theorem dJ5_init_d00df_14 : decode cJ5_init_d00df 14 = .ok (.putfield 15, 3) := by decide +kernel
theorem dJ5_init_d00df_17 : decode cJ5_init_d00df 17 = .ok (.aload_n 0, 1) := by decide +kernel
theorem dJ5_init_d00df_18 : decode cJ5_init_d00df 18 = .ok (.iconst 0, 1) := by decide +kernel
theorem dJ5_init_d00df_19 : decode cJ5_init_d00df 19 = .ok (.putfield 22, 3) := by decide +kernel
theorem dJ5_init_d00df_22 : decode cJ5_init_d00df 22 = .ok (.goto 16, 3) := by decide +kernel
theorem dJ5_init_d00df_25 : decode cJ5_init_d00df 25 = .ok (.aload_n 0, 1) := by decide +kernel
theorem dJ5_init_d00df_26 : decode cJ5_init_d00df 26 = .ok (.iload_n 1, 1) := by decide +kernel
theorem dJ5_init_d00df_27 : decode cJ5_init_d00df 27 = .ok (.invokestatic 26, 3) := by decide +kernel
theorem dJ5_init_d00df_30 : decode cJ5_init_d00df 30 = .ok (.putfield 15, 3) := by decide +kernel
theorem dJ5_init_d00df_33 : decode cJ5_init_d00df 33 = .ok (.aload_n 0, 1) := by decide +kernel
theorem dJ5_init_d00df_34 : decode cJ5_init_d00df 34 = .ok (.iconst 1, 1) := by decide +kernel
theorem dJ5_init_d00df_35 : decode cJ5_init_d00df 35 = .ok (.putfield 22, 3) := by decide +kernel
theorem dJ5_init_d00df_38 : decode cJ5_init_d00df 38 = .ok (.return_, 1) := by decide +kernel
theorem dJ4_init_da8c8_0 : decode cJ4_init_da8c8 0 = .ok (.aload_n 0, 1) := by decide +kernel
theorem dJ4_init_da8c8_1 : decode cJ4_init_da8c8 1 = .ok (.bipush 16, 2) := by decide +kernel
theorem dJ4_init_da8c8_3 : decode cJ4_init_da8c8 3 = .ok (.invokespecial 1, 3) := by decide +kernel
theorem dJ4_init_da8c8_6 : decode cJ4_init_da8c8 6 = .ok (.return_, 1) := by decide +kernel
section HCT
variable {l : Launch} {G : zG} {H : Heap}
theorem ct_X0 {a : Nat} (ho : hO G H a 4 (vp_V [Value.null, Value.int 0, Value.int 0])) (haz : zfr G a) (hz : gz G ≤ H.size ∧ ga G 50 0 < H.size ∧ ga G 51 0 < H.size) : hCal l G Y_X0_init 1 192 [Value.ref a] H (fun r H1 => r = none ∧ H1.size = H.size + 1 ∧ (∀ q, q < H.size → q ≠ a → H1[q]? = H[q]?) ∧ hA G H1 H.size 0 192 (.inl (fun _ => 0)) ∧ hO G H1 a 4 (vp_V [Value.ref H.size, Value.int 0, Value.int 0])) := by
  refine hCal_of (by decide) rfl (zle rfl) rfl ?_
  have hE : ∀ {mc ms : Nat} {K : hK}, zRm Y_X0_init (hEM G Y_X0_init mc ms K).1 := zRm_M
  have hal := ho.lt
  refine H_aload_n dX0_init_0 rfl 0 rfl ?_
  refine H_objInit zw_218 zw_146 zw_147 hE (by decide) (zle rfl) dX0_init_1 ?_
  refine H_aload_n dX0_init_4 rfl 0 rfl ?_
  refine H_sipush (v := 192) rfl dX0_init_5 ?_
  refine H_newa (at_ := .int) (t := 0) (n := 192) (z := .inl (fun _ => 0)) (by decide) rfl zw_183 rfl (fun _ => rfl) (by decide) (by show 1 ≤ 1; omega) (by show 192 ≤ 192; omega) dX0_init_8 (fun H1 z1 o1 f1 => ?_)
  have z1 : H1.size = H.size + 1 := by omega
  replace ho := ho.kept (o1 a (by omega))
  refine H_putV (fs2 := [Value.ref H.size, Value.int 0, Value.int 0]) hfp_X0_X0_11 (fun _ => rfl) ho rfl (zle rfl) rfl rfl (by omega) dX0_init_10 (fun H2 z2 o2 hoN => ?_)
  have z2 : H2.size = H.size + 1 := by omega
  replace f1 := (o2 H.size (by omega)).trans f1
  have ho := hoN
  exact H_vret rfl dX0_init_13 (by show 1 ≤ 1; omega) (by show 192 ≤ 192; omega) ⟨rfl, z2, fun q hq hqa => ((o2 q (by omega)).trans (o1 q (by omega))), f1, ho⟩
theorem ct_X3 {a : Nat} (ho : hO G H a 7 (vp_V [Value.null, Value.int 0])) (haz : zfr G a) (hz : gz G ≤ H.size ∧ ga G 50 0 < H.size ∧ ga G 51 0 < H.size) : hCal l G Y_X3_init 1 120 [Value.ref a] H (fun r H1 => r = none ∧ H1.size = H.size + 1 ∧ (∀ q, q < H.size → q ≠ a → H1[q]? = H[q]?) ∧ hA G H1 H.size 0 120 (.inl (fun _ => 0)) ∧ hO G H1 a 7 (vp_V [Value.ref H.size, Value.int 0])) := by
  refine hCal_of (by decide) rfl (zle rfl) rfl ?_
  have hE : ∀ {mc ms : Nat} {K : hK}, zRm Y_X3_init (hEM G Y_X3_init mc ms K).1 := zRm_M
  have hal := ho.lt
  refine H_aload_n dX3_init_0 rfl 0 rfl ?_
  refine H_objInit zw_203 zw_146 zw_147 hE (by decide) (zle rfl) dX3_init_1 ?_
  refine H_aload_n dX3_init_4 rfl 0 rfl ?_
  refine H_bipush (v := 120) rfl dX3_init_5 ?_
  refine H_newa (at_ := .int) (t := 0) (n := 120) (z := .inl (fun _ => 0)) (by decide) rfl zw_183 rfl (fun _ => rfl) (by decide) (by show 1 ≤ 1; omega) (by show 120 ≤ 120; omega) dX3_init_7 (fun H1 z1 o1 f1 => ?_)
  have z1 : H1.size = H.size + 1 := by omega
  replace ho := ho.kept (o1 a (by omega))
  refine H_putV (fs2 := [Value.ref H.size, Value.int 0]) hfp_X3_X3_11 (fun _ => rfl) ho rfl (zle rfl) rfl rfl (by omega) dX3_init_9 (fun H2 z2 o2 hoN => ?_)
  have z2 : H2.size = H.size + 1 := by omega
  replace f1 := (o2 H.size (by omega)).trans f1
  have ho := hoN
  exact H_vret rfl dX3_init_12 (by show 1 ≤ 1; omega) (by show 120 ≤ 120; omega) ⟨rfl, z2, fun q hq hqa => ((o2 q (by omega)).trans (o1 q (by omega))), f1, ho⟩
theorem ct_X4 {a : Nat} (ho : hO G H a 8 (vp_V [Value.null, Value.int 0, Value.int 0, Value.int 0, Value.int 0, Value.int 0, Value.int 0])) (haz : zfr G a) (hz : gz G ≤ H.size ∧ ga G 50 0 < H.size ∧ ga G 51 0 < H.size) : hCal l G Y_X4_init 1 500 [Value.ref a] H (fun r H1 => r = none ∧ H1.size = H.size + 1 ∧ (∀ q, q < H.size → q ≠ a → H1[q]? = H[q]?) ∧ hA G H1 H.size 0 500 (.inl (fun _ => 0)) ∧ hO G H1 a 8 (vp_V [Value.ref H.size, Value.int 0, Value.int 0, Value.int 0, Value.int 0, Value.int 0, Value.int (-1)])) := by
  refine hCal_of (by decide) rfl (zle rfl) rfl ?_
  have hE : ∀ {mc ms : Nat} {K : hK}, zRm Y_X4_init (hEM G Y_X4_init mc ms K).1 := zRm_M
  have hal := ho.lt
  refine H_aload_n dX4_init_0 rfl 0 rfl ?_
  refine H_objInit zw_153 zw_146 zw_147 hE (by decide) (zle rfl) dX4_init_1 ?_
  refine H_aload_n dX4_init_4 rfl 0 rfl ?_
  refine H_sipush (v := 500) rfl dX4_init_5 ?_
  refine H_newa (at_ := .int) (t := 0) (n := 500) (z := .inl (fun _ => 0)) (by decide) rfl zw_183 rfl (fun _ => rfl) (by decide) (by show 1 ≤ 1; omega) (by show 500 ≤ 500; omega) dX4_init_8 (fun H1 z1 o1 f1 => ?_)
  have z1 : H1.size = H.size + 1 := by omega
  replace ho := ho.kept (o1 a (by omega))
  refine H_putV (fs2 := [Value.ref H.size, Value.int 0, Value.int 0, Value.int 0, Value.int 0, Value.int 0, Value.int 0]) hfp_X4_X4_9 (fun _ => rfl) ho rfl (zle rfl) rfl rfl (by omega) dX4_init_10 (fun H2 z2 o2 hoN => ?_)
  have z2 : H2.size = H.size + 1 := by omega
  replace f1 := (o2 H.size (by omega)).trans f1
  have ho := hoN
  refine H_aload_n dX4_init_13 rfl 0 rfl ?_
  refine H_iconst (v := (-1)) rfl dX4_init_14 ?_
  refine H_putV (fs2 := [Value.ref H.size, Value.int 0, Value.int 0, Value.int 0, Value.int 0, Value.int 0, Value.int (-1)]) hfp_X4_X4_15 (fun h => by cases h) ho rfl (zle rfl) rfl rfl (by omega) dX4_init_15 (fun H3 z3 o3 hoN => ?_)
  have z3 : H3.size = H.size + 1 := by omega
  replace f1 := (o3 H.size (by omega)).trans f1
  have ho := hoN
  exact H_vret rfl dX4_init_18 (by show 1 ≤ 1; omega) (by show 500 ≤ 500; omega) ⟨rfl, z3, fun q hq hqa => ((o3 q (by omega)).trans ((o2 q (by omega)).trans (o1 q (by omega)))), f1, ho⟩
theorem ct_X1 {a : Nat} (ho : hO G H a 5 (vp_V [Value.null, Value.int 0, Value.int 0, Value.int 0, Value.int 0, Value.int 0, Value.int 0, Value.int 0, Value.int 0, Value.int 0, Value.null])) (haz : zfr G a) (hz : gz G ≤ H.size ∧ ga G 50 0 < H.size ∧ ga G 51 0 < H.size) : hCal l G Y_X1_init 1 8 [Value.ref a] H (fun r H1 => r = none ∧ H1.size = H.size + 1 ∧ (∀ q, q < H.size → q ≠ a → H1[q]? = H[q]?) ∧ hA G H1 H.size 1 8 (.inr (.inl (fun _ => 0))) ∧ hO G H1 a 5 (vp_V [Value.ref (gl G RX1 9), Value.int 0, Value.int 0, Value.int 0, Value.int 0, Value.int 0, Value.int 0, Value.int 0, Value.int 0, Value.int 0, Value.ref H.size])) := by
  refine hCal_of (by decide) rfl (zle rfl) rfl ?_
  have hE : ∀ {mc ms : Nat} {K : hK}, zRm Y_X1_init (hEM G Y_X1_init mc ms K).1 := zRm_M
  have hal := ho.lt
  refine H_aload_n dX1_init_0 rfl 0 rfl ?_
  refine H_objInit zw_234 zw_146 zw_147 hE (by decide) (zle rfl) dX1_init_1 ?_
  refine H_aload_n dX1_init_4 rfl 0 rfl ?_
  refine H_ldcS (idx := 9) (tx := "") (by decide) dX1_init_5 ?_
  refine H_putV (fs2 := [Value.ref (gl G RX1 9), Value.int 0, Value.int 0, Value.int 0, Value.int 0, Value.int 0, Value.int 0, Value.int 0, Value.int 0, Value.int 0, Value.null]) hfp_X1_X1_11 (fun h => by cases h) ho rfl (zle rfl) rfl rfl (by omega) dX1_init_7 (fun H1 z1 o1 hoN => ?_)
  have z1 : H1.size = H.size + 0 := by omega
  have ho := hoN
  refine H_aload_n dX1_init_10 rfl 0 rfl ?_
  refine H_bipush (v := 8) rfl dX1_init_11 ?_
  refine H_newa (at_ := .long) (t := 1) (n := 8) (z := .inr (.inl (fun _ => 0))) (by decide) rfl zw_293 rfl (fun _ => rfl) (by decide) (by show 1 ≤ 1; omega) (by show 8 ≤ 8; omega) dX1_init_13 (fun H2 z2 o2 f1 => ?_)
  rw [z1] at z2 o2 f1 ⊢
  have z2 : H2.size = H.size + 1 := by omega
  replace ho := ho.kept (o2 a (by omega))
  refine H_putV (fs2 := [Value.ref (gl G RX1 9), Value.int 0, Value.int 0, Value.int 0, Value.int 0, Value.int 0, Value.int 0, Value.int 0, Value.int 0, Value.int 0, Value.ref H.size]) hfp_X1_X1_17 (fun _ => rfl) ho rfl (zle rfl) rfl rfl (by omega) dX1_init_15 (fun H3 z3 o3 hoN => ?_)
  have z3 : H3.size = H.size + 1 := by omega
  replace f1 := (o3 H.size (by omega)).trans f1
  have ho := hoN
  exact H_vret rfl dX1_init_18 (by show 1 ≤ 1; omega) (by show 8 ≤ 8; omega) ⟨rfl, z3, fun q hq hqa => ((o3 q (by omega)).trans ((o2 q (by omega)).trans (o1 q (by omega)))), f1, ho⟩
theorem ct_X6 {a x y : Nat} (ho : hO G H a 10 (vp_V [Value.null, Value.null, Value.null, Value.null, Value.null, Value.null, Value.null, Value.int 0, Value.int 0, Value.int 0])) (haz : zfr G a) (hz : gz G ≤ H.size ∧ ga G 50 0 < H.size ∧ ga G 51 0 < H.size) : hCal l G Y_X6_init 5 242 [Value.ref a, Value.ref x, Value.ref y] H (fun r H1 => r = none ∧ H1.size = H.size + 5 ∧ (∀ q, q < H.size → q ≠ a → H1[q]? = H[q]?) ∧ hA G H1 H.size 0 60 (.inl (fun _ => 0)) ∧ hA G H1 (H.size + 1) 0 60 (.inl (fun _ => 0)) ∧ hA G H1 (H.size + 2) 0 60 (.inl (fun _ => 0)) ∧ hA G H1 (H.size + 3) 0 60 (.inl (fun _ => 0)) ∧ hA G H1 (H.size + 4) 0 2 (.inl (fun _ => 0)) ∧ hO G H1 a 10 (vp_V [Value.ref x, Value.ref y, Value.ref H.size, Value.ref (H.size + 1), Value.ref (H.size + 2), Value.ref (H.size + 3), Value.ref (H.size + 4), Value.int 0, Value.int 0, Value.int 0])) := by
  refine hCal_of (by decide) rfl (zle rfl) rfl ?_
  have hE : ∀ {mc ms : Nat} {K : hK}, zRm Y_X6_init (hEM G Y_X6_init mc ms K).1 := zRm_M
  have hal := ho.lt
  refine H_aload_n dX6_init_0 rfl 0 rfl ?_
  refine H_objInit zw_396 zw_146 zw_147 hE (by decide) (zle rfl) dX6_init_1 ?_
  refine H_aload_n dX6_init_4 rfl 0 rfl ?_
  refine H_bipush (v := 60) rfl dX6_init_5 ?_
  refine H_newa (at_ := .int) (t := 0) (n := 60) (z := .inl (fun _ => 0)) (by decide) rfl zw_183 rfl (fun _ => rfl) (by decide) (by show 1 ≤ 5; omega) (by show 60 ≤ 242; omega) dX6_init_7 (fun H1 z1 o1 f1 => ?_)
  have z1 : H1.size = H.size + 1 := by omega
  replace ho := ho.kept (o1 a (by omega))
  refine H_putV (fs2 := [Value.null, Value.null, Value.ref H.size, Value.null, Value.null, Value.null, Value.null, Value.int 0, Value.int 0, Value.int 0]) hfp_X6_X6_11 (fun _ => rfl) ho rfl (zle rfl) rfl rfl (by omega) dX6_init_9 (fun H2 z2 o2 hoN => ?_)
  have z2 : H2.size = H.size + 1 := by omega
  replace f1 := (o2 H.size (by omega)).trans f1
  have ho := hoN
  refine H_aload_n dX6_init_12 rfl 0 rfl ?_
  refine H_bipush (v := 60) rfl dX6_init_13 ?_
  refine H_newa (at_ := .int) (t := 0) (n := 60) (z := .inl (fun _ => 0)) (by decide) rfl zw_183 rfl (fun _ => rfl) (by decide) (by show 2 ≤ 5; omega) (by show 120 ≤ 242; omega) dX6_init_15 (fun H3 z3 o3 f2 => ?_)
  rw [z2] at z3 o3 f2 ⊢
  have z3 : H3.size = H.size + 2 := by omega
  replace ho := ho.kept (o3 a (by omega))
  replace f1 := (o3 H.size (by omega)).trans f1
  refine H_putV (fs2 := [Value.null, Value.null, Value.ref H.size, Value.ref (H.size + 1), Value.null, Value.null, Value.null, Value.int 0, Value.int 0, Value.int 0]) hfp_X6_X6_15 (fun _ => rfl) ho rfl (zle rfl) rfl rfl (by omega) dX6_init_17 (fun H4 z4 o4 hoN => ?_)
  have z4 : H4.size = H.size + 2 := by omega
  replace f1 := (o4 H.size (by omega)).trans f1
  replace f2 := (o4 (H.size + 1) (by omega)).trans f2
  have ho := hoN
  refine H_aload_n dX6_init_20 rfl 0 rfl ?_
  refine H_bipush (v := 60) rfl dX6_init_21 ?_
  refine H_newa (at_ := .int) (t := 0) (n := 60) (z := .inl (fun _ => 0)) (by decide) rfl zw_183 rfl (fun _ => rfl) (by decide) (by show 3 ≤ 5; omega) (by show 180 ≤ 242; omega) dX6_init_23 (fun H5 z5 o5 f3 => ?_)
  rw [z4] at z5 o5 f3 ⊢
  have z5 : H5.size = H.size + 3 := by omega
  replace ho := ho.kept (o5 a (by omega))
  replace f1 := (o5 H.size (by omega)).trans f1
  replace f2 := (o5 (H.size + 1) (by omega)).trans f2
  refine H_putV (fs2 := [Value.null, Value.null, Value.ref H.size, Value.ref (H.size + 1), Value.ref (H.size + 2), Value.null, Value.null, Value.int 0, Value.int 0, Value.int 0]) hfp_X6_X6_18 (fun _ => rfl) ho rfl (zle rfl) rfl rfl (by omega) dX6_init_25 (fun H6 z6 o6 hoN => ?_)
  have z6 : H6.size = H.size + 3 := by omega
  replace f1 := (o6 H.size (by omega)).trans f1
  replace f2 := (o6 (H.size + 1) (by omega)).trans f2
  replace f3 := (o6 (H.size + 2) (by omega)).trans f3
  have ho := hoN
  refine H_aload_n dX6_init_28 rfl 0 rfl ?_
  refine H_bipush (v := 60) rfl dX6_init_29 ?_
  refine H_newa (at_ := .int) (t := 0) (n := 60) (z := .inl (fun _ => 0)) (by decide) rfl zw_183 rfl (fun _ => rfl) (by decide) (by show 4 ≤ 5; omega) (by show 240 ≤ 242; omega) dX6_init_31 (fun H7 z7 o7 f4 => ?_)
  rw [z6] at z7 o7 f4 ⊢
  have z7 : H7.size = H.size + 4 := by omega
  replace ho := ho.kept (o7 a (by omega))
  replace f1 := (o7 H.size (by omega)).trans f1
  replace f2 := (o7 (H.size + 1) (by omega)).trans f2
  replace f3 := (o7 (H.size + 2) (by omega)).trans f3
  refine H_putV (fs2 := [Value.null, Value.null, Value.ref H.size, Value.ref (H.size + 1), Value.ref (H.size + 2), Value.ref (H.size + 3), Value.null, Value.int 0, Value.int 0, Value.int 0]) hfp_X6_X6_21 (fun _ => rfl) ho rfl (zle rfl) rfl rfl (by omega) dX6_init_33 (fun H8 z8 o8 hoN => ?_)
  have z8 : H8.size = H.size + 4 := by omega
  replace f1 := (o8 H.size (by omega)).trans f1
  replace f2 := (o8 (H.size + 1) (by omega)).trans f2
  replace f3 := (o8 (H.size + 2) (by omega)).trans f3
  replace f4 := (o8 (H.size + 3) (by omega)).trans f4
  have ho := hoN
  refine H_aload_n dX6_init_36 rfl 0 rfl ?_
  refine H_iconst (v := 2) rfl dX6_init_37 ?_
  refine H_newa (at_ := .int) (t := 0) (n := 2) (z := .inl (fun _ => 0)) (by decide) rfl zw_183 rfl (fun _ => rfl) (by decide) (by show 5 ≤ 5; omega) (by show 242 ≤ 242; omega) dX6_init_38 (fun H9 z9 o9 f5 => ?_)
  rw [z8] at z9 o9 f5 ⊢
  have z9 : H9.size = H.size + 5 := by omega
  replace ho := ho.kept (o9 a (by omega))
  replace f1 := (o9 H.size (by omega)).trans f1
  replace f2 := (o9 (H.size + 1) (by omega)).trans f2
  replace f3 := (o9 (H.size + 2) (by omega)).trans f3
  replace f4 := (o9 (H.size + 3) (by omega)).trans f4
  refine H_putV (fs2 := [Value.null, Value.null, Value.ref H.size, Value.ref (H.size + 1), Value.ref (H.size + 2), Value.ref (H.size + 3), Value.ref (H.size + 4), Value.int 0, Value.int 0, Value.int 0]) hfp_X6_X6_24 (fun _ => rfl) ho rfl (zle rfl) rfl rfl (by omega) dX6_init_40 (fun H10 z10 o10 hoN => ?_)
  have z10 : H10.size = H.size + 5 := by omega
  replace f1 := (o10 H.size (by omega)).trans f1
  replace f2 := (o10 (H.size + 1) (by omega)).trans f2
  replace f3 := (o10 (H.size + 2) (by omega)).trans f3
  replace f4 := (o10 (H.size + 3) (by omega)).trans f4
  replace f5 := (o10 (H.size + 4) (by omega)).trans f5
  have ho := hoN
  refine H_aload_n dX6_init_43 rfl 0 rfl ?_
  refine H_aload_n dX6_init_44 rfl 1 rfl ?_
  refine H_putV (fs2 := [Value.ref x, Value.null, Value.ref H.size, Value.ref (H.size + 1), Value.ref (H.size + 2), Value.ref (H.size + 3), Value.ref (H.size + 4), Value.int 0, Value.int 0, Value.int 0]) hfp_X6_X6_27 (fun _ => rfl) ho rfl (zle rfl) rfl rfl (by omega) dX6_init_45 (fun H11 z11 o11 hoN => ?_)
  have z11 : H11.size = H.size + 5 := by omega
  replace f1 := (o11 H.size (by omega)).trans f1
  replace f2 := (o11 (H.size + 1) (by omega)).trans f2
  replace f3 := (o11 (H.size + 2) (by omega)).trans f3
  replace f4 := (o11 (H.size + 3) (by omega)).trans f4
  replace f5 := (o11 (H.size + 4) (by omega)).trans f5
  have ho := hoN
  refine H_aload_n dX6_init_48 rfl 0 rfl ?_
  refine H_aload_n dX6_init_49 rfl 2 rfl ?_
  refine H_putV (fs2 := [Value.ref x, Value.ref y, Value.ref H.size, Value.ref (H.size + 1), Value.ref (H.size + 2), Value.ref (H.size + 3), Value.ref (H.size + 4), Value.int 0, Value.int 0, Value.int 0]) hfp_X6_X6_31 (fun _ => rfl) ho rfl (zle rfl) rfl rfl (by omega) dX6_init_50 (fun H12 z12 o12 hoN => ?_)
  have z12 : H12.size = H.size + 5 := by omega
  replace f1 := (o12 H.size (by omega)).trans f1
  replace f2 := (o12 (H.size + 1) (by omega)).trans f2
  replace f3 := (o12 (H.size + 2) (by omega)).trans f3
  replace f4 := (o12 (H.size + 3) (by omega)).trans f4
  replace f5 := (o12 (H.size + 4) (by omega)).trans f5
  have ho := hoN
  exact H_vret rfl dX6_init_53 (by show 5 ≤ 5; omega) (by show 242 ≤ 242; omega) ⟨rfl, z12, fun q hq hqa => ((o12 q (by omega)).trans ((o11 q (by omega)).trans ((o10 q (by omega)).trans ((o9 q (by omega)).trans ((o8 q (by omega)).trans ((o7 q (by omega)).trans ((o6 q (by omega)).trans ((o5 q (by omega)).trans ((o4 q (by omega)).trans ((o3 q (by omega)).trans ((o2 q (by omega)).trans (o1 q (by omega))))))))))))), f1, f2, f3, f4, f5, ho⟩
theorem ct_J5 {a : Nat} (ho : hO G H a 1 (vp_V [Value.null, Value.int 0, Value.int 0, Value.int 0])) (haz : zfr G a) (hz : gz G ≤ H.size ∧ ga G 50 0 < H.size ∧ ga G 51 0 < H.size) : hCal l G Y_J5_init_d00df 1 16 [Value.ref a, Value.int 16] H (fun r H1 => r = none ∧ H1.size = H.size + 1 ∧ (∀ q, q < H.size → q ≠ a → H1[q]? = H[q]?) ∧ hA G H1 H.size 4 16 (.inl (fun _ => 0)) ∧ hO G H1 a 1 (vp_V [Value.ref H.size, Value.int 0, Value.int 0, Value.int 0])) := by
  refine hCal_of (by decide) rfl (zle rfl) rfl ?_
  have hE : ∀ {mc ms : Nat} {K : hK}, zRm Y_J5_init_d00df (hEM G Y_J5_init_d00df mc ms K).1 := zRm_M
  have hal := ho.lt
  refine H_aload_n dJ5_init_d00df_0 rfl 0 rfl ?_
  refine H_objInit zw_456 zw_146 zw_147 hE (by decide) (zle rfl) dJ5_init_d00df_1 ?_
  refine H_gets (own := RJ5) zw_457 (fun U h => h.1) dJ5_init_d00df_4 ?_
  refine H_if_eq (tgt := 25) dJ5_init_d00df_7 rfl (fun q9 => absurd q9 (by decide)) (fun _ => ?_)
  refine H_aload_n dJ5_init_d00df_10 rfl 0 rfl ?_
  refine H_iload_n dJ5_init_d00df_11 rfl 1 rfl ?_
  refine H_newa (at_ := .byte) (t := 4) (n := 16) (z := .inl (fun _ => 0)) (by decide) rfl zw_292 rfl (fun _ => rfl) (by decide) (by show 1 ≤ 1; omega) (by show 16 ≤ 16; omega) dJ5_init_d00df_12 (fun H1 z1 o1 f1 => ?_)
  have z1 : H1.size = H.size + 1 := by omega
  replace ho := ho.kept (o1 a (by omega))
  refine H_putV (fs2 := [Value.ref H.size, Value.int 0, Value.int 0, Value.int 0]) hfp_J5_J4_15 (fun h => by cases h) ho rfl (zle rfl) rfl rfl (by omega) dJ5_init_d00df_14 (fun H2 z2 o2 hoN => ?_)
  have z2 : H2.size = H.size + 1 := by omega
  replace f1 := (o2 H.size (by omega)).trans f1
  have ho := hoN
  refine H_aload_n dJ5_init_d00df_17 rfl 0 rfl ?_
  refine H_iconst (v := 0) rfl dJ5_init_d00df_18 ?_
  refine H_putV (fs2 := [Value.ref H.size, Value.int 0, Value.int 0, Value.int 0]) hfp_J5_J4_22 (fun h => by cases h) ho rfl (zle rfl) rfl rfl (by omega) dJ5_init_d00df_19 (fun H3 z3 o3 hoN => ?_)
  have z3 : H3.size = H.size + 1 := by omega
  replace f1 := (o3 H.size (by omega)).trans f1
  have ho := hoN
  refine H_goto (tgt := 38) dJ5_init_d00df_22 rfl ?_
  exact H_vret rfl dJ5_init_d00df_38 (by show 1 ≤ 1; omega) (by show 16 ≤ 16; omega) ⟨rfl, z3, fun q hq hqa => ((o3 q (by omega)).trans ((o2 q (by omega)).trans (o1 q (by omega)))), f1, ho⟩
theorem ct_J4 {a : Nat} (ho : hO G H a 1 (vp_V [Value.null, Value.int 0, Value.int 0, Value.int 0])) (haz : zfr G a) (hz : gz G ≤ H.size ∧ ga G 50 0 < H.size ∧ ga G 51 0 < H.size) : hCal l G Y_J4_init_da8c8 1 16 [Value.ref a] H (fun r H1 => r = none ∧ H1.size = H.size + 1 ∧ (∀ q, q < H.size → q ≠ a → H1[q]? = H[q]?) ∧ hA G H1 H.size 4 16 (.inl (fun _ => 0)) ∧ hO G H1 a 1 (vp_V [Value.ref H.size, Value.int 0, Value.int 0, Value.int 0])) := by
  refine hCal_of (by decide) rfl (zle rfl) rfl ?_
  have hE : ∀ {mc ms : Nat} {K : hK}, zRm Y_J4_init_da8c8 (hEM G Y_J4_init_da8c8 mc ms K).1 := zRm_M
  have hal := ho.lt
  refine H_aload_n dJ4_init_da8c8_0 rfl 0 rfl ?_
  refine H_bipush (v := 16) rfl dJ4_init_da8c8_1 ?_
  refine H_callI (as := [Value.int 16]) (st := []) (mc' := 1) (ms' := 16) hE hci_J4_init_da8c8_J5_init_d00df_1 rfl rfl (zle rfl) dJ4_init_da8c8_3 ⟨by show 1 ≤ 1; omega, by show 16 ≤ 16; omega⟩ (ct_J5 ho haz hz) (fun r1 H1 q1 => ?_)
  obtain ⟨rfl, z1, o1, f1, ho1⟩ := q1
  have z1 : H1.size = H.size + 1 := by omega
  exact H_vret rfl dJ4_init_da8c8_6 (by show 1 ≤ 1; omega) (by show 16 ≤ 16; omega) ⟨rfl, z1, fun q hq hqa => o1 q hq hqa, f1, ho1⟩
end HCT
