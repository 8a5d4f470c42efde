/-! printed by wip/whole/drive.py -/
abbrev Y_X0_cell : zY := (yX0_cell, cX0_cell, 4, (some .int), 2, [])
theorem zw_222 : Cond.fieldLink RX0 19 "EarlyDrops$Decisions" "latest" "I" ∈ zAll := zin 222 (by decide +kernel) (by decide +kernel)
theorem zws_X0 : ∀ w ∈ u_ws RX0 TX0 3, w ∈ zAll := fun w hw => List.mem_filter.mpr (goodIn_r (big := lw_tbl) _ [223, 225, 227] (by decide +kernel) (by decide +kernel) w hw |>.imp_right (fun _ => List.all_eq_true.mp (show (u_ws RX0 TX0 3).all goodWord = true by decide +kernel) w hw))
theorem zfl_X0_19 : zFL RX0 19 21 2 0 := ⟨4, RX0, TX0, 3, rfl, rfl, by decide, rfl, zw_222, zws_X0⟩
theorem zw_219 : Cond.fieldLink RX0 11 "EarlyDrops$Decisions" "cells" "[I" ∈ zAll := zin 219 (by decide +kernel) (by decide +kernel)
theorem zfl_X0_11 : zFL RX0 11 21 0 1 := ⟨4, RX0, TX0, 3, rfl, rfl, by decide, rfl, zw_219, zws_X0⟩
abbrev Y_X0_close : zY := (yX0_close, cX0_close, 6, none, 2, [])
abbrev Y_X0_forget : zY := (yX0_forget, cX0_forget, 1, none, 2, [])
theorem zw_220 : Cond.fieldLink RX0 15 "EarlyDrops$Decisions" "kept" "I" ∈ zAll := zin 220 (by decide +kernel) (by decide +kernel)
theorem zfp_X0_15 : zFP RX0 15 21 1 0 .int := ⟨4, RX0, TX0, 3, tyX0, ⟨rfl, rfl, by decide, rfl, zw_220, zws_X0⟩, tyX0_ok, nmX0, rfl, by decide +kernel⟩
theorem zfp_X0_19 : zFP RX0 19 21 2 0 .int := ⟨4, RX0, TX0, 3, tyX0, ⟨rfl, rfl, by decide, rfl, zw_222, zws_X0⟩, tyX0_ok, nmX0, rfl, by decide +kernel⟩
abbrev Y_X1_countArrival : zY := (yX1_countArrival, cX1_countArrival, 3, none, 2, [])
theorem zw_266 : Cond.fieldLink RX1 17 "EarlyDrops$Flow" "accounts" "[J" ∈ zAll := zin 266 (by decide +kernel) (by decide +kernel)
theorem zws_X1 : ∀ w ∈ u_ws RX1 TX1 11, w ∈ zAll := fun w hw => List.mem_filter.mpr (goodIn_r (big := lw_tbl) _ [269, 271, 273, 275, 277, 279, 281, 283, 285, 287, 289] (by decide +kernel) (by decide +kernel) w hw |>.imp_right (fun _ => List.all_eq_true.mp (show (u_ws RX1 TX1 11).all goodWord = true by decide +kernel) w hw))
theorem zfl_X1_17 : zFL RX1 17 17 10 1 := ⟨5, RX1, TX1, 11, rfl, rfl, by decide, rfl, zw_266, zws_X1⟩
theorem zw_262 : Cond.fieldLink RX1 32 "EarlyDrops$Flow" "told" "Z" ∈ zAll := zin 262 (by decide +kernel) (by decide +kernel)
theorem zfl_X1_32 : zFL RX1 32 17 8 0 := ⟨5, RX1, TX1, 11, rfl, rfl, by decide, rfl, zw_262, zws_X1⟩
theorem zfp_X1_32 : zFP RX1 32 17 8 0 .boolean := ⟨5, RX1, TX1, 11, tyX1, ⟨rfl, rfl, by decide, rfl, zw_262, zws_X1⟩, tyX1_ok, nmX1, rfl, by decide +kernel⟩
abbrev Y_X1_countLeaving : zY := (yX1_countLeaving, cX1_countLeaving, 3, none, 2, [])
abbrev Y_X1_drops : zY := (yX1_drops, cX1_drops, 1, (some .long), 2, [])
abbrev Y_X1_sendsAt : zY := (yX1_sendsAt, cX1_sendsAt, 2, (some .boolean), 2, [])
theorem zw_256 : Cond.fieldLink RX1 21 "EarlyDrops$Flow" "on" "Z" ∈ zAll := zin 256 (by decide +kernel) (by decide +kernel)
theorem zfl_X1_21 : zFL RX1 21 17 6 0 := ⟨5, RX1, TX1, 11, rfl, rfl, by decide, rfl, zw_256, zws_X1⟩
theorem zw_240 : Cond.fieldLink RX1 44 "EarlyDrops$Flow" "first" "I" ∈ zAll := zin 240 (by decide +kernel) (by decide +kernel)
theorem zfl_X1_44 : zFL RX1 44 17 1 0 := ⟨5, RX1, TX1, 11, rfl, rfl, by decide, rfl, zw_240, zws_X1⟩
theorem zw_243 : Cond.fieldLink RX1 47 "EarlyDrops$Flow" "period" "I" ∈ zAll := zin 243 (by decide +kernel) (by decide +kernel)
theorem zfl_X1_47 : zFL RX1 47 17 2 0 := ⟨5, RX1, TX1, 11, rfl, rfl, by decide, rfl, zw_243, zws_X1⟩
abbrev Y_X1_ticksToSending : zY := (yX1_ticksToSending, cX1_ticksToSending, 2, (some .int), 2, [])
abbrev Y_X2_forget : zY := (yX2_forget, cX2_forget, 1, none, 2, [])
theorem zw_439 : Cond.fieldLink RX2 18 "EarlyDrops$Past" "kept" "I" ∈ zAll := zin 439 (by decide +kernel) (by decide +kernel)
theorem zws_X2 : ∀ w ∈ u_ws RX2 TX2 3, w ∈ zAll := fun w hw => List.mem_filter.mpr (goodIn_r (big := lw_tbl) _ [441, 443, 445] (by decide +kernel) (by decide +kernel) w hw |>.imp_right (fun _ => List.all_eq_true.mp (show (u_ws RX2 TX2 3).all goodWord = true by decide +kernel) w hw))
theorem zfp_X2_18 : zFP RX2 18 10 2 0 .int := ⟨6, RX2, TX2, 3, tyX2, ⟨rfl, rfl, by decide, rfl, zw_439, zws_X2⟩, tyX2_ok, nmX2, rfl, by decide +kernel⟩
abbrev Y_X3_add : zY := (yX3_add, cX3_add, 5, none, 2, [])
theorem zw_205 : Cond.fieldLink RX3 15 "EarlyDrops$Queue" "length" "I" ∈ zAll := zin 205 (by decide +kernel) (by decide +kernel)
theorem zws_X3 : ∀ w ∈ u_ws RX3 TX3 2, w ∈ zAll := fun w hw => List.mem_filter.mpr (goodIn_r (big := lw_tbl) _ [208, 210] (by decide +kernel) (by decide +kernel) w hw |>.imp_right (fun _ => List.all_eq_true.mp (show (u_ws RX3 TX3 2).all goodWord = true by decide +kernel) w hw))
theorem zfl_X3_15 : zFL RX3 15 19 1 0 := ⟨7, RX3, TX3, 2, rfl, rfl, by decide, rfl, zw_205, zws_X3⟩
theorem zw_204 : Cond.fieldLink RX3 11 "EarlyDrops$Queue" "cells" "[I" ∈ zAll := zin 204 (by decide +kernel) (by decide +kernel)
theorem zfl_X3_11 : zFL RX3 11 19 0 1 := ⟨7, RX3, TX3, 2, rfl, rfl, by decide, rfl, zw_204, zws_X3⟩
theorem zfp_X3_15 : zFP RX3 15 19 1 0 .int := ⟨7, RX3, TX3, 2, tyX3, ⟨rfl, rfl, by decide, rfl, zw_205, zws_X3⟩, tyX3_ok, nmX3, rfl, by decide +kernel⟩
abbrev Y_X3_cell : zY := (yX3_cell, cX3_cell, 4, (some .int), 2, [])
abbrev Y_X4_byteAt : zY := (yX4_byteAt, cX4_byteAt, 2, (some .int), 2, [])
theorem zw_156 : Cond.fieldLink RX4 19 "EarlyDrops$Reader" "length" "I" ∈ zAll := zin 156 (by decide +kernel) (by decide +kernel)
theorem zws_X4 : ∀ w ∈ u_ws RX4 TX4 7, w ∈ zAll := fun w hw => List.mem_filter.mpr (goodIn_r (big := lw_tbl) _ [168, 170, 172, 174, 176, 178, 180] (by decide +kernel) (by decide +kernel) w hw |>.imp_right (fun _ => List.all_eq_true.mp (show (u_ws RX4 TX4 7).all goodWord = true by decide +kernel) w hw))
theorem zfl_X4_19 : zFL RX4 19 1 1 0 := ⟨8, RX4, TX4, 7, rfl, rfl, by decide, rfl, zw_156, zws_X4⟩
theorem zw_154 : Cond.fieldLink RX4 9 "EarlyDrops$Reader" "bytes" "[I" ∈ zAll := zin 154 (by decide +kernel) (by decide +kernel)
theorem zfl_X4_9 : zFL RX4 9 1 0 1 := ⟨8, RX4, TX4, 7, rfl, rfl, by decide, rfl, zw_154, zws_X4⟩
abbrev Y_X4_bytesOf : zY := (yX4_bytesOf, cX4_bytesOf, 3, (some .int), 2, [])
abbrev Y_X4_empty : zY := (yX4_empty, cX4_empty, 1, none, 2, [])
theorem zfp_X4_19 : zFP RX4 19 1 1 0 .int := ⟨8, RX4, TX4, 7, tyX4, ⟨rfl, rfl, by decide, rfl, zw_156, zws_X4⟩, tyX4_ok, nmX4, rfl, by decide +kernel⟩
abbrev Y_X4_fail : zY := (yX4_fail, cX4_fail, 2, none, 2, [])
theorem zw_165 : Cond.fieldLink RX4 22 "EarlyDrops$Reader" "error" "I" ∈ zAll := zin 165 (by decide +kernel) (by decide +kernel)
theorem zfl_X4_22 : zFL RX4 22 1 5 0 := ⟨8, RX4, TX4, 7, rfl, rfl, by decide, rfl, zw_165, zws_X4⟩
theorem zfp_X4_22 : zFP RX4 22 1 5 0 .int := ⟨8, RX4, TX4, 7, tyX4, ⟨rfl, rfl, by decide, rfl, zw_165, zws_X4⟩, tyX4_ok, nmX4, rfl, by decide +kernel⟩
theorem zw_160 : Cond.fieldLink RX4 31 "EarlyDrops$Reader" "start" "I" ∈ zAll := zin 160 (by decide +kernel) (by decide +kernel)
theorem zfl_X4_31 : zFL RX4 31 1 3 0 := ⟨8, RX4, TX4, 7, rfl, rfl, by decide, rfl, zw_160, zws_X4⟩
theorem zw_166 : Cond.fieldLink RX4 15 "EarlyDrops$Reader" "errorAt" "I" ∈ zAll := zin 166 (by decide +kernel) (by decide +kernel)
theorem zfp_X4_15 : zFP RX4 15 1 6 0 .int := ⟨8, RX4, TX4, 7, tyX4, ⟨rfl, rfl, by decide, rfl, zw_166, zws_X4⟩, tyX4_ok, nmX4, rfl, by decide +kernel⟩
abbrev Y_X4_isBlank : zY := (yX4_isBlank, cX4_isBlank, 1, (some .boolean), 2, [])
abbrev Y_X4_isName : zY := (yX4_isName, cX4_isName, 1, (some .boolean), 2, [])
theorem zw_159 : Cond.fieldLink RX4 45 "EarlyDrops$Reader" "kind" "I" ∈ zAll := zin 159 (by decide +kernel) (by decide +kernel)
theorem zfl_X4_45 : zFL RX4 45 1 2 0 := ⟨8, RX4, TX4, 7, rfl, rfl, by decide, rfl, zw_159, zws_X4⟩
theorem zw_161 : Cond.fieldLink RX4 25 "EarlyDrops$Reader" "end" "I" ∈ zAll := zin 161 (by decide +kernel) (by decide +kernel)
theorem zfl_X4_25 : zFL RX4 25 1 4 0 := ⟨8, RX4, TX4, 7, rfl, rfl, by decide, rfl, zw_161, zws_X4⟩
abbrev Y_X4_kindAt : zY := (yX4_kindAt, cX4_kindAt, 3, (some .int), 2, [])
abbrev Y_X4_take : zY := (yX4_take, cX4_take, 4, none, 2, [])
abbrev Y_X5_averageAfter : zY := (yX5_averageAfter, cX5_averageAfter, 3, (some .int), 2, [])
theorem zw_317 : Cond.fieldLink RX5 51 "EarlyDrops$Router" "weight" "I" ∈ zAll := zin 317 (by decide +kernel) (by decide +kernel)
theorem zws_X5 : ∀ w ∈ u_ws RX5 TX5 16, w ∈ zAll := fun w hw => List.mem_filter.mpr (goodIn_r (big := lw_tbl) _ [345, 347, 349, 351, 353, 355, 357, 359, 361, 363, 365, 367, 369, 371, 373, 375] (by decide +kernel) (by decide +kernel) w hw |>.imp_right (fun _ => List.all_eq_true.mp (show (u_ws RX5 TX5 16).all goodWord = true by decide +kernel) w hw))
theorem zfl_X5_51 : zFL RX5 51 15 5 0 := ⟨9, RX5, TX5, 16, rfl, rfl, by decide, rfl, zw_317, zws_X5⟩
abbrev Y_X5_baseAt : zY := (yX5_baseAt, cX5_baseAt, 6, (some .int), 2, [])
theorem zw_848 : Cond.constantLong RX5 107 1024 ∈ zAll := zin 848 (by decide +kernel) (by decide +kernel)
theorem zw_308 : Cond.fieldLink RX5 42 "EarlyDrops$Router" "min" "I" ∈ zAll := zin 308 (by decide +kernel) (by decide +kernel)
theorem zfl_X5_42 : zFL RX5 42 15 2 0 := ⟨9, RX5, TX5, 16, rfl, rfl, by decide, rfl, zw_308, zws_X5⟩
theorem zw_311 : Cond.fieldLink RX5 45 "EarlyDrops$Router" "max" "I" ∈ zAll := zin 311 (by decide +kernel) (by decide +kernel)
theorem zfl_X5_45 : zFL RX5 45 15 3 0 := ⟨9, RX5, TX5, 16, rfl, rfl, by decide, rfl, zw_311, zws_X5⟩
theorem zw_320 : Cond.fieldLink RX5 54 "EarlyDrops$Router" "gentle" "I" ∈ zAll := zin 320 (by decide +kernel) (by decide +kernel)
theorem zfl_X5_54 : zFL RX5 54 15 6 0 := ⟨9, RX5, TX5, 16, rfl, rfl, by decide, rfl, zw_320, zws_X5⟩
theorem zw_314 : Cond.fieldLink RX5 48 "EarlyDrops$Router" "top" "I" ∈ zAll := zin 314 (by decide +kernel) (by decide +kernel)
theorem zfl_X5_48 : zFL RX5 48 15 4 0 := ⟨9, RX5, TX5, 16, rfl, rfl, by decide, rfl, zw_314, zws_X5⟩
theorem zw_849 : Cond.constant RX5 109 65536 ∈ zAll := zin 849 (by decide +kernel) (by decide +kernel)
abbrev Y_X5_chanceAt : zY := (yX5_chanceAt, cX5_chanceAt, 7, (some .int), 2, [])
theorem zw_853 : Cond.constantLong RX5 110 65536 ∈ zAll := zin 853 (by decide +kernel) (by decide +kernel)
theorem dX0_forget_0 : decode cX0_forget 0 = .ok (.aload_n 0, 1) := by decide +kernel
theorem dX0_forget_1 : decode cX0_forget 1 = .ok (.iconst 0, 1) := by decide +kernel
theorem dX0_forget_2 : decode cX0_forget 2 = .ok (.putfield 15, 3) := by decide +kernel
theorem dX0_forget_5 : decode cX0_forget 5 = .ok (.aload_n 0, 1) := by decide +kernel
theorem dX0_forget_6 : decode cX0_forget 6 = .ok (.iconst 0, 1) := by decide +kernel
theorem dX0_forget_7 : decode cX0_forget 7 = .ok (.putfield 19, 3) := by decide +kernel
theorem dX0_forget_10 : decode cX0_forget 10 = .ok (.return_, 1) := by decide +kernel
theorem dX0_close_0 : decode cX0_close 0 = .ok (.aload_n 0, 1) := by decide +kernel
theorem dX0_close_1 : decode cX0_close 1 = .ok (.getfield 19, 3) := by decide +kernel
theorem dX0_close_4 : decode cX0_close 4 = .ok (.bipush 8, 2) := by decide +kernel
theorem dX0_close_6 : decode cX0_close 6 = .ok (.imul, 1) := by decide +kernel
theorem dX0_close_7 : decode cX0_close 7 = .ok (.iconst 4, 1) := by decide +kernel
theorem dX0_close_8 : decode cX0_close 8 = .ok (.iadd, 1) := by decide +kernel
theorem dX0_close_9 : decode cX0_close 9 = .ok (.istore 5, 2) := by decide +kernel
theorem dX0_close_11 : decode cX0_close 11 = .ok (.iload 5, 2) := by decide +kernel
theorem dX0_close_13 : decode cX0_close 13 = .ok (.ifCond .lt 15, 3) := by decide +kernel
theorem dX0_close_16 : decode cX0_close 16 = .ok (.iload 5, 2) := by decide +kernel
theorem dX0_close_18 : decode cX0_close 18 = .ok (.iconst 3, 1) := by decide +kernel
theorem dX0_close_19 : decode cX0_close 19 = .ok (.iadd, 1) := by decide +kernel
theorem dX0_close_20 : decode cX0_close 20 = .ok (.aload_n 0, 1) := by decide +kernel
theorem dX0_close_21 : decode cX0_close 21 = .ok (.getfield 11, 3) := by decide +kernel
theorem dX0_close_24 : decode cX0_close 24 = .ok (.arraylength, 1) := by decide +kernel
theorem dX0_close_25 : decode cX0_close 25 = .ok (.if_icmp .lt 4, 3) := by decide +kernel
theorem dX0_close_28 : decode cX0_close 28 = .ok (.return_, 1) := by decide +kernel
theorem dX0_close_29 : decode cX0_close 29 = .ok (.aload_n 0, 1) := by decide +kernel
theorem dX0_close_30 : decode cX0_close 30 = .ok (.getfield 11, 3) := by decide +kernel
theorem dX0_close_33 : decode cX0_close 33 = .ok (.iload 5, 2) := by decide +kernel
theorem dX0_close_35 : decode cX0_close 35 = .ok (.iload_n 1, 1) := by decide +kernel
theorem dX0_close_36 : decode cX0_close 36 = .ok (.iastore, 1) := by decide +kernel
theorem dX0_close_37 : decode cX0_close 37 = .ok (.aload_n 0, 1) := by decide +kernel
theorem dX0_close_38 : decode cX0_close 38 = .ok (.getfield 11, 3) := by decide +kernel
theorem dX0_close_41 : decode cX0_close 41 = .ok (.iload 5, 2) := by decide +kernel
theorem dX0_close_43 : decode cX0_close 43 = .ok (.iconst 1, 1) := by decide +kernel
theorem dX0_close_44 : decode cX0_close 44 = .ok (.iadd, 1) := by decide +kernel
theorem dX0_close_45 : decode cX0_close 45 = .ok (.iload_n 2, 1) := by decide +kernel
theorem dX0_close_46 : decode cX0_close 46 = .ok (.iastore, 1) := by decide +kernel
theorem dX0_close_47 : decode cX0_close 47 = .ok (.aload_n 0, 1) := by decide +kernel
theorem dX0_close_48 : decode cX0_close 48 = .ok (.getfield 11, 3) := by decide +kernel
theorem dX0_close_51 : decode cX0_close 51 = .ok (.iload 5, 2) := by decide +kernel
theorem dX0_close_53 : decode cX0_close 53 = .ok (.iconst 2, 1) := by decide +kernel
theorem dX0_close_54 : decode cX0_close 54 = .ok (.iadd, 1) := by decide +kernel
theorem dX0_close_55 : decode cX0_close 55 = .ok (.iload_n 3, 1) := by decide +kernel
theorem dX0_close_56 : decode cX0_close 56 = .ok (.iastore, 1) := by decide +kernel
theorem dX0_close_57 : decode cX0_close 57 = .ok (.aload_n 0, 1) := by decide +kernel
theorem dX0_close_58 : decode cX0_close 58 = .ok (.getfield 11, 3) := by decide +kernel
theorem dX0_close_61 : decode cX0_close 61 = .ok (.iload 5, 2) := by decide +kernel
theorem dX0_close_63 : decode cX0_close 63 = .ok (.iconst 3, 1) := by decide +kernel
theorem dX0_close_64 : decode cX0_close 64 = .ok (.iadd, 1) := by decide +kernel
theorem dX0_close_65 : decode cX0_close 65 = .ok (.iload 4, 2) := by decide +kernel
theorem dX0_close_67 : decode cX0_close 67 = .ok (.iastore, 1) := by decide +kernel
theorem dX0_close_68 : decode cX0_close 68 = .ok (.return_, 1) := by decide +kernel
theorem dX0_cell_0 : decode cX0_cell 0 = .ok (.aload_n 0, 1) := by decide +kernel
theorem dX0_cell_1 : decode cX0_cell 1 = .ok (.getfield 19, 3) := by decide +kernel
theorem dX0_cell_4 : decode cX0_cell 4 = .ok (.bipush 24, 2) := by decide +kernel
theorem dX0_cell_6 : decode cX0_cell 6 = .ok (.iadd, 1) := by decide +kernel
theorem dX0_cell_7 : decode cX0_cell 7 = .ok (.iload_n 1, 1) := by decide +kernel
theorem dX0_cell_8 : decode cX0_cell 8 = .ok (.isub, 1) := by decide +kernel
theorem dX0_cell_9 : decode cX0_cell 9 = .ok (.bipush 24, 2) := by decide +kernel
theorem dX0_cell_11 : decode cX0_cell 11 = .ok (.irem, 1) := by decide +kernel
theorem dX0_cell_12 : decode cX0_cell 12 = .ok (.bipush 8, 2) := by decide +kernel
theorem dX0_cell_14 : decode cX0_cell 14 = .ok (.imul, 1) := by decide +kernel
theorem dX0_cell_15 : decode cX0_cell 15 = .ok (.iload_n 2, 1) := by decide +kernel
theorem dX0_cell_16 : decode cX0_cell 16 = .ok (.iadd, 1) := by decide +kernel
theorem dX0_cell_17 : decode cX0_cell 17 = .ok (.istore_n 3, 1) := by decide +kernel
theorem dX0_cell_18 : decode cX0_cell 18 = .ok (.iload_n 3, 1) := by decide +kernel
theorem dX0_cell_19 : decode cX0_cell 19 = .ok (.ifCond .lt 21, 3) := by decide +kernel
theorem dX0_cell_22 : decode cX0_cell 22 = .ok (.iload_n 3, 1) := by decide +kernel
theorem dX0_cell_23 : decode cX0_cell 23 = .ok (.aload_n 0, 1) := by decide +kernel
theorem dX0_cell_24 : decode cX0_cell 24 = .ok (.getfield 11, 3) := by decide +kernel
theorem dX0_cell_27 : decode cX0_cell 27 = .ok (.arraylength, 1) := by decide +kernel
theorem dX0_cell_28 : decode cX0_cell 28 = .ok (.if_icmp .ge 12, 3) := by decide +kernel
theorem dX0_cell_31 : decode cX0_cell 31 = .ok (.aload_n 0, 1) := by decide +kernel
theorem dX0_cell_32 : decode cX0_cell 32 = .ok (.getfield 11, 3) := by decide +kernel
theorem dX0_cell_35 : decode cX0_cell 35 = .ok (.iload_n 3, 1) := by decide +kernel
theorem dX0_cell_36 : decode cX0_cell 36 = .ok (.iaload, 1) := by decide +kernel
theorem dX0_cell_37 : decode cX0_cell 37 = .ok (.goto 4, 3) := by decide +kernel
theorem dX0_cell_40 : decode cX0_cell 40 = .ok (.iconst (-1), 1) := by decide +kernel
theorem dX0_cell_41 : decode cX0_cell 41 = .ok (.ireturn, 1) := by decide +kernel
theorem dX1_sendsAt_0 : decode cX1_sendsAt 0 = .ok (.aload_n 0, 1) := by decide +kernel
theorem dX1_sendsAt_1 : decode cX1_sendsAt 1 = .ok (.getfield 21, 3) := by decide +kernel
theorem dX1_sendsAt_4 : decode cX1_sendsAt 4 = .ok (.ifCond .eq 36, 3) := by decide +kernel
theorem dX1_sendsAt_7 : decode cX1_sendsAt 7 = .ok (.iload_n 1, 1) := by decide +kernel
theorem dX1_sendsAt_8 : decode cX1_sendsAt 8 = .ok (.aload_n 0, 1) := by decide +kernel
theorem dX1_sendsAt_9 : decode cX1_sendsAt 9 = .ok (.getfield 44, 3) := by decide +kernel
theorem dX1_sendsAt_12 : decode cX1_sendsAt 12 = .ok (.if_icmp .lt 28, 3) := by decide +kernel
theorem dX1_sendsAt_15 : decode cX1_sendsAt 15 = .ok (.aload_n 0, 1) := by decide +kernel
theorem dX1_sendsAt_16 : decode cX1_sendsAt 16 = .ok (.getfield 47, 3) := by decide +kernel
theorem dX1_sendsAt_19 : decode cX1_sendsAt 19 = .ok (.ifCond .le 21, 3) := by decide +kernel
theorem dX1_sendsAt_22 : decode cX1_sendsAt 22 = .ok (.iload_n 1, 1) := by decide +kernel
theorem dX1_sendsAt_23 : decode cX1_sendsAt 23 = .ok (.aload_n 0, 1) := by decide +kernel
theorem dX1_sendsAt_24 : decode cX1_sendsAt 24 = .ok (.getfield 44, 3) := by decide +kernel
theorem dX1_sendsAt_27 : decode cX1_sendsAt 27 = .ok (.isub, 1) := by decide +kernel
theorem dX1_sendsAt_28 : decode cX1_sendsAt 28 = .ok (.aload_n 0, 1) := by decide +kernel
theorem dX1_sendsAt_29 : decode cX1_sendsAt 29 = .ok (.getfield 47, 3) := by decide +kernel
theorem dX1_sendsAt_32 : decode cX1_sendsAt 32 = .ok (.irem, 1) := by decide +kernel
theorem dX1_sendsAt_33 : decode cX1_sendsAt 33 = .ok (.ifCond .ne 7, 3) := by decide +kernel
theorem dX1_sendsAt_36 : decode cX1_sendsAt 36 = .ok (.iconst 1, 1) := by decide +kernel
theorem dX1_sendsAt_37 : decode cX1_sendsAt 37 = .ok (.goto 4, 3) := by decide +kernel
theorem dX1_sendsAt_40 : decode cX1_sendsAt 40 = .ok (.iconst 0, 1) := by decide +kernel
theorem dX1_sendsAt_41 : decode cX1_sendsAt 41 = .ok (.ireturn, 1) := by decide +kernel
theorem dX1_ticksToSending_0 : decode cX1_ticksToSending 0 = .ok (.iload_n 1, 1) := by decide +kernel
theorem dX1_ticksToSending_1 : decode cX1_ticksToSending 1 = .ok (.aload_n 0, 1) := by decide +kernel
theorem dX1_ticksToSending_2 : decode cX1_ticksToSending 2 = .ok (.getfield 44, 3) := by decide +kernel
theorem dX1_ticksToSending_5 : decode cX1_ticksToSending 5 = .ok (.if_icmp .lt 11, 3) := by decide +kernel
theorem dX1_ticksToSending_8 : decode cX1_ticksToSending 8 = .ok (.aload_n 0, 1) := by decide +kernel
theorem dX1_ticksToSending_9 : decode cX1_ticksToSending 9 = .ok (.getfield 47, 3) := by decide +kernel
theorem dX1_ticksToSending_12 : decode cX1_ticksToSending 12 = .ok (.iconst 1, 1) := by decide +kernel
theorem dX1_ticksToSending_13 : decode cX1_ticksToSending 13 = .ok (.if_icmp .ge 10, 3) := by decide +kernel
theorem dX1_ticksToSending_16 : decode cX1_ticksToSending 16 = .ok (.aload_n 0, 1) := by decide +kernel
theorem dX1_ticksToSending_17 : decode cX1_ticksToSending 17 = .ok (.getfield 44, 3) := by decide +kernel
theorem dX1_ticksToSending_20 : decode cX1_ticksToSending 20 = .ok (.iload_n 1, 1) := by decide +kernel
theorem dX1_ticksToSending_21 : decode cX1_ticksToSending 21 = .ok (.isub, 1) := by decide +kernel
theorem dX1_ticksToSending_22 : decode cX1_ticksToSending 22 = .ok (.ireturn, 1) := by decide +kernel
theorem dX1_ticksToSending_23 : decode cX1_ticksToSending 23 = .ok (.aload_n 0, 1) := by decide +kernel
theorem dX1_ticksToSending_24 : decode cX1_ticksToSending 24 = .ok (.getfield 47, 3) := by decide +kernel
theorem dX1_ticksToSending_27 : decode cX1_ticksToSending 27 = .ok (.iload_n 1, 1) := by decide +kernel
theorem dX1_ticksToSending_28 : decode cX1_ticksToSending 28 = .ok (.aload_n 0, 1) := by decide +kernel
theorem dX1_ticksToSending_29 : decode cX1_ticksToSending 29 = .ok (.getfield 44, 3) := by decide +kernel
theorem dX1_ticksToSending_32 : decode cX1_ticksToSending 32 = .ok (.isub, 1) := by decide +kernel
theorem dX1_ticksToSending_33 : decode cX1_ticksToSending 33 = .ok (.aload_n 0, 1) := by decide +kernel
theorem dX1_ticksToSending_34 : decode cX1_ticksToSending 34 = .ok (.getfield 47, 3) := by decide +kernel
theorem dX1_ticksToSending_37 : decode cX1_ticksToSending 37 = .ok (.irem, 1) := by decide +kernel
theorem dX1_ticksToSending_38 : decode cX1_ticksToSending 38 = .ok (.isub, 1) := by decide +kernel
theorem dX1_ticksToSending_39 : decode cX1_ticksToSending 39 = .ok (.ireturn, 1) := by decide +kernel
theorem dX1_countArrival_0 : decode cX1_countArrival 0 = .ok (.aload_n 0, 1) := by decide +kernel
theorem dX1_countArrival_1 : decode cX1_countArrival 1 = .ok (.getfield 17, 3) := by decide +kernel
theorem dX1_countArrival_4 : decode cX1_countArrival 4 = .ok (.iconst 0, 1) := by decide +kernel
theorem dX1_countArrival_5 : decode cX1_countArrival 5 = .ok (.dup2, 1) := by decide +kernel
theorem dX1_countArrival_6 : decode cX1_countArrival 6 = .ok (.laload, 1) := by decide +kernel
theorem dX1_countArrival_7 : decode cX1_countArrival 7 = .ok (.lconst 1, 1) := by decide +kernel
theorem dX1_countArrival_8 : decode cX1_countArrival 8 = .ok (.ladd, 1) := by decide +kernel
theorem dX1_countArrival_9 : decode cX1_countArrival 9 = .ok (.lastore, 1) := by decide +kernel
theorem dX1_countArrival_10 : decode cX1_countArrival 10 = .ok (.iload_n 2, 1) := by decide +kernel
theorem dX1_countArrival_11 : decode cX1_countArrival 11 = .ok (.iconst 1, 1) := by decide +kernel
theorem dX1_countArrival_12 : decode cX1_countArrival 12 = .ok (.if_icmp .ne 13, 3) := by decide +kernel
theorem dX1_countArrival_15 : decode cX1_countArrival 15 = .ok (.aload_n 0, 1) := by decide +kernel
theorem dX1_countArrival_16 : decode cX1_countArrival 16 = .ok (.getfield 17, 3) := by decide +kernel
theorem dX1_countArrival_19 : decode cX1_countArrival 19 = .ok (.iconst 1, 1) := by decide +kernel
theorem dX1_countArrival_20 : decode cX1_countArrival 20 = .ok (.dup2, 1) := by decide +kernel
theorem dX1_countArrival_21 : decode cX1_countArrival 21 = .ok (.laload, 1) := by decide +kernel
theorem dX1_countArrival_22 : decode cX1_countArrival 22 = .ok (.lconst 1, 1) := by decide +kernel
theorem dX1_countArrival_23 : decode cX1_countArrival 23 = .ok (.ladd, 1) := by decide +kernel
theorem dX1_countArrival_24 : decode cX1_countArrival 24 = .ok (.lastore, 1) := by decide +kernel
theorem dX1_countArrival_25 : decode cX1_countArrival 25 = .ok (.iload_n 2, 1) := by decide +kernel
theorem dX1_countArrival_26 : decode cX1_countArrival 26 = .ok (.iconst 2, 1) := by decide +kernel
theorem dX1_countArrival_27 : decode cX1_countArrival 27 = .ok (.if_icmp .ne 30, 3) := by decide +kernel
theorem dX1_countArrival_30 : decode cX1_countArrival 30 = .ok (.aload_n 0, 1) := by decide +kernel
theorem dX1_countArrival_31 : decode cX1_countArrival 31 = .ok (.getfield 17, 3) := by decide +kernel
theorem dX1_countArrival_34 : decode cX1_countArrival 34 = .ok (.iload_n 1, 1) := by decide +kernel
theorem dX1_countArrival_35 : decode cX1_countArrival 35 = .ok (.ifCond .ne 7, 3) := by decide +kernel
theorem dX1_countArrival_38 : decode cX1_countArrival 38 = .ok (.iconst 4, 1) := by decide +kernel
theorem dX1_countArrival_39 : decode cX1_countArrival 39 = .ok (.goto 13, 3) := by decide +kernel
theorem dX1_countArrival_42 : decode cX1_countArrival 42 = .ok (.iload_n 1, 1) := by decide +kernel
theorem dX1_countArrival_43 : decode cX1_countArrival 43 = .ok (.iconst 2, 1) := by decide +kernel
theorem dX1_countArrival_44 : decode cX1_countArrival 44 = .ok (.if_icmp .ne 7, 3) := by decide +kernel
theorem dX1_countArrival_47 : decode cX1_countArrival 47 = .ok (.iconst 3, 1) := by decide +kernel
theorem dX1_countArrival_48 : decode cX1_countArrival 48 = .ok (.goto 4, 3) := by decide +kernel
theorem dX1_countArrival_51 : decode cX1_countArrival 51 = .ok (.iconst 2, 1) := by decide +kernel
theorem dX1_countArrival_52 : decode cX1_countArrival 52 = .ok (.dup2, 1) := by decide +kernel
theorem dX1_countArrival_53 : decode cX1_countArrival 53 = .ok (.laload, 1) := by decide +kernel
theorem dX1_countArrival_54 : decode cX1_countArrival 54 = .ok (.lconst 1, 1) := by decide +kernel
theorem dX1_countArrival_55 : decode cX1_countArrival 55 = .ok (.ladd, 1) := by decide +kernel
theorem dX1_countArrival_56 : decode cX1_countArrival 56 = .ok (.lastore, 1) := by decide +kernel
theorem dX1_countArrival_57 : decode cX1_countArrival 57 = .ok (.aload_n 0, 1) := by decide +kernel
theorem dX1_countArrival_58 : decode cX1_countArrival 58 = .ok (.aload_n 0, 1) := by decide +kernel
theorem dX1_countArrival_59 : decode cX1_countArrival 59 = .ok (.getfield 32, 3) := by decide +kernel
theorem dX1_countArrival_62 : decode cX1_countArrival 62 = .ok (.ifCond .ne 7, 3) := by decide +kernel
theorem dX1_countArrival_65 : decode cX1_countArrival 65 = .ok (.iload_n 2, 1) := by decide +kernel
theorem dX1_countArrival_66 : decode cX1_countArrival 66 = .ok (.ifCond .eq 7, 3) := by decide +kernel
theorem dX1_countArrival_69 : decode cX1_countArrival 69 = .ok (.iconst 1, 1) := by decide +kernel
theorem dX1_countArrival_70 : decode cX1_countArrival 70 = .ok (.goto 4, 3) := by decide +kernel
theorem dX1_countArrival_73 : decode cX1_countArrival 73 = .ok (.iconst 0, 1) := by decide +kernel
theorem dX1_countArrival_74 : decode cX1_countArrival 74 = .ok (.putfield 32, 3) := by decide +kernel
theorem dX1_countArrival_77 : decode cX1_countArrival 77 = .ok (.return_, 1) := by decide +kernel
theorem dX1_countLeaving_0 : decode cX1_countLeaving 0 = .ok (.aload_n 0, 1) := by decide +kernel
theorem dX1_countLeaving_1 : decode cX1_countLeaving 1 = .ok (.getfield 17, 3) := by decide +kernel
theorem dX1_countLeaving_4 : decode cX1_countLeaving 4 = .ok (.iconst 5, 1) := by decide +kernel
theorem dX1_countLeaving_5 : decode cX1_countLeaving 5 = .ok (.dup2, 1) := by decide +kernel
theorem dX1_countLeaving_6 : decode cX1_countLeaving 6 = .ok (.laload, 1) := by decide +kernel
theorem dX1_countLeaving_7 : decode cX1_countLeaving 7 = .ok (.lconst 1, 1) := by decide +kernel
theorem dX1_countLeaving_8 : decode cX1_countLeaving 8 = .ok (.ladd, 1) := by decide +kernel
theorem dX1_countLeaving_9 : decode cX1_countLeaving 9 = .ok (.lastore, 1) := by decide +kernel
theorem dX1_countLeaving_10 : decode cX1_countLeaving 10 = .ok (.aload_n 0, 1) := by decide +kernel
theorem dX1_countLeaving_11 : decode cX1_countLeaving 11 = .ok (.getfield 17, 3) := by decide +kernel
theorem dX1_countLeaving_14 : decode cX1_countLeaving 14 = .ok (.bipush 6, 2) := by decide +kernel
theorem dX1_countLeaving_16 : decode cX1_countLeaving 16 = .ok (.dup2, 1) := by decide +kernel
theorem dX1_countLeaving_17 : decode cX1_countLeaving 17 = .ok (.laload, 1) := by decide +kernel
theorem dX1_countLeaving_18 : decode cX1_countLeaving 18 = .ok (.iload_n 2, 1) := by decide +kernel
theorem dX1_countLeaving_19 : decode cX1_countLeaving 19 = .ok (.i2l, 1) := by decide +kernel
theorem dX1_countLeaving_20 : decode cX1_countLeaving 20 = .ok (.ladd, 1) := by decide +kernel
theorem dX1_countLeaving_21 : decode cX1_countLeaving 21 = .ok (.lastore, 1) := by decide +kernel
theorem dX1_countLeaving_22 : decode cX1_countLeaving 22 = .ok (.aload_n 0, 1) := by decide +kernel
theorem dX1_countLeaving_23 : decode cX1_countLeaving 23 = .ok (.getfield 17, 3) := by decide +kernel
theorem dX1_countLeaving_26 : decode cX1_countLeaving 26 = .ok (.bipush 7, 2) := by decide +kernel
theorem dX1_countLeaving_28 : decode cX1_countLeaving 28 = .ok (.dup2, 1) := by decide +kernel
theorem dX1_countLeaving_29 : decode cX1_countLeaving 29 = .ok (.laload, 1) := by decide +kernel
theorem dX1_countLeaving_30 : decode cX1_countLeaving 30 = .ok (.iload_n 1, 1) := by decide +kernel
theorem dX1_countLeaving_31 : decode cX1_countLeaving 31 = .ok (.i2l, 1) := by decide +kernel
theorem dX1_countLeaving_32 : decode cX1_countLeaving 32 = .ok (.ladd, 1) := by decide +kernel
theorem dX1_countLeaving_33 : decode cX1_countLeaving 33 = .ok (.lastore, 1) := by decide +kernel
theorem dX1_countLeaving_34 : decode cX1_countLeaving 34 = .ok (.return_, 1) := by decide +kernel
theorem dX1_drops_0 : decode cX1_drops 0 = .ok (.aload_n 0, 1) := by decide +kernel
theorem dX1_drops_1 : decode cX1_drops 1 = .ok (.getfield 17, 3) := by decide +kernel
theorem dX1_drops_4 : decode cX1_drops 4 = .ok (.iconst 2, 1) := by decide +kernel
theorem dX1_drops_5 : decode cX1_drops 5 = .ok (.laload, 1) := by decide +kernel
theorem dX1_drops_6 : decode cX1_drops 6 = .ok (.aload_n 0, 1) := by decide +kernel
theorem dX1_drops_7 : decode cX1_drops 7 = .ok (.getfield 17, 3) := by decide +kernel
theorem dX1_drops_10 : decode cX1_drops 10 = .ok (.iconst 3, 1) := by decide +kernel
theorem dX1_drops_11 : decode cX1_drops 11 = .ok (.laload, 1) := by decide +kernel
theorem dX1_drops_12 : decode cX1_drops 12 = .ok (.ladd, 1) := by decide +kernel
theorem dX1_drops_13 : decode cX1_drops 13 = .ok (.aload_n 0, 1) := by decide +kernel
theorem dX1_drops_14 : decode cX1_drops 14 = .ok (.getfield 17, 3) := by decide +kernel
theorem dX1_drops_17 : decode cX1_drops 17 = .ok (.iconst 4, 1) := by decide +kernel
theorem dX1_drops_18 : decode cX1_drops 18 = .ok (.laload, 1) := by decide +kernel
theorem dX1_drops_19 : decode cX1_drops 19 = .ok (.ladd, 1) := by decide +kernel
theorem dX1_drops_20 : decode cX1_drops 20 = .ok (.lreturn, 1) := by decide +kernel
theorem dX2_forget_0 : decode cX2_forget 0 = .ok (.aload_n 0, 1) := by decide +kernel
theorem dX2_forget_1 : decode cX2_forget 1 = .ok (.iconst 0, 1) := by decide +kernel
theorem dX2_forget_2 : decode cX2_forget 2 = .ok (.putfield 18, 3) := by decide +kernel
theorem dX2_forget_5 : decode cX2_forget 5 = .ok (.return_, 1) := by decide +kernel
theorem dX3_cell_0 : decode cX3_cell 0 = .ok (.iload_n 1, 1) := by decide +kernel
theorem dX3_cell_1 : decode cX3_cell 1 = .ok (.iconst 3, 1) := by decide +kernel
theorem dX3_cell_2 : decode cX3_cell 2 = .ok (.imul, 1) := by decide +kernel
theorem dX3_cell_3 : decode cX3_cell 3 = .ok (.iload_n 2, 1) := by decide +kernel
theorem dX3_cell_4 : decode cX3_cell 4 = .ok (.iadd, 1) := by decide +kernel
theorem dX3_cell_5 : decode cX3_cell 5 = .ok (.istore_n 3, 1) := by decide +kernel
theorem dX3_cell_6 : decode cX3_cell 6 = .ok (.iload_n 3, 1) := by decide +kernel
theorem dX3_cell_7 : decode cX3_cell 7 = .ok (.ifCond .lt 21, 3) := by decide +kernel
theorem dX3_cell_10 : decode cX3_cell 10 = .ok (.iload_n 3, 1) := by decide +kernel
theorem dX3_cell_11 : decode cX3_cell 11 = .ok (.aload_n 0, 1) := by decide +kernel
theorem dX3_cell_12 : decode cX3_cell 12 = .ok (.getfield 11, 3) := by decide +kernel
theorem dX3_cell_15 : decode cX3_cell 15 = .ok (.arraylength, 1) := by decide +kernel
theorem dX3_cell_16 : decode cX3_cell 16 = .ok (.if_icmp .ge 12, 3) := by decide +kernel
theorem dX3_cell_19 : decode cX3_cell 19 = .ok (.aload_n 0, 1) := by decide +kernel
theorem dX3_cell_20 : decode cX3_cell 20 = .ok (.getfield 11, 3) := by decide +kernel
theorem dX3_cell_23 : decode cX3_cell 23 = .ok (.iload_n 3, 1) := by decide +kernel
theorem dX3_cell_24 : decode cX3_cell 24 = .ok (.iaload, 1) := by decide +kernel
theorem dX3_cell_25 : decode cX3_cell 25 = .ok (.goto 4, 3) := by decide +kernel
theorem dX3_cell_28 : decode cX3_cell 28 = .ok (.iconst (-1), 1) := by decide +kernel
theorem dX3_cell_29 : decode cX3_cell 29 = .ok (.ireturn, 1) := by decide +kernel
theorem dX3_add_0 : decode cX3_add 0 = .ok (.aload_n 0, 1) := by decide +kernel
theorem dX3_add_1 : decode cX3_add 1 = .ok (.getfield 15, 3) := by decide +kernel
theorem dX3_add_4 : decode cX3_add 4 = .ok (.iconst 3, 1) := by decide +kernel
theorem dX3_add_5 : decode cX3_add 5 = .ok (.imul, 1) := by decide +kernel
theorem dX3_add_6 : decode cX3_add 6 = .ok (.istore 4, 2) := by decide +kernel
theorem dX3_add_8 : decode cX3_add 8 = .ok (.iload 4, 2) := by decide +kernel
theorem dX3_add_10 : decode cX3_add 10 = .ok (.ifCond .lt 15, 3) := by decide +kernel
theorem dX3_add_13 : decode cX3_add 13 = .ok (.iload 4, 2) := by decide +kernel
theorem dX3_add_15 : decode cX3_add 15 = .ok (.iconst 2, 1) := by decide +kernel
theorem dX3_add_16 : decode cX3_add 16 = .ok (.iadd, 1) := by decide +kernel
theorem dX3_add_17 : decode cX3_add 17 = .ok (.aload_n 0, 1) := by decide +kernel
theorem dX3_add_18 : decode cX3_add 18 = .ok (.getfield 11, 3) := by decide +kernel
theorem dX3_add_21 : decode cX3_add 21 = .ok (.arraylength, 1) := by decide +kernel
theorem dX3_add_22 : decode cX3_add 22 = .ok (.if_icmp .lt 4, 3) := by decide +kernel
theorem dX3_add_25 : decode cX3_add 25 = .ok (.return_, 1) := by decide +kernel
theorem dX3_add_26 : decode cX3_add 26 = .ok (.aload_n 0, 1) := by decide +kernel
theorem dX3_add_27 : decode cX3_add 27 = .ok (.getfield 11, 3) := by decide +kernel
theorem dX3_add_30 : decode cX3_add 30 = .ok (.iload 4, 2) := by decide +kernel
theorem dX3_add_32 : decode cX3_add 32 = .ok (.iload_n 1, 1) := by decide +kernel
theorem dX3_add_33 : decode cX3_add 33 = .ok (.iastore, 1) := by decide +kernel
theorem dX3_add_34 : decode cX3_add 34 = .ok (.aload_n 0, 1) := by decide +kernel
theorem dX3_add_35 : decode cX3_add 35 = .ok (.getfield 11, 3) := by decide +kernel
theorem dX3_add_38 : decode cX3_add 38 = .ok (.iload 4, 2) := by decide +kernel
theorem dX3_add_40 : decode cX3_add 40 = .ok (.iconst 1, 1) := by decide +kernel
theorem dX3_add_41 : decode cX3_add 41 = .ok (.iadd, 1) := by decide +kernel
theorem dX3_add_42 : decode cX3_add 42 = .ok (.iload_n 2, 1) := by decide +kernel
theorem dX3_add_43 : decode cX3_add 43 = .ok (.iastore, 1) := by decide +kernel
theorem dX3_add_44 : decode cX3_add 44 = .ok (.aload_n 0, 1) := by decide +kernel
theorem dX3_add_45 : decode cX3_add 45 = .ok (.getfield 11, 3) := by decide +kernel
theorem dX3_add_48 : decode cX3_add 48 = .ok (.iload 4, 2) := by decide +kernel
theorem dX3_add_50 : decode cX3_add 50 = .ok (.iconst 2, 1) := by decide +kernel
theorem dX3_add_51 : decode cX3_add 51 = .ok (.iadd, 1) := by decide +kernel
theorem dX3_add_52 : decode cX3_add 52 = .ok (.iload_n 3, 1) := by decide +kernel
theorem dX3_add_53 : decode cX3_add 53 = .ok (.iastore, 1) := by decide +kernel
theorem dX3_add_54 : decode cX3_add 54 = .ok (.aload_n 0, 1) := by decide +kernel
theorem dX3_add_55 : decode cX3_add 55 = .ok (.dup, 1) := by decide +kernel
theorem dX3_add_56 : decode cX3_add 56 = .ok (.getfield 15, 3) := by decide +kernel
theorem dX3_add_59 : decode cX3_add 59 = .ok (.iconst 1, 1) := by decide +kernel
theorem dX3_add_60 : decode cX3_add 60 = .ok (.iadd, 1) := by decide +kernel
theorem dX3_add_61 : decode cX3_add 61 = .ok (.putfield 15, 3) := by decide +kernel
theorem dX3_add_64 : decode cX3_add 64 = .ok (.return_, 1) := by decide +kernel
theorem dX4_bytesOf_0 : decode cX4_bytesOf 0 = .ok (.iconst 0, 1) := by decide +kernel
theorem dX4_bytesOf_1 : decode cX4_bytesOf 1 = .ok (.istore_n 1, 1) := by decide +kernel
theorem dX4_bytesOf_2 : decode cX4_bytesOf 2 = .ok (.bipush 24, 2) := by decide +kernel
theorem dX4_bytesOf_4 : decode cX4_bytesOf 4 = .ok (.istore_n 2, 1) := by decide +kernel
theorem dX4_bytesOf_5 : decode cX4_bytesOf 5 = .ok (.iload_n 2, 1) := by decide +kernel
theorem dX4_bytesOf_6 : decode cX4_bytesOf 6 = .ok (.ifCond .lt 22, 3) := by decide +kernel
theorem dX4_bytesOf_9 : decode cX4_bytesOf 9 = .ok (.iload_n 0, 1) := by decide +kernel
theorem dX4_bytesOf_10 : decode cX4_bytesOf 10 = .ok (.iload_n 2, 1) := by decide +kernel
theorem dX4_bytesOf_11 : decode cX4_bytesOf 11 = .ok (.iushr, 1) := by decide +kernel
theorem dX4_bytesOf_12 : decode cX4_bytesOf 12 = .ok (.sipush 255, 3) := by decide +kernel
theorem dX4_bytesOf_15 : decode cX4_bytesOf 15 = .ok (.iand, 1) := by decide +kernel
theorem dX4_bytesOf_16 : decode cX4_bytesOf 16 = .ok (.ifCond .eq 6, 3) := by decide +kernel
theorem dX4_bytesOf_19 : decode cX4_bytesOf 19 = .ok (.iinc 1 1, 3) := by decide +kernel
theorem dX4_bytesOf_22 : decode cX4_bytesOf 22 = .ok (.iinc 2 (-8), 3) := by decide +kernel
theorem dX4_bytesOf_25 : decode cX4_bytesOf 25 = .ok (.goto (-20), 3) := by decide +kernel
theorem dX4_bytesOf_28 : decode cX4_bytesOf 28 = .ok (.iload_n 1, 1) := by decide +kernel
theorem dX4_bytesOf_29 : decode cX4_bytesOf 29 = .ok (.ireturn, 1) := by decide +kernel
theorem dX4_take_0 : decode cX4_take 0 = .ok (.bipush 24, 2) := by decide +kernel
theorem dX4_take_2 : decode cX4_take 2 = .ok (.istore_n 2, 1) := by decide +kernel
theorem dX4_take_3 : decode cX4_take 3 = .ok (.iload_n 2, 1) := by decide +kernel
theorem dX4_take_4 : decode cX4_take 4 = .ok (.ifCond .lt 60, 3) := by decide +kernel
theorem dX4_take_7 : decode cX4_take 7 = .ok (.iload_n 1, 1) := by decide +kernel
theorem dX4_take_8 : decode cX4_take 8 = .ok (.iload_n 2, 1) := by decide +kernel
theorem dX4_take_9 : decode cX4_take 9 = .ok (.iushr, 1) := by decide +kernel
theorem dX4_take_10 : decode cX4_take 10 = .ok (.sipush 255, 3) := by decide +kernel
theorem dX4_take_13 : decode cX4_take 13 = .ok (.iand, 1) := by decide +kernel
theorem dX4_take_14 : decode cX4_take 14 = .ok (.istore_n 3, 1) := by decide +kernel
theorem dX4_take_15 : decode cX4_take 15 = .ok (.iload_n 3, 1) := by decide +kernel
theorem dX4_take_16 : decode cX4_take 16 = .ok (.ifCond .eq 42, 3) := by decide +kernel
theorem dX4_take_19 : decode cX4_take 19 = .ok (.aload_n 0, 1) := by decide +kernel
theorem dX4_take_20 : decode cX4_take 20 = .ok (.getfield 19, 3) := by decide +kernel
theorem dX4_take_23 : decode cX4_take 23 = .ok (.ifCond .lt 35, 3) := by decide +kernel
theorem dX4_take_26 : decode cX4_take 26 = .ok (.aload_n 0, 1) := by decide +kernel
theorem dX4_take_27 : decode cX4_take 27 = .ok (.getfield 19, 3) := by decide +kernel
theorem dX4_take_30 : decode cX4_take 30 = .ok (.aload_n 0, 1) := by decide +kernel
theorem dX4_take_31 : decode cX4_take 31 = .ok (.getfield 9, 3) := by decide +kernel
theorem dX4_take_34 : decode cX4_take 34 = .ok (.arraylength, 1) := by decide +kernel
theorem dX4_take_35 : decode cX4_take 35 = .ok (.if_icmp .ge 23, 3) := by decide +kernel
theorem dX4_take_38 : decode cX4_take 38 = .ok (.aload_n 0, 1) := by decide +kernel
theorem dX4_take_39 : decode cX4_take 39 = .ok (.getfield 9, 3) := by decide +kernel
theorem dX4_take_42 : decode cX4_take 42 = .ok (.aload_n 0, 1) := by decide +kernel
theorem dX4_take_43 : decode cX4_take 43 = .ok (.getfield 19, 3) := by decide +kernel
theorem dX4_take_46 : decode cX4_take 46 = .ok (.iload_n 3, 1) := by decide +kernel
theorem dX4_take_47 : decode cX4_take 47 = .ok (.iastore, 1) := by decide +kernel
theorem dX4_take_48 : decode cX4_take 48 = .ok (.aload_n 0, 1) := by decide +kernel
theorem dX4_take_49 : decode cX4_take 49 = .ok (.dup, 1) := by decide +kernel
theorem dX4_take_50 : decode cX4_take 50 = .ok (.getfield 19, 3) := by decide +kernel
theorem dX4_take_53 : decode cX4_take 53 = .ok (.iconst 1, 1) := by decide +kernel
theorem dX4_take_54 : decode cX4_take 54 = .ok (.iadd, 1) := by decide +kernel
theorem dX4_take_55 : decode cX4_take 55 = .ok (.putfield 19, 3) := by decide +kernel
theorem dX4_take_58 : decode cX4_take 58 = .ok (.iinc 2 (-8), 3) := by decide +kernel
theorem dX4_take_61 : decode cX4_take 61 = .ok (.goto (-58), 3) := by decide +kernel
theorem dX4_take_64 : decode cX4_take 64 = .ok (.return_, 1) := by decide +kernel
theorem dX4_empty_0 : decode cX4_empty 0 = .ok (.aload_n 0, 1) := by decide +kernel
theorem dX4_empty_1 : decode cX4_empty 1 = .ok (.iconst 0, 1) := by decide +kernel
theorem dX4_empty_2 : decode cX4_empty 2 = .ok (.putfield 19, 3) := by decide +kernel
theorem dX4_empty_5 : decode cX4_empty 5 = .ok (.return_, 1) := by decide +kernel
theorem dX4_fail_0 : decode cX4_fail 0 = .ok (.aload_n 0, 1) := by decide +kernel
theorem dX4_fail_1 : decode cX4_fail 1 = .ok (.getfield 22, 3) := by decide +kernel
theorem dX4_fail_4 : decode cX4_fail 4 = .ok (.ifCond .ne 16, 3) := by decide +kernel
theorem dX4_fail_7 : decode cX4_fail 7 = .ok (.aload_n 0, 1) := by decide +kernel
theorem dX4_fail_8 : decode cX4_fail 8 = .ok (.iload_n 1, 1) := by decide +kernel
theorem dX4_fail_9 : decode cX4_fail 9 = .ok (.putfield 22, 3) := by decide +kernel
theorem dX4_fail_12 : decode cX4_fail 12 = .ok (.aload_n 0, 1) := by decide +kernel
theorem dX4_fail_13 : decode cX4_fail 13 = .ok (.aload_n 0, 1) := by decide +kernel
theorem dX4_fail_14 : decode cX4_fail 14 = .ok (.getfield 31, 3) := by decide +kernel
theorem dX4_fail_17 : decode cX4_fail 17 = .ok (.putfield 15, 3) := by decide +kernel
theorem dX4_fail_20 : decode cX4_fail 20 = .ok (.return_, 1) := by decide +kernel
theorem dX4_byteAt_0 : decode cX4_byteAt 0 = .ok (.iload_n 1, 1) := by decide +kernel
theorem dX4_byteAt_1 : decode cX4_byteAt 1 = .ok (.ifCond .lt 29, 3) := by decide +kernel
theorem dX4_byteAt_4 : decode cX4_byteAt 4 = .ok (.iload_n 1, 1) := by decide +kernel
theorem dX4_byteAt_5 : decode cX4_byteAt 5 = .ok (.aload_n 0, 1) := by decide +kernel
theorem dX4_byteAt_6 : decode cX4_byteAt 6 = .ok (.getfield 19, 3) := by decide +kernel
theorem dX4_byteAt_9 : decode cX4_byteAt 9 = .ok (.if_icmp .ge 21, 3) := by decide +kernel
theorem dX4_byteAt_12 : decode cX4_byteAt 12 = .ok (.iload_n 1, 1) := by decide +kernel
theorem dX4_byteAt_13 : decode cX4_byteAt 13 = .ok (.aload_n 0, 1) := by decide +kernel
theorem dX4_byteAt_14 : decode cX4_byteAt 14 = .ok (.getfield 9, 3) := by decide +kernel
theorem dX4_byteAt_17 : decode cX4_byteAt 17 = .ok (.arraylength, 1) := by decide +kernel
theorem dX4_byteAt_18 : decode cX4_byteAt 18 = .ok (.if_icmp .ge 12, 3) := by decide +kernel
theorem dX4_byteAt_21 : decode cX4_byteAt 21 = .ok (.aload_n 0, 1) := by decide +kernel
theorem dX4_byteAt_22 : decode cX4_byteAt 22 = .ok (.getfield 9, 3) := by decide +kernel
theorem dX4_byteAt_25 : decode cX4_byteAt 25 = .ok (.iload_n 1, 1) := by decide +kernel
theorem dX4_byteAt_26 : decode cX4_byteAt 26 = .ok (.iaload, 1) := by decide +kernel
theorem dX4_byteAt_27 : decode cX4_byteAt 27 = .ok (.goto 4, 3) := by decide +kernel
theorem dX4_byteAt_30 : decode cX4_byteAt 30 = .ok (.iconst 0, 1) := by decide +kernel
theorem dX4_byteAt_31 : decode cX4_byteAt 31 = .ok (.ireturn, 1) := by decide +kernel
theorem dX4_isBlank_0 : decode cX4_isBlank 0 = .ok (.iload_n 0, 1) := by decide +kernel
theorem dX4_isBlank_1 : decode cX4_isBlank 1 = .ok (.bipush 32, 2) := by decide +kernel
theorem dX4_isBlank_3 : decode cX4_isBlank 3 = .ok (.if_icmp .eq 9, 3) := by decide +kernel
theorem dX4_isBlank_6 : decode cX4_isBlank 6 = .ok (.iload_n 0, 1) := by decide +kernel
theorem dX4_isBlank_7 : decode cX4_isBlank 7 = .ok (.bipush 10, 2) := by decide +kernel
theorem dX4_isBlank_9 : decode cX4_isBlank 9 = .ok (.if_icmp .ne 7, 3) := by decide +kernel
theorem dX4_isBlank_12 : decode cX4_isBlank 12 = .ok (.iconst 1, 1) := by decide +kernel
theorem dX4_isBlank_13 : decode cX4_isBlank 13 = .ok (.goto 4, 3) := by decide +kernel
theorem dX4_isBlank_16 : decode cX4_isBlank 16 = .ok (.iconst 0, 1) := by decide +kernel
theorem dX4_isBlank_17 : decode cX4_isBlank 17 = .ok (.ireturn, 1) := by decide +kernel
theorem dX4_kindAt_0 : decode cX4_kindAt 0 = .ok (.iload_n 1, 1) := by decide +kernel
theorem dX4_kindAt_1 : decode cX4_kindAt 1 = .ok (.ifCond .lt 20, 3) := by decide +kernel
theorem dX4_kindAt_4 : decode cX4_kindAt 4 = .ok (.iload_n 1, 1) := by decide +kernel
theorem dX4_kindAt_5 : decode cX4_kindAt 5 = .ok (.aload_n 0, 1) := by decide +kernel
theorem dX4_kindAt_6 : decode cX4_kindAt 6 = .ok (.getfield 19, 3) := by decide +kernel
theorem dX4_kindAt_9 : decode cX4_kindAt 9 = .ok (.if_icmp .ge 12, 3) := by decide +kernel
theorem dX4_kindAt_12 : decode cX4_kindAt 12 = .ok (.iload_n 1, 1) := by decide +kernel
theorem dX4_kindAt_13 : decode cX4_kindAt 13 = .ok (.aload_n 0, 1) := by decide +kernel
theorem dX4_kindAt_14 : decode cX4_kindAt 14 = .ok (.getfield 9, 3) := by decide +kernel
theorem dX4_kindAt_17 : decode cX4_kindAt 17 = .ok (.arraylength, 1) := by decide +kernel
theorem dX4_kindAt_18 : decode cX4_kindAt 18 = .ok (.if_icmp .lt 5, 3) := by decide +kernel
theorem dX4_kindAt_21 : decode cX4_kindAt 21 = .ok (.iconst 0, 1) := by decide +kernel
theorem dX4_kindAt_22 : decode cX4_kindAt 22 = .ok (.ireturn, 1) := by decide +kernel
theorem dX4_kindAt_23 : decode cX4_kindAt 23 = .ok (.aload_n 0, 1) := by decide +kernel
theorem dX4_kindAt_24 : decode cX4_kindAt 24 = .ok (.getfield 9, 3) := by decide +kernel
theorem dX4_kindAt_27 : decode cX4_kindAt 27 = .ok (.iload_n 1, 1) := by decide +kernel
theorem dX4_kindAt_28 : decode cX4_kindAt 28 = .ok (.iaload, 1) := by decide +kernel
theorem dX4_kindAt_29 : decode cX4_kindAt 29 = .ok (.istore_n 2, 1) := by decide +kernel
theorem dX4_kindAt_30 : decode cX4_kindAt 30 = .ok (.iload_n 2, 1) := by decide +kernel
theorem dX4_kindAt_31 : decode cX4_kindAt 31 = .ok (.bipush 97, 2) := by decide +kernel
theorem dX4_kindAt_33 : decode cX4_kindAt 33 = .ok (.if_icmp .lt 11, 3) := by decide +kernel
theorem dX4_kindAt_36 : decode cX4_kindAt 36 = .ok (.iload_n 2, 1) := by decide +kernel
theorem dX4_kindAt_37 : decode cX4_kindAt 37 = .ok (.bipush 122, 2) := by decide +kernel
theorem dX4_kindAt_39 : decode cX4_kindAt 39 = .ok (.if_icmp .gt 5, 3) := by decide +kernel
theorem dX4_kindAt_42 : decode cX4_kindAt 42 = .ok (.iconst 1, 1) := by decide +kernel
theorem dX4_kindAt_43 : decode cX4_kindAt 43 = .ok (.ireturn, 1) := by decide +kernel
theorem dX4_kindAt_44 : decode cX4_kindAt 44 = .ok (.iload_n 2, 1) := by decide +kernel
theorem dX4_kindAt_45 : decode cX4_kindAt 45 = .ok (.bipush 48, 2) := by decide +kernel
theorem dX4_kindAt_47 : decode cX4_kindAt 47 = .ok (.if_icmp .lt 11, 3) := by decide +kernel
theorem dX4_kindAt_50 : decode cX4_kindAt 50 = .ok (.iload_n 2, 1) := by decide +kernel
theorem dX4_kindAt_51 : decode cX4_kindAt 51 = .ok (.bipush 57, 2) := by decide +kernel
theorem dX4_kindAt_53 : decode cX4_kindAt 53 = .ok (.if_icmp .gt 5, 3) := by decide +kernel
theorem dX4_kindAt_56 : decode cX4_kindAt 56 = .ok (.iconst 2, 1) := by decide +kernel
theorem dX4_kindAt_57 : decode cX4_kindAt 57 = .ok (.ireturn, 1) := by decide +kernel
theorem dX4_kindAt_58 : decode cX4_kindAt 58 = .ok (.iload_n 2, 1) := by decide +kernel
theorem dX4_kindAt_59 : decode cX4_kindAt 59 = .ok (.bipush 59, 2) := by decide +kernel
theorem dX4_kindAt_61 : decode cX4_kindAt 61 = .ok (.if_icmp .ne 7, 3) := by decide +kernel
theorem dX4_kindAt_64 : decode cX4_kindAt 64 = .ok (.iconst 3, 1) := by decide +kernel
theorem dX4_kindAt_65 : decode cX4_kindAt 65 = .ok (.goto 25, 3) := by decide +kernel
theorem dX4_kindAt_68 : decode cX4_kindAt 68 = .ok (.iload_n 2, 1) := by decide +kernel
theorem dX4_kindAt_69 : decode cX4_kindAt 69 = .ok (.bipush 40, 2) := by decide +kernel
theorem dX4_kindAt_71 : decode cX4_kindAt 71 = .ok (.if_icmp .ne 7, 3) := by decide +kernel
theorem dX4_kindAt_74 : decode cX4_kindAt 74 = .ok (.iconst 4, 1) := by decide +kernel
theorem dX4_kindAt_75 : decode cX4_kindAt 75 = .ok (.goto 15, 3) := by decide +kernel
theorem dX4_kindAt_78 : decode cX4_kindAt 78 = .ok (.iload_n 2, 1) := by decide +kernel
theorem dX4_kindAt_79 : decode cX4_kindAt 79 = .ok (.bipush 41, 2) := by decide +kernel
theorem dX4_kindAt_81 : decode cX4_kindAt 81 = .ok (.if_icmp .ne 7, 3) := by decide +kernel
theorem dX4_kindAt_84 : decode cX4_kindAt 84 = .ok (.iconst 5, 1) := by decide +kernel
theorem dX4_kindAt_85 : decode cX4_kindAt 85 = .ok (.goto 5, 3) := by decide +kernel
theorem dX4_kindAt_88 : decode cX4_kindAt 88 = .ok (.bipush 6, 2) := by decide +kernel
theorem dX4_kindAt_90 : decode cX4_kindAt 90 = .ok (.ireturn, 1) := by decide +kernel
theorem dX4_isName_0 : decode cX4_isName 0 = .ok (.aload_n 0, 1) := by decide +kernel
theorem dX4_isName_1 : decode cX4_isName 1 = .ok (.getfield 45, 3) := by decide +kernel
theorem dX4_isName_4 : decode cX4_isName 4 = .ok (.iconst 1, 1) := by decide +kernel
theorem dX4_isName_5 : decode cX4_isName 5 = .ok (.if_icmp .ne 21, 3) := by decide +kernel
theorem dX4_isName_8 : decode cX4_isName 8 = .ok (.aload_n 0, 1) := by decide +kernel
theorem dX4_isName_9 : decode cX4_isName 9 = .ok (.getfield 25, 3) := by decide +kernel
theorem dX4_isName_12 : decode cX4_isName 12 = .ok (.aload_n 0, 1) := by decide +kernel
theorem dX4_isName_13 : decode cX4_isName 13 = .ok (.getfield 31, 3) := by decide +kernel
theorem dX4_isName_16 : decode cX4_isName 16 = .ok (.isub, 1) := by decide +kernel
theorem dX4_isName_17 : decode cX4_isName 17 = .ok (.bipush 8, 2) := by decide +kernel
theorem dX4_isName_19 : decode cX4_isName 19 = .ok (.if_icmp .gt 7, 3) := by decide +kernel
theorem dX4_isName_22 : decode cX4_isName 22 = .ok (.iconst 1, 1) := by decide +kernel
theorem dX4_isName_23 : decode cX4_isName 23 = .ok (.goto 4, 3) := by decide +kernel
theorem dX4_isName_26 : decode cX4_isName 26 = .ok (.iconst 0, 1) := by decide +kernel
theorem dX4_isName_27 : decode cX4_isName 27 = .ok (.ireturn, 1) := by decide +kernel
theorem dX5_averageAfter_0 : decode cX5_averageAfter 0 = .ok (.iload_n 2, 1) := by decide +kernel
theorem dX5_averageAfter_1 : decode cX5_averageAfter 1 = .ok (.sipush 1024, 3) := by decide +kernel
theorem dX5_averageAfter_4 : decode cX5_averageAfter 4 = .ok (.iload_n 1, 1) := by decide +kernel
theorem dX5_averageAfter_5 : decode cX5_averageAfter 5 = .ok (.imul, 1) := by decide +kernel
theorem dX5_averageAfter_6 : decode cX5_averageAfter 6 = .ok (.iload_n 2, 1) := by decide +kernel
theorem dX5_averageAfter_7 : decode cX5_averageAfter 7 = .ok (.isub, 1) := by decide +kernel
theorem dX5_averageAfter_8 : decode cX5_averageAfter 8 = .ok (.aload_n 0, 1) := by decide +kernel
theorem dX5_averageAfter_9 : decode cX5_averageAfter 9 = .ok (.getfield 51, 3) := by decide +kernel
theorem dX5_averageAfter_12 : decode cX5_averageAfter 12 = .ok (.ishr, 1) := by decide +kernel
theorem dX5_averageAfter_13 : decode cX5_averageAfter 13 = .ok (.iadd, 1) := by decide +kernel
theorem dX5_averageAfter_14 : decode cX5_averageAfter 14 = .ok (.ireturn, 1) := by decide +kernel
theorem dX5_baseAt_0 : decode cX5_baseAt 0 = .ok (.ldc2_w 107, 3) := by decide +kernel
theorem dX5_baseAt_3 : decode cX5_baseAt 3 = .ok (.aload_n 0, 1) := by decide +kernel
theorem dX5_baseAt_4 : decode cX5_baseAt 4 = .ok (.getfield 42, 3) := by decide +kernel
theorem dX5_baseAt_7 : decode cX5_baseAt 7 = .ok (.i2l, 1) := by decide +kernel
theorem dX5_baseAt_8 : decode cX5_baseAt 8 = .ok (.lmul, 1) := by decide +kernel
theorem dX5_baseAt_9 : decode cX5_baseAt 9 = .ok (.lstore_n 2, 1) := by decide +kernel
theorem dX5_baseAt_10 : decode cX5_baseAt 10 = .ok (.ldc2_w 107, 3) := by decide +kernel
theorem dX5_baseAt_13 : decode cX5_baseAt 13 = .ok (.aload_n 0, 1) := by decide +kernel
theorem dX5_baseAt_14 : decode cX5_baseAt 14 = .ok (.getfield 45, 3) := by decide +kernel
theorem dX5_baseAt_17 : decode cX5_baseAt 17 = .ok (.i2l, 1) := by decide +kernel
theorem dX5_baseAt_18 : decode cX5_baseAt 18 = .ok (.lmul, 1) := by decide +kernel
theorem dX5_baseAt_19 : decode cX5_baseAt 19 = .ok (.lstore 4, 2) := by decide +kernel
theorem dX5_baseAt_21 : decode cX5_baseAt 21 = .ok (.iload_n 1, 1) := by decide +kernel
theorem dX5_baseAt_22 : decode cX5_baseAt 22 = .ok (.i2l, 1) := by decide +kernel
theorem dX5_baseAt_23 : decode cX5_baseAt 23 = .ok (.lload_n 2, 1) := by decide +kernel
theorem dX5_baseAt_24 : decode cX5_baseAt 24 = .ok (.lcmp, 1) := by decide +kernel
theorem dX5_baseAt_25 : decode cX5_baseAt 25 = .ok (.ifCond .lt 10, 3) := by decide +kernel
theorem dX5_baseAt_28 : decode cX5_baseAt 28 = .ok (.lload 4, 2) := by decide +kernel
theorem dX5_baseAt_30 : decode cX5_baseAt 30 = .ok (.lload_n 2, 1) := by decide +kernel
theorem dX5_baseAt_31 : decode cX5_baseAt 31 = .ok (.lcmp, 1) := by decide +kernel
theorem dX5_baseAt_32 : decode cX5_baseAt 32 = .ok (.ifCond .gt 5, 3) := by decide +kernel
theorem dX5_baseAt_35 : decode cX5_baseAt 35 = .ok (.iconst 0, 1) := by decide +kernel
theorem dX5_baseAt_36 : decode cX5_baseAt 36 = .ok (.ireturn, 1) := by decide +kernel
theorem dX5_baseAt_37 : decode cX5_baseAt 37 = .ok (.iload_n 1, 1) := by decide +kernel
theorem dX5_baseAt_38 : decode cX5_baseAt 38 = .ok (.i2l, 1) := by decide +kernel
theorem dX5_baseAt_39 : decode cX5_baseAt 39 = .ok (.lload 4, 2) := by decide +kernel
theorem dX5_baseAt_41 : decode cX5_baseAt 41 = .ok (.lcmp, 1) := by decide +kernel
theorem dX5_baseAt_42 : decode cX5_baseAt 42 = .ok (.ifCond .ge 20, 3) := by decide +kernel
theorem dX5_baseAt_45 : decode cX5_baseAt 45 = .ok (.aload_n 0, 1) := by decide +kernel
theorem dX5_baseAt_46 : decode cX5_baseAt 46 = .ok (.getfield 48, 3) := by decide +kernel
theorem dX5_baseAt_49 : decode cX5_baseAt 49 = .ok (.i2l, 1) := by decide +kernel
theorem dX5_baseAt_50 : decode cX5_baseAt 50 = .ok (.iload_n 1, 1) := by decide +kernel
theorem dX5_baseAt_51 : decode cX5_baseAt 51 = .ok (.i2l, 1) := by decide +kernel
theorem dX5_baseAt_52 : decode cX5_baseAt 52 = .ok (.lload_n 2, 1) := by decide +kernel
theorem dX5_baseAt_53 : decode cX5_baseAt 53 = .ok (.lsub, 1) := by decide +kernel
theorem dX5_baseAt_54 : decode cX5_baseAt 54 = .ok (.lmul, 1) := by decide +kernel
theorem dX5_baseAt_55 : decode cX5_baseAt 55 = .ok (.lload 4, 2) := by decide +kernel
theorem dX5_baseAt_57 : decode cX5_baseAt 57 = .ok (.lload_n 2, 1) := by decide +kernel
theorem dX5_baseAt_58 : decode cX5_baseAt 58 = .ok (.lsub, 1) := by decide +kernel
theorem dX5_baseAt_59 : decode cX5_baseAt 59 = .ok (.ldiv, 1) := by decide +kernel
theorem dX5_baseAt_60 : decode cX5_baseAt 60 = .ok (.l2i, 1) := by decide +kernel
theorem dX5_baseAt_61 : decode cX5_baseAt 61 = .ok (.ireturn, 1) := by decide +kernel
theorem dX5_baseAt_62 : decode cX5_baseAt 62 = .ok (.iload_n 1, 1) := by decide +kernel
theorem dX5_baseAt_63 : decode cX5_baseAt 63 = .ok (.i2l, 1) := by decide +kernel
theorem dX5_baseAt_64 : decode cX5_baseAt 64 = .ok (.lload 4, 2) := by decide +kernel
theorem dX5_baseAt_66 : decode cX5_baseAt 66 = .ok (.aload_n 0, 1) := by decide +kernel
theorem dX5_baseAt_67 : decode cX5_baseAt 67 = .ok (.getfield 54, 3) := by decide +kernel
theorem dX5_baseAt_70 : decode cX5_baseAt 70 = .ok (.iconst 1, 1) := by decide +kernel
theorem dX5_baseAt_71 : decode cX5_baseAt 71 = .ok (.iadd, 1) := by decide +kernel
theorem dX5_baseAt_72 : decode cX5_baseAt 72 = .ok (.i2l, 1) := by decide +kernel
theorem dX5_baseAt_73 : decode cX5_baseAt 73 = .ok (.lmul, 1) := by decide +kernel
theorem dX5_baseAt_74 : decode cX5_baseAt 74 = .ok (.lcmp, 1) := by decide +kernel
theorem dX5_baseAt_75 : decode cX5_baseAt 75 = .ok (.ifCond .lt 6, 3) := by decide +kernel
theorem dX5_baseAt_78 : decode cX5_baseAt 78 = .ok (.ldc 109, 2) := by decide +kernel
theorem dX5_baseAt_80 : decode cX5_baseAt 80 = .ok (.ireturn, 1) := by decide +kernel
theorem dX5_baseAt_81 : decode cX5_baseAt 81 = .ok (.aload_n 0, 1) := by decide +kernel
theorem dX5_baseAt_82 : decode cX5_baseAt 82 = .ok (.getfield 48, 3) := by decide +kernel
theorem dX5_baseAt_85 : decode cX5_baseAt 85 = .ok (.i2l, 1) := by decide +kernel
theorem dX5_baseAt_86 : decode cX5_baseAt 86 = .ok (.ldc 109, 2) := by decide +kernel
theorem dX5_baseAt_88 : decode cX5_baseAt 88 = .ok (.aload_n 0, 1) := by decide +kernel
theorem dX5_baseAt_89 : decode cX5_baseAt 89 = .ok (.getfield 48, 3) := by decide +kernel
theorem dX5_baseAt_92 : decode cX5_baseAt 92 = .ok (.isub, 1) := by decide +kernel
theorem dX5_baseAt_93 : decode cX5_baseAt 93 = .ok (.i2l, 1) := by decide +kernel
theorem dX5_baseAt_94 : decode cX5_baseAt 94 = .ok (.iload_n 1, 1) := by decide +kernel
theorem dX5_baseAt_95 : decode cX5_baseAt 95 = .ok (.i2l, 1) := by decide +kernel
theorem dX5_baseAt_96 : decode cX5_baseAt 96 = .ok (.lload 4, 2) := by decide +kernel
theorem dX5_baseAt_98 : decode cX5_baseAt 98 = .ok (.lsub, 1) := by decide +kernel
theorem dX5_baseAt_99 : decode cX5_baseAt 99 = .ok (.lmul, 1) := by decide +kernel
theorem dX5_baseAt_100 : decode cX5_baseAt 100 = .ok (.lload 4, 2) := by decide +kernel
theorem dX5_baseAt_102 : decode cX5_baseAt 102 = .ok (.ldiv, 1) := by decide +kernel
theorem dX5_baseAt_103 : decode cX5_baseAt 103 = .ok (.ladd, 1) := by decide +kernel
theorem dX5_baseAt_104 : decode cX5_baseAt 104 = .ok (.l2i, 1) := by decide +kernel
theorem dX5_baseAt_105 : decode cX5_baseAt 105 = .ok (.ireturn, 1) := by decide +kernel
theorem dX5_chanceAt_0 : decode cX5_chanceAt 0 = .ok (.iload_n 0, 1) := by decide +kernel
theorem dX5_chanceAt_1 : decode cX5_chanceAt 1 = .ok (.iconst 3, 1) := by decide +kernel
theorem dX5_chanceAt_2 : decode cX5_chanceAt 2 = .ok (.if_icmp .eq 15, 3) := by decide +kernel
theorem dX5_chanceAt_5 : decode cX5_chanceAt 5 = .ok (.iload_n 0, 1) := by decide +kernel
theorem dX5_chanceAt_6 : decode cX5_chanceAt 6 = .ok (.iconst 1, 1) := by decide +kernel
theorem dX5_chanceAt_7 : decode cX5_chanceAt 7 = .ok (.if_icmp .ne 7, 3) := by decide +kernel
theorem dX5_chanceAt_10 : decode cX5_chanceAt 10 = .ok (.iconst 0, 1) := by decide +kernel
theorem dX5_chanceAt_11 : decode cX5_chanceAt 11 = .ok (.goto 5, 3) := by decide +kernel
theorem dX5_chanceAt_14 : decode cX5_chanceAt 14 = .ok (.ldc 109, 2) := by decide +kernel
theorem dX5_chanceAt_16 : decode cX5_chanceAt 16 = .ok (.ireturn, 1) := by decide +kernel
theorem dX5_chanceAt_17 : decode cX5_chanceAt 17 = .ok (.ldc2_w 110, 3) := by decide +kernel
theorem dX5_chanceAt_20 : decode cX5_chanceAt 20 = .ok (.iload_n 2, 1) := by decide +kernel
theorem dX5_chanceAt_21 : decode cX5_chanceAt 21 = .ok (.i2l, 1) := by decide +kernel
theorem dX5_chanceAt_22 : decode cX5_chanceAt 22 = .ok (.iload_n 1, 1) := by decide +kernel
theorem dX5_chanceAt_23 : decode cX5_chanceAt 23 = .ok (.i2l, 1) := by decide +kernel
theorem dX5_chanceAt_24 : decode cX5_chanceAt 24 = .ok (.lmul, 1) := by decide +kernel
theorem dX5_chanceAt_25 : decode cX5_chanceAt 25 = .ok (.lsub, 1) := by decide +kernel
theorem dX5_chanceAt_26 : decode cX5_chanceAt 26 = .ok (.lstore_n 3, 1) := by decide +kernel
theorem dX5_chanceAt_27 : decode cX5_chanceAt 27 = .ok (.lload_n 3, 1) := by decide +kernel
theorem dX5_chanceAt_28 : decode cX5_chanceAt 28 = .ok (.lconst 0, 1) := by decide +kernel
theorem dX5_chanceAt_29 : decode cX5_chanceAt 29 = .ok (.lcmp, 1) := by decide +kernel
theorem dX5_chanceAt_30 : decode cX5_chanceAt 30 = .ok (.ifCond .gt 6, 3) := by decide +kernel
theorem dX5_chanceAt_33 : decode cX5_chanceAt 33 = .ok (.ldc 109, 2) := by decide +kernel
theorem dX5_chanceAt_35 : decode cX5_chanceAt 35 = .ok (.ireturn, 1) := by decide +kernel
theorem dX5_chanceAt_36 : decode cX5_chanceAt 36 = .ok (.ldc2_w 110, 3) := by decide +kernel
theorem dX5_chanceAt_39 : decode cX5_chanceAt 39 = .ok (.iload_n 1, 1) := by decide +kernel
theorem dX5_chanceAt_40 : decode cX5_chanceAt 40 = .ok (.i2l, 1) := by decide +kernel
theorem dX5_chanceAt_41 : decode cX5_chanceAt 41 = .ok (.lmul, 1) := by decide +kernel
theorem dX5_chanceAt_42 : decode cX5_chanceAt 42 = .ok (.lload_n 3, 1) := by decide +kernel
theorem dX5_chanceAt_43 : decode cX5_chanceAt 43 = .ok (.ldiv, 1) := by decide +kernel
theorem dX5_chanceAt_44 : decode cX5_chanceAt 44 = .ok (.lstore 5, 2) := by decide +kernel
theorem dX5_chanceAt_46 : decode cX5_chanceAt 46 = .ok (.lload 5, 2) := by decide +kernel
theorem dX5_chanceAt_48 : decode cX5_chanceAt 48 = .ok (.ldc2_w 110, 3) := by decide +kernel
theorem dX5_chanceAt_51 : decode cX5_chanceAt 51 = .ok (.lcmp, 1) := by decide +kernel
theorem dX5_chanceAt_52 : decode cX5_chanceAt 52 = .ok (.ifCond .ge 9, 3) := by decide +kernel
theorem dX5_chanceAt_55 : decode cX5_chanceAt 55 = .ok (.lload 5, 2) := by decide +kernel
theorem dX5_chanceAt_57 : decode cX5_chanceAt 57 = .ok (.l2i, 1) := by decide +kernel
theorem dX5_chanceAt_58 : decode cX5_chanceAt 58 = .ok (.goto 5, 3) := by decide +kernel
theorem dX5_chanceAt_61 : decode cX5_chanceAt 61 = .ok (.ldc 109, 2) := by decide +kernel
theorem dX5_chanceAt_63 : decode cX5_chanceAt 63 = .ok (.ireturn, 1) := by decide +kernel
-- X0_cell
set_option maxRecDepth 100000 in
set_option maxHeartbeats 4000000 in
theorem zm_X0_cell {l : Launch} {G : zG} {i0 : Nat} {p1 : Int32} {p2 : Int32} {M : zM} {Kf : Int32 → zM → Prop} (h : ((((((((zmI M 21 i0 2) + 24) - p1) - (((zmI M 21 i0 2) + 24) - p1) / 24 * 24) * 8) + p2) < 0 → (Kf (-1) M)) ∧ (¬ ((((((zmI M 21 i0 2) + 24) - p1) - (((zmI M 21 i0 2) + 24) - p1) / 24 * 24) * 8) + p2) < 0 → ((192 ≤ ((((((zmI M 21 i0 2) + 24) - p1) - (((zmI M 21 i0 2) + 24) - p1) / 24 * 24) * 8) + p2) → (Kf (-1) M)) ∧ (¬ 192 ≤ ((((((zmI M 21 i0 2) + 24) - p1) - (((zmI M 21 i0 2) + 24) - p1) / 24 * 24) * 8) + p2) → (vp_in ((((((zmI M 21 i0 2) + 24) - p1) - (((zmI M 21 i0 2) + 24) - p1) / 24 * 24) * 8) + p2) 192 ∧ (Kf (zmI M 22 i0 ((((((zmI M 21 i0 2) + 24) - p1) - (((zmI M 21 i0 2) + 24) - p1) / 24 * 24) * 8) + p2).toNatClampNeg) M))))))) : zCalI l G Y_X0_cell 0 0 [vr 21 i0, vi p1, vi p2] M Kf := by
  refine zCal_of (lv := [(0, vr 21 i0), (1, vi p1), (2, vi p2)]) (by decide) rfl (zle rfl) rfl (fun hv => zlv_args (lv := [(0, vr 21 i0), (1, vi p1), (2, vi p2)]) rfl hv) ?_
  refine Z_aload_n dX0_cell_0 rfl 0 rfl ?_
  refine Z_getI zfl_X0_19 dX0_cell_1 ?_
  refine Z_bipush (v := 24) (by decide) dX0_cell_4 ?_
  refine Z_iadd dX0_cell_6 ?_
  refine Z_iload_n dX0_cell_7 rfl 1 rfl ?_
  refine Z_isub dX0_cell_8 ?_
  refine Z_bipush (v := 24) (by decide) dX0_cell_9 ?_
  refine Z_irem dX0_cell_11 (by decide) ?_
  refine Z_bipush (v := 8) (by decide) dX0_cell_12 ?_
  refine Z_imul dX0_cell_14 ?_
  refine Z_iload_n dX0_cell_15 rfl 2 rfl ?_
  refine Z_iadd dX0_cell_16 ?_
  refine Z_istore_n (lv2 := [(3, vi ((((((zmI M 21 i0 2) + 24) - p1) - (((zmI M 21 i0 2) + 24) - p1) / 24 * 24) * 8) + p2)), (0, vr 21 i0), (1, vi p1), (2, vi p2)]) dX0_cell_17 rfl (by decide) rfl ?_
  refine Z_iload_n dX0_cell_18 rfl 0 rfl ?_
  refine Z_if_lt (tgt := 40) dX0_cell_19 (by decide) (fun q => ?_) (fun q => ?_)
  · have h := h.1 q
    refine Z_iconst (v := (-1)) (by decide) dX0_cell_40 ?_
    exact Z_iret rfl rfl dX0_cell_41 (Nat.le_refl _) (Nat.le_refl _) ⟨_, rfl, h⟩
  · have h := h.2 q
    refine Z_iload_n dX0_cell_22 rfl 0 rfl ?_
    refine Z_aload_n dX0_cell_23 rfl 1 rfl ?_
    refine Z_getR (s1 := 22) (i1 := i0) zfl_X0_11 rfl (fun q => by first | exact q | decide) dX0_cell_24 ?_
    refine Z_alen (n := 192) (v := 192) rfl (by decide) (by decide) dX0_cell_27 ?_
    refine Z_icmp_ge (tgt := 40) dX0_cell_28 (by decide) (fun q => ?_) (fun q => ?_)
    · have h := h.1 q
      refine Z_iconst (v := (-1)) (by decide) dX0_cell_40 ?_
      exact Z_iret rfl rfl dX0_cell_41 (Nat.le_refl _) (Nat.le_refl _) ⟨_, rfl, h⟩
    · have h := h.2 q
      refine Z_aload_n dX0_cell_31 rfl 1 rfl ?_
      refine Z_getR (s1 := 22) (i1 := i0) zfl_X0_11 rfl (fun q => by first | exact q | decide) dX0_cell_32 ?_
      refine Z_iload_n dX0_cell_35 rfl 0 rfl ?_
      obtain ⟨g2, h⟩ := h
      refine Z_iald (n := 192) rfl g2 dX0_cell_36 ?_
      refine Z_goto (tgt := 41) dX0_cell_37 (by decide) ?_
      exact Z_iret rfl rfl dX0_cell_41 (Nat.le_refl _) (Nat.le_refl _) ⟨_, rfl, h⟩
-- X0_close
set_option maxRecDepth 100000 in
set_option maxHeartbeats 4000000 in
theorem zm_X0_close {l : Launch} {G : zG} {i0 : Nat} {p1 : Int32} {p2 : Int32} {p3 : Int32} {p4 : Int32} {M : zM} {Kf : zM → Prop} (h : (((((zmI M 21 i0 2) * 8) + 4) < 0 → (Kf M)) ∧ (¬ (((zmI M 21 i0 2) * 8) + 4) < 0 → ((((((zmI M 21 i0 2) * 8) + 4) + 3) < 192 → (vp_in (((zmI M 21 i0 2) * 8) + 4) 192 ∧ (vp_in ((((zmI M 21 i0 2) * 8) + 4) + 1) 192 ∧ (vp_in ((((zmI M 21 i0 2) * 8) + 4) + 2) 192 ∧ (vp_in ((((zmI M 21 i0 2) * 8) + 4) + 3) 192 ∧ (Kf (zsI (zsI (zsI (zsI M 22 i0 (((zmI M 21 i0 2) * 8) + 4).toNatClampNeg p1) 22 i0 ((((zmI M 21 i0 2) * 8) + 4) + 1).toNatClampNeg p2) 22 i0 ((((zmI M 21 i0 2) * 8) + 4) + 2).toNatClampNeg p3) 22 i0 ((((zmI M 21 i0 2) * 8) + 4) + 3).toNatClampNeg p4))))))) ∧ (¬ ((((zmI M 21 i0 2) * 8) + 4) + 3) < 192 → (Kf M)))))) : zCalV l G Y_X0_close 0 0 [vr 21 i0, vi p1, vi p2, vi p3, vi p4] M Kf := by
  refine zCal_of (lv := [(0, vr 21 i0), (1, vi p1), (2, vi p2), (3, vi p3), (4, vi p4)]) (by decide) rfl (zle rfl) rfl (fun hv => zlv_args (lv := [(0, vr 21 i0), (1, vi p1), (2, vi p2), (3, vi p3), (4, vi p4)]) rfl hv) ?_
  refine Z_aload_n dX0_close_0 rfl 0 rfl ?_
  refine Z_getI zfl_X0_19 dX0_close_1 ?_
  refine Z_bipush (v := 8) (by decide) dX0_close_4 ?_
  refine Z_imul dX0_close_6 ?_
  refine Z_iconst (v := 4) (by decide) dX0_close_7 ?_
  refine Z_iadd dX0_close_8 ?_
  refine Z_istore (lv2 := [(5, vi (((zmI M 21 i0 2) * 8) + 4)), (0, vr 21 i0), (1, vi p1), (2, vi p2), (3, vi p3), (4, vi p4)]) dX0_close_9 (by decide) rfl ?_
  refine Z_iload dX0_close_11 0 rfl ?_
  refine Z_if_lt (tgt := 28) dX0_close_13 (by decide) (fun q => ?_) (fun q => ?_)
  · have h := h.1 q
    exact Z_vret rfl dX0_close_28 (Nat.le_refl _) (Nat.le_refl _) ⟨rfl, h⟩
  · have h := h.2 q
    refine Z_iload dX0_close_16 0 rfl ?_
    refine Z_iconst (v := 3) (by decide) dX0_close_18 ?_
    refine Z_iadd dX0_close_19 ?_
    refine Z_aload_n dX0_close_20 rfl 1 rfl ?_
    refine Z_getR (s1 := 22) (i1 := i0) zfl_X0_11 rfl (fun q => by first | exact q | decide) dX0_close_21 ?_
    refine Z_alen (n := 192) (v := 192) rfl (by decide) (by decide) dX0_close_24 ?_
    refine Z_icmp_lt (tgt := 29) dX0_close_25 (by decide) (fun q => ?_) (fun q => ?_)
    · have h := h.1 q
      refine Z_aload_n dX0_close_29 rfl 1 rfl ?_
      refine Z_getR (s1 := 22) (i1 := i0) zfl_X0_11 rfl (fun q => by first | exact q | decide) dX0_close_30 ?_
      refine Z_iload dX0_close_33 0 rfl ?_
      refine Z_iload_n dX0_close_35 rfl 2 rfl ?_
      obtain ⟨g1, h⟩ := h
      refine Z_iast (n := 192) rfl g1 dX0_close_36 ?_
      refine Z_aload_n dX0_close_37 rfl 1 rfl ?_
      refine Z_getR (s1 := 22) (i1 := i0) zfl_X0_11 rfl (fun q => by first | exact q | decide) dX0_close_38 ?_
      refine Z_iload dX0_close_41 0 rfl ?_
      refine Z_iconst (v := 1) (by decide) dX0_close_43 ?_
      refine Z_iadd dX0_close_44 ?_
      refine Z_iload_n dX0_close_45 rfl 3 rfl ?_
      obtain ⟨g2, h⟩ := h
      refine Z_iast (n := 192) rfl g2 dX0_close_46 ?_
      refine Z_aload_n dX0_close_47 rfl 1 rfl ?_
      refine Z_getR (s1 := 22) (i1 := i0) zfl_X0_11 rfl (fun q => by first | exact q | decide) dX0_close_48 ?_
      refine Z_iload dX0_close_51 0 rfl ?_
      refine Z_iconst (v := 2) (by decide) dX0_close_53 ?_
      refine Z_iadd dX0_close_54 ?_
      refine Z_iload_n dX0_close_55 rfl 4 rfl ?_
      obtain ⟨g3, h⟩ := h
      refine Z_iast (n := 192) rfl g3 dX0_close_56 ?_
      refine Z_aload_n dX0_close_57 rfl 1 rfl ?_
      refine Z_getR (s1 := 22) (i1 := i0) zfl_X0_11 rfl (fun q => by first | exact q | decide) dX0_close_58 ?_
      refine Z_iload dX0_close_61 0 rfl ?_
      refine Z_iconst (v := 3) (by decide) dX0_close_63 ?_
      refine Z_iadd dX0_close_64 ?_
      refine Z_iload dX0_close_65 5 rfl ?_
      obtain ⟨g4, h⟩ := h
      refine Z_iast (n := 192) rfl g4 dX0_close_67 ?_
      exact Z_vret rfl dX0_close_68 (Nat.le_refl _) (Nat.le_refl _) ⟨rfl, h⟩
    · have h := h.2 q
      exact Z_vret rfl dX0_close_28 (Nat.le_refl _) (Nat.le_refl _) ⟨rfl, h⟩
-- X0_forget
set_option maxRecDepth 100000 in
set_option maxHeartbeats 4000000 in
theorem zm_X0_forget {l : Launch} {G : zG} {i0 : Nat} {M : zM} {Kf : zM → Prop} (h : (Kf (zsI (zsI M 21 i0 1 0) 21 i0 2 0))) : zCalV l G Y_X0_forget 0 0 [vr 21 i0] M Kf := by
  refine zCal_of (lv := [(0, vr 21 i0)]) (by decide) rfl (zle rfl) rfl (fun hv => zlv_args (lv := [(0, vr 21 i0)]) rfl hv) ?_
  refine Z_aload_n dX0_forget_0 rfl 0 rfl ?_
  refine Z_iconst (v := 0) (by decide) dX0_forget_1 ?_
  refine Z_putI zfp_X0_15 rfl rfl dX0_forget_2 ?_
  refine Z_aload_n dX0_forget_5 rfl 0 rfl ?_
  refine Z_iconst (v := 0) (by decide) dX0_forget_6 ?_
  refine Z_putI zfp_X0_19 rfl rfl dX0_forget_7 ?_
  exact Z_vret rfl dX0_forget_10 (Nat.le_refl _) (Nat.le_refl _) ⟨rfl, h⟩
-- X1_countArrival
set_option maxRecDepth 100000 in
set_option maxHeartbeats 4000000 in
theorem zm_X1_countArrival {l : Launch} {G : zG} {i0 : Nat} {p1 : Int32} {p2 : Int32} {M : zM} {Kf : zM → Prop} (h : ((¬ p2 = 1 → zAt l G Y_X1_countArrival (zEV G Y_X1_countArrival Kf) 25 [(0, vr 17 i0), (1, vi p1), (2, vi p2)] [] (zsL M 18 i0 0 ((zmL M 18 i0 0) + 1)) 0 0) ∧ (p2 = 1 → zAt l G Y_X1_countArrival (zEV G Y_X1_countArrival Kf) 25 [(0, vr 17 i0), (1, vi p1), (2, vi p2)] [] (zsL (zsL M 18 i0 0 ((zmL M 18 i0 0) + 1)) 18 i0 1 ((zmL (zsL M 18 i0 0 ((zmL M 18 i0 0) + 1)) 18 i0 1) + 1)) 0 0))) : zCalV l G Y_X1_countArrival 0 0 [vr 17 i0, vi p1, vi p2] M Kf := by
  refine zCal_of (lv := [(0, vr 17 i0), (1, vi p1), (2, vi p2)]) (by decide) rfl (zle rfl) rfl (fun hv => zlv_args (lv := [(0, vr 17 i0), (1, vi p1), (2, vi p2)]) rfl hv) ?_
  refine Z_aload_n dX1_countArrival_0 rfl 0 rfl ?_
  refine Z_getR (s1 := 18) (i1 := i0) zfl_X1_17 rfl (fun q => by first | exact q | decide) dX1_countArrival_1 ?_
  refine Z_iconst (v := 0) (by decide) dX1_countArrival_4 ?_
  refine Z_dup2 rfl rfl dX1_countArrival_5 ?_
  refine Z_laldK (n := 8) (j := 0) rfl (by decide) (zvin (by decide)) dX1_countArrival_6 ?_
  refine Z_lconst (v := 1) (by decide) dX1_countArrival_7 ?_
  refine Z_ladd dX1_countArrival_8 ?_
  refine Z_lastK (n := 8) (j := 0) rfl (by decide) (zvin (by decide)) dX1_countArrival_9 ?_
  refine Z_iload_n dX1_countArrival_10 rfl 2 rfl ?_
  refine Z_iconst (v := 1) (by decide) dX1_countArrival_11 ?_
  refine Z_icmp_ne (tgt := 25) dX1_countArrival_12 (by decide) (fun q => ?_) (fun q => ?_)
  · have h := h.1 q
    exact h
  · have h := h.2 q
    refine Z_aload_n dX1_countArrival_15 rfl 0 rfl ?_
    refine Z_getR (s1 := 18) (i1 := i0) zfl_X1_17 rfl (fun q => by first | exact q | decide) dX1_countArrival_16 ?_
    refine Z_iconst (v := 1) (by decide) dX1_countArrival_19 ?_
    refine Z_dup2 rfl rfl dX1_countArrival_20 ?_
    refine Z_laldK (n := 8) (j := 1) rfl (by decide) (zvin (by decide)) dX1_countArrival_21 ?_
    refine Z_lconst (v := 1) (by decide) dX1_countArrival_22 ?_
    refine Z_ladd dX1_countArrival_23 ?_
    refine Z_lastK (n := 8) (j := 1) rfl (by decide) (zvin (by decide)) dX1_countArrival_24 ?_
    exact h
set_option maxRecDepth 100000 in
set_option maxHeartbeats 4000000 in
theorem zb_X1_countArrival_25 {l : Launch} {G : zG} {i0 : Nat} {y1 : Int32} {y2 : Int32} {M : zM} {Kf : zM → Prop} (h : ((¬ y2 = 2 → zAt l G Y_X1_countArrival (zEV G Y_X1_countArrival Kf) 57 [(0, vr 17 i0), (2, vi y2)] [] M 0 0) ∧ (y2 = 2 → ((¬ y1 = 0 → ((¬ y1 = 2 → zAt l G Y_X1_countArrival (zEV G Y_X1_countArrival Kf) 52 [(0, vr 17 i0), (2, vi y2)] [vi 2, vr 18 i0] M 0 0) ∧ (y1 = 2 → zAt l G Y_X1_countArrival (zEV G Y_X1_countArrival Kf) 52 [(0, vr 17 i0), (2, vi y2)] [vi 3, vr 18 i0] M 0 0))) ∧ (y1 = 0 → zAt l G Y_X1_countArrival (zEV G Y_X1_countArrival Kf) 52 [(0, vr 17 i0), (2, vi y2)] [vi 4, vr 18 i0] M 0 0))))) : zAt l G Y_X1_countArrival (zEV G Y_X1_countArrival Kf) 25 [(0, vr 17 i0), (1, vi y1), (2, vi y2)] [] M 0 0 := by
  refine Z_iload_n dX1_countArrival_25 rfl 2 rfl ?_
  refine Z_iconst (v := 2) (by decide) dX1_countArrival_26 ?_
  refine Z_icmp_ne (tgt := 57) dX1_countArrival_27 (by decide) (fun q => ?_) (fun q => ?_)
  · have h := h.1 q
    exact Z_pick [0, 2] rfl h
  · have h := h.2 q
    refine Z_aload_n dX1_countArrival_30 rfl 0 rfl ?_
    refine Z_getR (s1 := 18) (i1 := i0) zfl_X1_17 rfl (fun q => by first | exact q | decide) dX1_countArrival_31 ?_
    refine Z_iload_n dX1_countArrival_34 rfl 1 rfl ?_
    refine Z_if_ne (tgt := 42) dX1_countArrival_35 (by decide) (fun q => ?_) (fun q => ?_)
    · have h := h.1 q
      refine Z_iload_n dX1_countArrival_42 rfl 1 rfl ?_
      refine Z_iconst (v := 2) (by decide) dX1_countArrival_43 ?_
      refine Z_icmp_ne (tgt := 51) dX1_countArrival_44 (by decide) (fun q => ?_) (fun q => ?_)
      · have h := h.1 q
        refine Z_iconst (v := 2) (by decide) dX1_countArrival_51 ?_
        exact Z_pick [0, 2] rfl h
      · have h := h.2 q
        refine Z_iconst (v := 3) (by decide) dX1_countArrival_47 ?_
        refine Z_goto (tgt := 52) dX1_countArrival_48 (by decide) ?_
        exact Z_pick [0, 2] rfl h
    · have h := h.2 q
      refine Z_iconst (v := 4) (by decide) dX1_countArrival_38 ?_
      refine Z_goto (tgt := 52) dX1_countArrival_39 (by decide) ?_
      exact Z_pick [0, 2] rfl h
set_option maxRecDepth 100000 in
set_option maxHeartbeats 4000000 in
theorem zb_X1_countArrival_57 {l : Launch} {G : zG} {i0 : Nat} {y2 : Int32} {M : zM} {Kf : zM → Prop} (h : ((¬ (zmI M 17 i0 8) = 0 → (Kf (zsI M 17 i0 8 1))) ∧ ((zmI M 17 i0 8) = 0 → ((y2 = 0 → (Kf (zsI M 17 i0 8 0))) ∧ (¬ y2 = 0 → (Kf (zsI M 17 i0 8 1))))))) : zAt l G Y_X1_countArrival (zEV G Y_X1_countArrival Kf) 57 [(0, vr 17 i0), (2, vi y2)] [] M 0 0 := by
  refine Z_aload_n dX1_countArrival_57 rfl 0 rfl ?_
  refine Z_aload_n dX1_countArrival_58 rfl 0 rfl ?_
  refine Z_getI zfl_X1_32 dX1_countArrival_59 ?_
  refine Z_if_ne (tgt := 69) dX1_countArrival_62 (by decide) (fun q => ?_) (fun q => ?_)
  · have h := h.1 q
    refine Z_iconst (v := 1) (by decide) dX1_countArrival_69 ?_
    refine Z_goto (tgt := 74) dX1_countArrival_70 (by decide) ?_
    refine Z_putI zfp_X1_32 (by decide) (by decide) dX1_countArrival_74 ?_
    exact Z_vret rfl dX1_countArrival_77 (Nat.le_refl _) (Nat.le_refl _) ⟨rfl, h⟩
  · have h := h.2 q
    refine Z_iload_n dX1_countArrival_65 rfl 1 rfl ?_
    refine Z_if_eq (tgt := 73) dX1_countArrival_66 (by decide) (fun q => ?_) (fun q => ?_)
    · have h := h.1 q
      refine Z_iconst (v := 0) (by decide) dX1_countArrival_73 ?_
      refine Z_putI zfp_X1_32 (by decide) (by decide) dX1_countArrival_74 ?_
      exact Z_vret rfl dX1_countArrival_77 (Nat.le_refl _) (Nat.le_refl _) ⟨rfl, h⟩
    · have h := h.2 q
      refine Z_iconst (v := 1) (by decide) dX1_countArrival_69 ?_
      refine Z_goto (tgt := 74) dX1_countArrival_70 (by decide) ?_
      refine Z_putI zfp_X1_32 (by decide) (by decide) dX1_countArrival_74 ?_
      exact Z_vret rfl dX1_countArrival_77 (Nat.le_refl _) (Nat.le_refl _) ⟨rfl, h⟩
set_option maxRecDepth 100000 in
set_option maxHeartbeats 4000000 in
theorem zb_X1_countArrival_52 {l : Launch} {G : zG} {i0 : Nat} {y2 : Int32} {s0 : Int32} {M : zM} {Kf : zM → Prop} (h : (vp_in s0 8 ∧ (vp_in s0 8 ∧ zAt l G Y_X1_countArrival (zEV G Y_X1_countArrival Kf) 57 [(0, vr 17 i0), (2, vi y2)] [] (zsL M 18 i0 s0.toNatClampNeg ((zmL M 18 i0 s0.toNatClampNeg) + 1)) 0 0))) : zAt l G Y_X1_countArrival (zEV G Y_X1_countArrival Kf) 52 [(0, vr 17 i0), (2, vi y2)] [vi s0, vr 18 i0] M 0 0 := by
  refine Z_dup2 rfl rfl dX1_countArrival_52 ?_
  obtain ⟨g1, h⟩ := h
  refine Z_lald (n := 8) rfl g1 dX1_countArrival_53 ?_
  refine Z_lconst (v := 1) (by decide) dX1_countArrival_54 ?_
  refine Z_ladd dX1_countArrival_55 ?_
  obtain ⟨g2, h⟩ := h
  refine Z_last (n := 8) rfl g2 dX1_countArrival_56 ?_
  exact h
-- X1_countLeaving
set_option maxRecDepth 100000 in
set_option maxHeartbeats 4000000 in
theorem zm_X1_countLeaving {l : Launch} {G : zG} {i0 : Nat} {p1 : Int32} {p2 : Int32} {M : zM} {Kf : zM → Prop} (h : (Kf (zsL (zsL (zsL M 18 i0 5 ((zmL M 18 i0 5) + 1)) 18 i0 6 ((zmL (zsL M 18 i0 5 ((zmL M 18 i0 5) + 1)) 18 i0 6) + ((p2 : Int32).toInt64))) 18 i0 7 ((zmL (zsL (zsL M 18 i0 5 ((zmL M 18 i0 5) + 1)) 18 i0 6 ((zmL (zsL M 18 i0 5 ((zmL M 18 i0 5) + 1)) 18 i0 6) + ((p2 : Int32).toInt64))) 18 i0 7) + ((p1 : Int32).toInt64))))) : zCalV l G Y_X1_countLeaving 0 0 [vr 17 i0, vi p1, vi p2] M Kf := by
  refine zCal_of (lv := [(0, vr 17 i0), (1, vi p1), (2, vi p2)]) (by decide) rfl (zle rfl) rfl (fun hv => zlv_args (lv := [(0, vr 17 i0), (1, vi p1), (2, vi p2)]) rfl hv) ?_
  refine Z_aload_n dX1_countLeaving_0 rfl 0 rfl ?_
  refine Z_getR (s1 := 18) (i1 := i0) zfl_X1_17 rfl (fun q => by first | exact q | decide) dX1_countLeaving_1 ?_
  refine Z_iconst (v := 5) (by decide) dX1_countLeaving_4 ?_
  refine Z_dup2 rfl rfl dX1_countLeaving_5 ?_
  refine Z_laldK (n := 8) (j := 5) rfl (by decide) (zvin (by decide)) dX1_countLeaving_6 ?_
  refine Z_lconst (v := 1) (by decide) dX1_countLeaving_7 ?_
  refine Z_ladd dX1_countLeaving_8 ?_
  refine Z_lastK (n := 8) (j := 5) rfl (by decide) (zvin (by decide)) dX1_countLeaving_9 ?_
  refine Z_aload_n dX1_countLeaving_10 rfl 0 rfl ?_
  refine Z_getR (s1 := 18) (i1 := i0) zfl_X1_17 rfl (fun q => by first | exact q | decide) dX1_countLeaving_11 ?_
  refine Z_bipush (v := 6) (by decide) dX1_countLeaving_14 ?_
  refine Z_dup2 rfl rfl dX1_countLeaving_16 ?_
  refine Z_laldK (n := 8) (j := 6) rfl (by decide) (zvin (by decide)) dX1_countLeaving_17 ?_
  refine Z_iload_n dX1_countLeaving_18 rfl 2 rfl ?_
  refine Z_i2l dX1_countLeaving_19 ?_
  refine Z_ladd dX1_countLeaving_20 ?_
  refine Z_lastK (n := 8) (j := 6) rfl (by decide) (zvin (by decide)) dX1_countLeaving_21 ?_
  refine Z_aload_n dX1_countLeaving_22 rfl 0 rfl ?_
  refine Z_getR (s1 := 18) (i1 := i0) zfl_X1_17 rfl (fun q => by first | exact q | decide) dX1_countLeaving_23 ?_
  refine Z_bipush (v := 7) (by decide) dX1_countLeaving_26 ?_
  refine Z_dup2 rfl rfl dX1_countLeaving_28 ?_
  refine Z_laldK (n := 8) (j := 7) rfl (by decide) (zvin (by decide)) dX1_countLeaving_29 ?_
  refine Z_iload_n dX1_countLeaving_30 rfl 1 rfl ?_
  refine Z_i2l dX1_countLeaving_31 ?_
  refine Z_ladd dX1_countLeaving_32 ?_
  refine Z_lastK (n := 8) (j := 7) rfl (by decide) (zvin (by decide)) dX1_countLeaving_33 ?_
  exact Z_vret rfl dX1_countLeaving_34 (Nat.le_refl _) (Nat.le_refl _) ⟨rfl, h⟩
-- X1_drops
set_option maxRecDepth 100000 in
set_option maxHeartbeats 4000000 in
theorem zm_X1_drops {l : Launch} {G : zG} {i0 : Nat} {M : zM} {Kf : Int64 → zM → Prop} (h : (Kf (((zmL M 18 i0 2) + (zmL M 18 i0 3)) + (zmL M 18 i0 4)) M)) : zCalL l G Y_X1_drops 0 0 [vr 17 i0] M Kf := by
  refine zCal_of (lv := [(0, vr 17 i0)]) (by decide) rfl (zle rfl) rfl (fun hv => zlv_args (lv := [(0, vr 17 i0)]) rfl hv) ?_
  refine Z_aload_n dX1_drops_0 rfl 0 rfl ?_
  refine Z_getR (s1 := 18) (i1 := i0) zfl_X1_17 rfl (fun q => by first | exact q | decide) dX1_drops_1 ?_
  refine Z_iconst (v := 2) (by decide) dX1_drops_4 ?_
  refine Z_laldK (n := 8) (j := 2) rfl (by decide) (zvin (by decide)) dX1_drops_5 ?_
  refine Z_aload_n dX1_drops_6 rfl 0 rfl ?_
  refine Z_getR (s1 := 18) (i1 := i0) zfl_X1_17 rfl (fun q => by first | exact q | decide) dX1_drops_7 ?_
  refine Z_iconst (v := 3) (by decide) dX1_drops_10 ?_
  refine Z_laldK (n := 8) (j := 3) rfl (by decide) (zvin (by decide)) dX1_drops_11 ?_
  refine Z_ladd dX1_drops_12 ?_
  refine Z_aload_n dX1_drops_13 rfl 0 rfl ?_
  refine Z_getR (s1 := 18) (i1 := i0) zfl_X1_17 rfl (fun q => by first | exact q | decide) dX1_drops_14 ?_
  refine Z_iconst (v := 4) (by decide) dX1_drops_17 ?_
  refine Z_laldK (n := 8) (j := 4) rfl (by decide) (zvin (by decide)) dX1_drops_18 ?_
  refine Z_ladd dX1_drops_19 ?_
  exact Z_lret rfl dX1_drops_20 (Nat.le_refl _) (Nat.le_refl _) ⟨_, rfl, h⟩
-- X1_sendsAt
set_option maxRecDepth 100000 in
set_option maxHeartbeats 4000000 in
theorem zm_X1_sendsAt {l : Launch} {G : zG} {i0 : Nat} {p1 : Int32} {M : zM} {Kf : Int32 → zM → Prop} (h : (((zmI M 17 i0 6) = 0 → (Kf 0 M)) ∧ (¬ (zmI M 17 i0 6) = 0 → ((p1 < (zmI M 17 i0 1) → (Kf 0 M)) ∧ (¬ p1 < (zmI M 17 i0 1) → (((zmI M 17 i0 2) ≤ 0 → (Kf 0 M)) ∧ (¬ (zmI M 17 i0 2) ≤ 0 → (¬ (zmI M 17 i0 2) = 0 ∧ ((¬ ((p1 - (zmI M 17 i0 1)) - (p1 - (zmI M 17 i0 1)) / (zmI M 17 i0 2) * (zmI M 17 i0 2)) = 0 → (Kf 0 M)) ∧ (((p1 - (zmI M 17 i0 1)) - (p1 - (zmI M 17 i0 1)) / (zmI M 17 i0 2) * (zmI M 17 i0 2)) = 0 → (Kf 1 M))))))))))) : zCalI l G Y_X1_sendsAt 0 0 [vr 17 i0, vi p1] M Kf := by
  refine zCal_of (lv := [(0, vr 17 i0), (1, vi p1)]) (by decide) rfl (zle rfl) rfl (fun hv => zlv_args (lv := [(0, vr 17 i0), (1, vi p1)]) rfl hv) ?_
  refine Z_aload_n dX1_sendsAt_0 rfl 0 rfl ?_
  refine Z_getI zfl_X1_21 dX1_sendsAt_1 ?_
  refine Z_if_eq (tgt := 40) dX1_sendsAt_4 (by decide) (fun q => ?_) (fun q => ?_)
  · have h := h.1 q
    refine Z_iconst (v := 0) (by decide) dX1_sendsAt_40 ?_
    exact Z_iret rfl (by decide) dX1_sendsAt_41 (Nat.le_refl _) (Nat.le_refl _) ⟨_, rfl, h⟩
  · have h := h.2 q
    refine Z_iload_n dX1_sendsAt_7 rfl 1 rfl ?_
    refine Z_aload_n dX1_sendsAt_8 rfl 0 rfl ?_
    refine Z_getI zfl_X1_44 dX1_sendsAt_9 ?_
    refine Z_icmp_lt (tgt := 40) dX1_sendsAt_12 (by decide) (fun q => ?_) (fun q => ?_)
    · have h := h.1 q
      refine Z_iconst (v := 0) (by decide) dX1_sendsAt_40 ?_
      exact Z_iret rfl (by decide) dX1_sendsAt_41 (Nat.le_refl _) (Nat.le_refl _) ⟨_, rfl, h⟩
    · have h := h.2 q
      refine Z_aload_n dX1_sendsAt_15 rfl 0 rfl ?_
      refine Z_getI zfl_X1_47 dX1_sendsAt_16 ?_
      refine Z_if_le (tgt := 40) dX1_sendsAt_19 (by decide) (fun q => ?_) (fun q => ?_)
      · have h := h.1 q
        refine Z_iconst (v := 0) (by decide) dX1_sendsAt_40 ?_
        exact Z_iret rfl (by decide) dX1_sendsAt_41 (Nat.le_refl _) (Nat.le_refl _) ⟨_, rfl, h⟩
      · have h := h.2 q
        refine Z_iload_n dX1_sendsAt_22 rfl 1 rfl ?_
        refine Z_aload_n dX1_sendsAt_23 rfl 0 rfl ?_
        refine Z_getI zfl_X1_44 dX1_sendsAt_24 ?_
        refine Z_isub dX1_sendsAt_27 ?_
        refine Z_aload_n dX1_sendsAt_28 rfl 0 rfl ?_
        refine Z_getI zfl_X1_47 dX1_sendsAt_29 ?_
        obtain ⟨g1, h⟩ := h
        refine Z_irem dX1_sendsAt_32 g1 ?_
        refine Z_if_ne (tgt := 40) dX1_sendsAt_33 (by decide) (fun q => ?_) (fun q => ?_)
        · have h := h.1 q
          refine Z_iconst (v := 0) (by decide) dX1_sendsAt_40 ?_
          exact Z_iret rfl (by decide) dX1_sendsAt_41 (Nat.le_refl _) (Nat.le_refl _) ⟨_, rfl, h⟩
        · have h := h.2 q
          refine Z_iconst (v := 1) (by decide) dX1_sendsAt_36 ?_
          refine Z_goto (tgt := 41) dX1_sendsAt_37 (by decide) ?_
          exact Z_iret rfl (by decide) dX1_sendsAt_41 (Nat.le_refl _) (Nat.le_refl _) ⟨_, rfl, h⟩
-- X1_ticksToSending
set_option maxRecDepth 100000 in
set_option maxHeartbeats 4000000 in
theorem zm_X1_ticksToSending {l : Launch} {G : zG} {i0 : Nat} {p1 : Int32} {M : zM} {Kf : Int32 → zM → Prop} (h : ((p1 < (zmI M 17 i0 1) → (Kf ((zmI M 17 i0 1) - p1) M)) ∧ (¬ p1 < (zmI M 17 i0 1) → ((1 ≤ (zmI M 17 i0 2) → (¬ (zmI M 17 i0 2) = 0 ∧ (Kf ((zmI M 17 i0 2) - ((p1 - (zmI M 17 i0 1)) - (p1 - (zmI M 17 i0 1)) / (zmI M 17 i0 2) * (zmI M 17 i0 2))) M))) ∧ (¬ 1 ≤ (zmI M 17 i0 2) → (Kf ((zmI M 17 i0 1) - p1) M)))))) : zCalI l G Y_X1_ticksToSending 0 0 [vr 17 i0, vi p1] M Kf := by
  refine zCal_of (lv := [(0, vr 17 i0), (1, vi p1)]) (by decide) rfl (zle rfl) rfl (fun hv => zlv_args (lv := [(0, vr 17 i0), (1, vi p1)]) rfl hv) ?_
  refine Z_iload_n dX1_ticksToSending_0 rfl 1 rfl ?_
  refine Z_aload_n dX1_ticksToSending_1 rfl 0 rfl ?_
  refine Z_getI zfl_X1_44 dX1_ticksToSending_2 ?_
  refine Z_icmp_lt (tgt := 16) dX1_ticksToSending_5 (by decide) (fun q => ?_) (fun q => ?_)
  · have h := h.1 q
    refine Z_aload_n dX1_ticksToSending_16 rfl 0 rfl ?_
    refine Z_getI zfl_X1_44 dX1_ticksToSending_17 ?_
    refine Z_iload_n dX1_ticksToSending_20 rfl 1 rfl ?_
    refine Z_isub dX1_ticksToSending_21 ?_
    exact Z_iret rfl rfl dX1_ticksToSending_22 (Nat.le_refl _) (Nat.le_refl _) ⟨_, rfl, h⟩
  · have h := h.2 q
    refine Z_aload_n dX1_ticksToSending_8 rfl 0 rfl ?_
    refine Z_getI zfl_X1_47 dX1_ticksToSending_9 ?_
    refine Z_iconst (v := 1) (by decide) dX1_ticksToSending_12 ?_
    refine Z_icmp_ge (tgt := 23) dX1_ticksToSending_13 (by decide) (fun q => ?_) (fun q => ?_)
    · have h := h.1 q
      refine Z_aload_n dX1_ticksToSending_23 rfl 0 rfl ?_
      refine Z_getI zfl_X1_47 dX1_ticksToSending_24 ?_
      refine Z_iload_n dX1_ticksToSending_27 rfl 1 rfl ?_
      refine Z_aload_n dX1_ticksToSending_28 rfl 0 rfl ?_
      refine Z_getI zfl_X1_44 dX1_ticksToSending_29 ?_
      refine Z_isub dX1_ticksToSending_32 ?_
      refine Z_aload_n dX1_ticksToSending_33 rfl 0 rfl ?_
      refine Z_getI zfl_X1_47 dX1_ticksToSending_34 ?_
      obtain ⟨g1, h⟩ := h
      refine Z_irem dX1_ticksToSending_37 g1 ?_
      refine Z_isub dX1_ticksToSending_38 ?_
      exact Z_iret rfl rfl dX1_ticksToSending_39 (Nat.le_refl _) (Nat.le_refl _) ⟨_, rfl, h⟩
    · have h := h.2 q
      refine Z_aload_n dX1_ticksToSending_16 rfl 0 rfl ?_
      refine Z_getI zfl_X1_44 dX1_ticksToSending_17 ?_
      refine Z_iload_n dX1_ticksToSending_20 rfl 1 rfl ?_
      refine Z_isub dX1_ticksToSending_21 ?_
      exact Z_iret rfl rfl dX1_ticksToSending_22 (Nat.le_refl _) (Nat.le_refl _) ⟨_, rfl, h⟩
-- X2_forget
set_option maxRecDepth 100000 in
set_option maxHeartbeats 4000000 in
theorem zm_X2_forget {l : Launch} {G : zG} {M : zM} {Kf : zM → Prop} (h : (Kf (zsI M 10 0 2 0))) : zCalV l G Y_X2_forget 0 0 [vr 10 0] M Kf := by
  refine zCal_of (lv := [(0, vr 10 0)]) (by decide) rfl (zle rfl) rfl (fun hv => zlv_args (lv := [(0, vr 10 0)]) rfl hv) ?_
  refine Z_aload_n dX2_forget_0 rfl 0 rfl ?_
  refine Z_iconst (v := 0) (by decide) dX2_forget_1 ?_
  refine Z_putI zfp_X2_18 rfl rfl dX2_forget_2 ?_
  exact Z_vret rfl dX2_forget_5 (Nat.le_refl _) (Nat.le_refl _) ⟨rfl, h⟩
-- X3_add
set_option maxRecDepth 100000 in
set_option maxHeartbeats 4000000 in
theorem zm_X3_add {l : Launch} {G : zG} {i0 : Nat} {p1 : Int32} {p2 : Int32} {p3 : Int32} {M : zM} {Kf : zM → Prop} (h : ((((zmI M 19 i0 1) * 3) < 0 → (Kf M)) ∧ (¬ ((zmI M 19 i0 1) * 3) < 0 → (((((zmI M 19 i0 1) * 3) + 2) < 120 → (vp_in ((zmI M 19 i0 1) * 3) 120 ∧ (vp_in (((zmI M 19 i0 1) * 3) + 1) 120 ∧ (vp_in (((zmI M 19 i0 1) * 3) + 2) 120 ∧ (Kf (zsI (zsI (zsI (zsI M 20 i0 ((zmI M 19 i0 1) * 3).toNatClampNeg p1) 20 i0 (((zmI M 19 i0 1) * 3) + 1).toNatClampNeg p2) 20 i0 (((zmI M 19 i0 1) * 3) + 2).toNatClampNeg p3) 19 i0 1 ((zmI (zsI (zsI (zsI M 20 i0 ((zmI M 19 i0 1) * 3).toNatClampNeg p1) 20 i0 (((zmI M 19 i0 1) * 3) + 1).toNatClampNeg p2) 20 i0 (((zmI M 19 i0 1) * 3) + 2).toNatClampNeg p3) 19 i0 1) + 1))))))) ∧ (¬ (((zmI M 19 i0 1) * 3) + 2) < 120 → (Kf M)))))) : zCalV l G Y_X3_add 0 0 [vr 19 i0, vi p1, vi p2, vi p3] M Kf := by
  refine zCal_of (lv := [(0, vr 19 i0), (1, vi p1), (2, vi p2), (3, vi p3)]) (by decide) rfl (zle rfl) rfl (fun hv => zlv_args (lv := [(0, vr 19 i0), (1, vi p1), (2, vi p2), (3, vi p3)]) rfl hv) ?_
  refine Z_aload_n dX3_add_0 rfl 0 rfl ?_
  refine Z_getI zfl_X3_15 dX3_add_1 ?_
  refine Z_iconst (v := 3) (by decide) dX3_add_4 ?_
  refine Z_imul dX3_add_5 ?_
  refine Z_istore (lv2 := [(4, vi ((zmI M 19 i0 1) * 3)), (0, vr 19 i0), (1, vi p1), (2, vi p2), (3, vi p3)]) dX3_add_6 (by decide) rfl ?_
  refine Z_iload dX3_add_8 0 rfl ?_
  refine Z_if_lt (tgt := 25) dX3_add_10 (by decide) (fun q => ?_) (fun q => ?_)
  · have h := h.1 q
    exact Z_vret rfl dX3_add_25 (Nat.le_refl _) (Nat.le_refl _) ⟨rfl, h⟩
  · have h := h.2 q
    refine Z_iload dX3_add_13 0 rfl ?_
    refine Z_iconst (v := 2) (by decide) dX3_add_15 ?_
    refine Z_iadd dX3_add_16 ?_
    refine Z_aload_n dX3_add_17 rfl 1 rfl ?_
    refine Z_getR (s1 := 20) (i1 := i0) zfl_X3_11 rfl (fun q => by first | exact q | decide) dX3_add_18 ?_
    refine Z_alen (n := 120) (v := 120) rfl (by decide) (by decide) dX3_add_21 ?_
    refine Z_icmp_lt (tgt := 26) dX3_add_22 (by decide) (fun q => ?_) (fun q => ?_)
    · have h := h.1 q
      refine Z_aload_n dX3_add_26 rfl 1 rfl ?_
      refine Z_getR (s1 := 20) (i1 := i0) zfl_X3_11 rfl (fun q => by first | exact q | decide) dX3_add_27 ?_
      refine Z_iload dX3_add_30 0 rfl ?_
      refine Z_iload_n dX3_add_32 rfl 2 rfl ?_
      obtain ⟨g1, h⟩ := h
      refine Z_iast (n := 120) rfl g1 dX3_add_33 ?_
      refine Z_aload_n dX3_add_34 rfl 1 rfl ?_
      refine Z_getR (s1 := 20) (i1 := i0) zfl_X3_11 rfl (fun q => by first | exact q | decide) dX3_add_35 ?_
      refine Z_iload dX3_add_38 0 rfl ?_
      refine Z_iconst (v := 1) (by decide) dX3_add_40 ?_
      refine Z_iadd dX3_add_41 ?_
      refine Z_iload_n dX3_add_42 rfl 3 rfl ?_
      obtain ⟨g2, h⟩ := h
      refine Z_iast (n := 120) rfl g2 dX3_add_43 ?_
      refine Z_aload_n dX3_add_44 rfl 1 rfl ?_
      refine Z_getR (s1 := 20) (i1 := i0) zfl_X3_11 rfl (fun q => by first | exact q | decide) dX3_add_45 ?_
      refine Z_iload dX3_add_48 0 rfl ?_
      refine Z_iconst (v := 2) (by decide) dX3_add_50 ?_
      refine Z_iadd dX3_add_51 ?_
      refine Z_iload_n dX3_add_52 rfl 4 rfl ?_
      obtain ⟨g3, h⟩ := h
      refine Z_iast (n := 120) rfl g3 dX3_add_53 ?_
      refine Z_aload_n dX3_add_54 rfl 1 rfl ?_
      refine Z_dup rfl dX3_add_55 ?_
      refine Z_getI zfl_X3_15 dX3_add_56 ?_
      refine Z_iconst (v := 1) (by decide) dX3_add_59 ?_
      refine Z_iadd dX3_add_60 ?_
      refine Z_putI zfp_X3_15 rfl rfl dX3_add_61 ?_
      exact Z_vret rfl dX3_add_64 (Nat.le_refl _) (Nat.le_refl _) ⟨rfl, h⟩
    · have h := h.2 q
      exact Z_vret rfl dX3_add_25 (Nat.le_refl _) (Nat.le_refl _) ⟨rfl, h⟩
-- X3_cell
set_option maxRecDepth 100000 in
set_option maxHeartbeats 4000000 in
theorem zm_X3_cell {l : Launch} {G : zG} {i0 : Nat} {p1 : Int32} {p2 : Int32} {M : zM} {Kf : Int32 → zM → Prop} (h : ((((p1 * 3) + p2) < 0 → (Kf (-1) M)) ∧ (¬ ((p1 * 3) + p2) < 0 → ((120 ≤ ((p1 * 3) + p2) → (Kf (-1) M)) ∧ (¬ 120 ≤ ((p1 * 3) + p2) → (vp_in ((p1 * 3) + p2) 120 ∧ (Kf (zmI M 20 i0 ((p1 * 3) + p2).toNatClampNeg) M))))))) : zCalI l G Y_X3_cell 0 0 [vr 19 i0, vi p1, vi p2] M Kf := by
  refine zCal_of (lv := [(0, vr 19 i0), (1, vi p1), (2, vi p2)]) (by decide) rfl (zle rfl) rfl (fun hv => zlv_args (lv := [(0, vr 19 i0), (1, vi p1), (2, vi p2)]) rfl hv) ?_
  refine Z_iload_n dX3_cell_0 rfl 1 rfl ?_
  refine Z_iconst (v := 3) (by decide) dX3_cell_1 ?_
  refine Z_imul dX3_cell_2 ?_
  refine Z_iload_n dX3_cell_3 rfl 2 rfl ?_
  refine Z_iadd dX3_cell_4 ?_
  refine Z_istore_n (lv2 := [(3, vi ((p1 * 3) + p2)), (0, vr 19 i0), (1, vi p1), (2, vi p2)]) dX3_cell_5 rfl (by decide) rfl ?_
  refine Z_iload_n dX3_cell_6 rfl 0 rfl ?_
  refine Z_if_lt (tgt := 28) dX3_cell_7 (by decide) (fun q => ?_) (fun q => ?_)
  · have h := h.1 q
    refine Z_iconst (v := (-1)) (by decide) dX3_cell_28 ?_
    exact Z_iret rfl rfl dX3_cell_29 (Nat.le_refl _) (Nat.le_refl _) ⟨_, rfl, h⟩
  · have h := h.2 q
    refine Z_iload_n dX3_cell_10 rfl 0 rfl ?_
    refine Z_aload_n dX3_cell_11 rfl 1 rfl ?_
    refine Z_getR (s1 := 20) (i1 := i0) zfl_X3_11 rfl (fun q => by first | exact q | decide) dX3_cell_12 ?_
    refine Z_alen (n := 120) (v := 120) rfl (by decide) (by decide) dX3_cell_15 ?_
    refine Z_icmp_ge (tgt := 28) dX3_cell_16 (by decide) (fun q => ?_) (fun q => ?_)
    · have h := h.1 q
      refine Z_iconst (v := (-1)) (by decide) dX3_cell_28 ?_
      exact Z_iret rfl rfl dX3_cell_29 (Nat.le_refl _) (Nat.le_refl _) ⟨_, rfl, h⟩
    · have h := h.2 q
      refine Z_aload_n dX3_cell_19 rfl 1 rfl ?_
      refine Z_getR (s1 := 20) (i1 := i0) zfl_X3_11 rfl (fun q => by first | exact q | decide) dX3_cell_20 ?_
      refine Z_iload_n dX3_cell_23 rfl 0 rfl ?_
      obtain ⟨g1, h⟩ := h
      refine Z_iald (n := 120) rfl g1 dX3_cell_24 ?_
      refine Z_goto (tgt := 29) dX3_cell_25 (by decide) ?_
      exact Z_iret rfl rfl dX3_cell_29 (Nat.le_refl _) (Nat.le_refl _) ⟨_, rfl, h⟩
-- X4_byteAt
set_option maxRecDepth 100000 in
set_option maxHeartbeats 4000000 in
theorem zm_X4_byteAt {l : Launch} {G : zG} {p1 : Int32} {M : zM} {Kf : Int32 → zM → Prop} (h : ((p1 < 0 → (Kf 0 M)) ∧ (¬ p1 < 0 → (((zmI M 1 0 1) ≤ p1 → (Kf 0 M)) ∧ (¬ (zmI M 1 0 1) ≤ p1 → ((500 ≤ p1 → (Kf 0 M)) ∧ (¬ 500 ≤ p1 → (vp_in p1 500 ∧ (Kf (zmI M 2 0 p1.toNatClampNeg) M))))))))) : zCalI l G Y_X4_byteAt 0 0 [vr 1 0, vi p1] M Kf := by
  refine zCal_of (lv := [(0, vr 1 0), (1, vi p1)]) (by decide) rfl (zle rfl) rfl (fun hv => zlv_args (lv := [(0, vr 1 0), (1, vi p1)]) rfl hv) ?_
  refine Z_iload_n dX4_byteAt_0 rfl 1 rfl ?_
  refine Z_if_lt (tgt := 30) dX4_byteAt_1 (by decide) (fun q => ?_) (fun q => ?_)
  · have h := h.1 q
    refine Z_iconst (v := 0) (by decide) dX4_byteAt_30 ?_
    exact Z_iret rfl rfl dX4_byteAt_31 (Nat.le_refl _) (Nat.le_refl _) ⟨_, rfl, h⟩
  · have h := h.2 q
    refine Z_iload_n dX4_byteAt_4 rfl 1 rfl ?_
    refine Z_aload_n dX4_byteAt_5 rfl 0 rfl ?_
    refine Z_getI zfl_X4_19 dX4_byteAt_6 ?_
    refine Z_icmp_ge (tgt := 30) dX4_byteAt_9 (by decide) (fun q => ?_) (fun q => ?_)
    · have h := h.1 q
      refine Z_iconst (v := 0) (by decide) dX4_byteAt_30 ?_
      exact Z_iret rfl rfl dX4_byteAt_31 (Nat.le_refl _) (Nat.le_refl _) ⟨_, rfl, h⟩
    · have h := h.2 q
      refine Z_iload_n dX4_byteAt_12 rfl 1 rfl ?_
      refine Z_aload_n dX4_byteAt_13 rfl 0 rfl ?_
      refine Z_getR (s1 := 2) (i1 := 0) zfl_X4_9 rfl (fun q => by first | exact q | decide) dX4_byteAt_14 ?_
      refine Z_alen (n := 500) (v := 500) rfl (by decide) (by decide) dX4_byteAt_17 ?_
      refine Z_icmp_ge (tgt := 30) dX4_byteAt_18 (by decide) (fun q => ?_) (fun q => ?_)
      · have h := h.1 q
        refine Z_iconst (v := 0) (by decide) dX4_byteAt_30 ?_
        exact Z_iret rfl rfl dX4_byteAt_31 (Nat.le_refl _) (Nat.le_refl _) ⟨_, rfl, h⟩
      · have h := h.2 q
        refine Z_aload_n dX4_byteAt_21 rfl 0 rfl ?_
        refine Z_getR (s1 := 2) (i1 := 0) zfl_X4_9 rfl (fun q => by first | exact q | decide) dX4_byteAt_22 ?_
        refine Z_iload_n dX4_byteAt_25 rfl 1 rfl ?_
        obtain ⟨g1, h⟩ := h
        refine Z_iald (n := 500) rfl g1 dX4_byteAt_26 ?_
        refine Z_goto (tgt := 31) dX4_byteAt_27 (by decide) ?_
        exact Z_iret rfl rfl dX4_byteAt_31 (Nat.le_refl _) (Nat.le_refl _) ⟨_, rfl, h⟩
-- X4_bytesOf
set_option maxRecDepth 100000 in
set_option maxHeartbeats 4000000 in
theorem zm_X4_bytesOf {l : Launch} {G : zG} {p1 : Int32} {M : zM} {Kf : Int32 → zM → Prop} (h : zAt l G Y_X4_bytesOf (zEI G Y_X4_bytesOf Kf) 5 [(0, vi p1), (1, vi 0), (2, vi 24)] [] M 0 0) : zCalI l G Y_X4_bytesOf 0 0 [vi p1] M Kf := by
  refine zCal_of (lv := [(0, vi p1)]) (by decide) rfl (zle rfl) rfl (fun hv => zlv_args (lv := [(0, vi p1)]) rfl hv) ?_
  refine Z_iconst (v := 0) (by decide) dX4_bytesOf_0 ?_
  refine Z_istore_n (lv2 := [(1, vi 0), (0, vi p1)]) dX4_bytesOf_1 rfl (by decide) rfl ?_
  refine Z_bipush (v := 24) (by decide) dX4_bytesOf_2 ?_
  refine Z_istore_n (lv2 := [(2, vi 24), (1, vi 0), (0, vi p1)]) dX4_bytesOf_4 rfl (by decide) rfl ?_
  exact Z_pick [2, 1, 0] rfl h
set_option maxRecDepth 100000 in
set_option maxHeartbeats 4000000 in
theorem zb_X4_bytesOf_5 {l : Launch} {G : zG} {y0 : Int32} {y1 : Int32} {y2 : Int32} {M : zM} {Kf : Int32 → zM → Prop} (h : ((y2 < 0 → (Kf y1 M)) ∧ (¬ y2 < 0 → ((((((y0 : Int32).toUInt32 >>> ((y2 : Int32).toUInt32 &&& Int32.toUInt32 31)).toInt32) &&& 255) = 0 → zAt l G Y_X4_bytesOf (zEI G Y_X4_bytesOf Kf) 22 [(0, vi y0), (1, vi y1), (2, vi y2)] [] M 0 0) ∧ (¬ ((((y0 : Int32).toUInt32 >>> ((y2 : Int32).toUInt32 &&& Int32.toUInt32 31)).toInt32) &&& 255) = 0 → zAt l G Y_X4_bytesOf (zEI G Y_X4_bytesOf Kf) 22 [(0, vi y0), (1, vi (y1 + 1)), (2, vi y2)] [] M 0 0))))) : zAt l G Y_X4_bytesOf (zEI G Y_X4_bytesOf Kf) 5 [(0, vi y0), (1, vi y1), (2, vi y2)] [] M 0 0 := by
  refine Z_iload_n dX4_bytesOf_5 rfl 2 rfl ?_
  refine Z_if_lt (tgt := 28) dX4_bytesOf_6 (by decide) (fun q => ?_) (fun q => ?_)
  · have h := h.1 q
    refine Z_iload_n dX4_bytesOf_28 rfl 1 rfl ?_
    exact Z_iret rfl rfl dX4_bytesOf_29 (Nat.le_refl _) (Nat.le_refl _) ⟨_, rfl, h⟩
  · have h := h.2 q
    refine Z_iload_n dX4_bytesOf_9 rfl 0 rfl ?_
    refine Z_iload_n dX4_bytesOf_10 rfl 2 rfl ?_
    refine Z_iushr dX4_bytesOf_11 ?_
    refine Z_sipush (v := 255) (by decide) dX4_bytesOf_12 ?_
    refine Z_iand dX4_bytesOf_15 ?_
    refine Z_if_eq (tgt := 22) dX4_bytesOf_16 (by decide) (fun q => ?_) (fun q => ?_)
    · have h := h.1 q
      exact h
    · have h := h.2 q
      refine Z_iinc (v := (y1 + 1)) (lv2 := [(1, vi (y1 + 1)), (0, vi y0), (2, vi y2)]) dX4_bytesOf_19 1 rfl rfl (by decide) rfl ?_
      exact Z_pick [1, 0, 2] rfl h
set_option maxRecDepth 100000 in
set_option maxHeartbeats 4000000 in
theorem zb_X4_bytesOf_22 {l : Launch} {G : zG} {y0 : Int32} {y1 : Int32} {y2 : Int32} {M : zM} {Kf : Int32 → zM → Prop} (h : zAt l G Y_X4_bytesOf (zEI G Y_X4_bytesOf Kf) 5 [(0, vi y0), (1, vi y1), (2, vi (y2 + (-8)))] [] M 0 0) : zAt l G Y_X4_bytesOf (zEI G Y_X4_bytesOf Kf) 22 [(0, vi y0), (1, vi y1), (2, vi y2)] [] M 0 0 := by
  refine Z_iinc (v := (y2 + (-8))) (lv2 := [(2, vi (y2 + (-8))), (0, vi y0), (1, vi y1)]) dX4_bytesOf_22 2 rfl rfl (by decide) rfl ?_
  refine Z_goto (tgt := 5) dX4_bytesOf_25 (by decide) ?_
  exact Z_pick [1, 2, 0] rfl h
-- X4_empty
set_option maxRecDepth 100000 in
set_option maxHeartbeats 4000000 in
theorem zm_X4_empty {l : Launch} {G : zG} {M : zM} {Kf : zM → Prop} (h : (Kf (zsI M 1 0 1 0))) : zCalV l G Y_X4_empty 0 0 [vr 1 0] M Kf := by
  refine zCal_of (lv := [(0, vr 1 0)]) (by decide) rfl (zle rfl) rfl (fun hv => zlv_args (lv := [(0, vr 1 0)]) rfl hv) ?_
  refine Z_aload_n dX4_empty_0 rfl 0 rfl ?_
  refine Z_iconst (v := 0) (by decide) dX4_empty_1 ?_
  refine Z_putI zfp_X4_19 rfl rfl dX4_empty_2 ?_
  exact Z_vret rfl dX4_empty_5 (Nat.le_refl _) (Nat.le_refl _) ⟨rfl, h⟩
-- X4_fail
set_option maxRecDepth 100000 in
set_option maxHeartbeats 4000000 in
theorem zm_X4_fail {l : Launch} {G : zG} {p1 : Int32} {M : zM} {Kf : zM → Prop} (h : ((¬ (zmI M 1 0 5) = 0 → (Kf M)) ∧ ((zmI M 1 0 5) = 0 → (Kf (zsI (zsI M 1 0 5 p1) 1 0 6 (zmI (zsI M 1 0 5 p1) 1 0 3)))))) : zCalV l G Y_X4_fail 0 0 [vr 1 0, vi p1] M Kf := by
  refine zCal_of (lv := [(0, vr 1 0), (1, vi p1)]) (by decide) rfl (zle rfl) rfl (fun hv => zlv_args (lv := [(0, vr 1 0), (1, vi p1)]) rfl hv) ?_
  refine Z_aload_n dX4_fail_0 rfl 0 rfl ?_
  refine Z_getI zfl_X4_22 dX4_fail_1 ?_
  refine Z_if_ne (tgt := 20) dX4_fail_4 (by decide) (fun q => ?_) (fun q => ?_)
  · have h := h.1 q
    exact Z_vret rfl dX4_fail_20 (Nat.le_refl _) (Nat.le_refl _) ⟨rfl, h⟩
  · have h := h.2 q
    refine Z_aload_n dX4_fail_7 rfl 0 rfl ?_
    refine Z_iload_n dX4_fail_8 rfl 1 rfl ?_
    refine Z_putI zfp_X4_22 rfl rfl dX4_fail_9 ?_
    refine Z_aload_n dX4_fail_12 rfl 0 rfl ?_
    refine Z_aload_n dX4_fail_13 rfl 0 rfl ?_
    refine Z_getI zfl_X4_31 dX4_fail_14 ?_
    refine Z_putI zfp_X4_15 rfl rfl dX4_fail_17 ?_
    exact Z_vret rfl dX4_fail_20 (Nat.le_refl _) (Nat.le_refl _) ⟨rfl, h⟩
-- X4_isBlank
set_option maxRecDepth 100000 in
set_option maxHeartbeats 4000000 in
theorem zm_X4_isBlank {l : Launch} {G : zG} {p1 : Int32} {M : zM} {Kf : Int32 → zM → Prop} (h : ((p1 = 32 → (Kf 1 M)) ∧ (¬ p1 = 32 → ((¬ p1 = 10 → (Kf 0 M)) ∧ (p1 = 10 → (Kf 1 M)))))) : zCalI l G Y_X4_isBlank 0 0 [vi p1] M Kf := by
  refine zCal_of (lv := [(0, vi p1)]) (by decide) rfl (zle rfl) rfl (fun hv => zlv_args (lv := [(0, vi p1)]) rfl hv) ?_
  refine Z_iload_n dX4_isBlank_0 rfl 0 rfl ?_
  refine Z_bipush (v := 32) (by decide) dX4_isBlank_1 ?_
  refine Z_icmp_eq (tgt := 12) dX4_isBlank_3 (by decide) (fun q => ?_) (fun q => ?_)
  · have h := h.1 q
    refine Z_iconst (v := 1) (by decide) dX4_isBlank_12 ?_
    refine Z_goto (tgt := 17) dX4_isBlank_13 (by decide) ?_
    exact Z_iret rfl (by decide) dX4_isBlank_17 (Nat.le_refl _) (Nat.le_refl _) ⟨_, rfl, h⟩
  · have h := h.2 q
    refine Z_iload_n dX4_isBlank_6 rfl 0 rfl ?_
    refine Z_bipush (v := 10) (by decide) dX4_isBlank_7 ?_
    refine Z_icmp_ne (tgt := 16) dX4_isBlank_9 (by decide) (fun q => ?_) (fun q => ?_)
    · have h := h.1 q
      refine Z_iconst (v := 0) (by decide) dX4_isBlank_16 ?_
      exact Z_iret rfl (by decide) dX4_isBlank_17 (Nat.le_refl _) (Nat.le_refl _) ⟨_, rfl, h⟩
    · have h := h.2 q
      refine Z_iconst (v := 1) (by decide) dX4_isBlank_12 ?_
      refine Z_goto (tgt := 17) dX4_isBlank_13 (by decide) ?_
      exact Z_iret rfl (by decide) dX4_isBlank_17 (Nat.le_refl _) (Nat.le_refl _) ⟨_, rfl, h⟩
-- X4_isName
set_option maxRecDepth 100000 in
set_option maxHeartbeats 4000000 in
theorem zm_X4_isName {l : Launch} {G : zG} {M : zM} {Kf : Int32 → zM → Prop} (h : ((¬ (zmI M 1 0 2) = 1 → (Kf 0 M)) ∧ ((zmI M 1 0 2) = 1 → ((8 < ((zmI M 1 0 4) - (zmI M 1 0 3)) → (Kf 0 M)) ∧ (¬ 8 < ((zmI M 1 0 4) - (zmI M 1 0 3)) → (Kf 1 M)))))) : zCalI l G Y_X4_isName 0 0 [vr 1 0] M Kf := by
  refine zCal_of (lv := [(0, vr 1 0)]) (by decide) rfl (zle rfl) rfl (fun hv => zlv_args (lv := [(0, vr 1 0)]) rfl hv) ?_
  refine Z_aload_n dX4_isName_0 rfl 0 rfl ?_
  refine Z_getI zfl_X4_45 dX4_isName_1 ?_
  refine Z_iconst (v := 1) (by decide) dX4_isName_4 ?_
  refine Z_icmp_ne (tgt := 26) dX4_isName_5 (by decide) (fun q => ?_) (fun q => ?_)
  · have h := h.1 q
    refine Z_iconst (v := 0) (by decide) dX4_isName_26 ?_
    exact Z_iret rfl (by decide) dX4_isName_27 (Nat.le_refl _) (Nat.le_refl _) ⟨_, rfl, h⟩
  · have h := h.2 q
    refine Z_aload_n dX4_isName_8 rfl 0 rfl ?_
    refine Z_getI zfl_X4_25 dX4_isName_9 ?_
    refine Z_aload_n dX4_isName_12 rfl 0 rfl ?_
    refine Z_getI zfl_X4_31 dX4_isName_13 ?_
    refine Z_isub dX4_isName_16 ?_
    refine Z_bipush (v := 8) (by decide) dX4_isName_17 ?_
    refine Z_icmp_gt (tgt := 26) dX4_isName_19 (by decide) (fun q => ?_) (fun q => ?_)
    · have h := h.1 q
      refine Z_iconst (v := 0) (by decide) dX4_isName_26 ?_
      exact Z_iret rfl (by decide) dX4_isName_27 (Nat.le_refl _) (Nat.le_refl _) ⟨_, rfl, h⟩
    · have h := h.2 q
      refine Z_iconst (v := 1) (by decide) dX4_isName_22 ?_
      refine Z_goto (tgt := 27) dX4_isName_23 (by decide) ?_
      exact Z_iret rfl (by decide) dX4_isName_27 (Nat.le_refl _) (Nat.le_refl _) ⟨_, rfl, h⟩
-- X4_kindAt
set_option maxRecDepth 100000 in
set_option maxHeartbeats 4000000 in
theorem zm_X4_kindAt {l : Launch} {G : zG} {p1 : Int32} {M : zM} {Kf : Int32 → zM → Prop} (h : ((p1 < 0 → (Kf 0 M)) ∧ (¬ p1 < 0 → (((zmI M 1 0 1) ≤ p1 → (Kf 0 M)) ∧ (¬ (zmI M 1 0 1) ≤ p1 → ((p1 < 500 → (vp_in p1 500 ∧ (((zmI M 2 0 p1.toNatClampNeg) < 97 → zAt l G Y_X4_kindAt (zEI G Y_X4_kindAt Kf) 44 [(2, vi (zmI M 2 0 p1.toNatClampNeg))] [] M 0 0) ∧ (¬ (zmI M 2 0 p1.toNatClampNeg) < 97 → ((122 < (zmI M 2 0 p1.toNatClampNeg) → zAt l G Y_X4_kindAt (zEI G Y_X4_kindAt Kf) 44 [(2, vi (zmI M 2 0 p1.toNatClampNeg))] [] M 0 0) ∧ (¬ 122 < (zmI M 2 0 p1.toNatClampNeg) → (Kf 1 M))))))) ∧ (¬ p1 < 500 → (Kf 0 M)))))))) : zCalI l G Y_X4_kindAt 0 0 [vr 1 0, vi p1] M Kf := by
  refine zCal_of (lv := [(0, vr 1 0), (1, vi p1)]) (by decide) rfl (zle rfl) rfl (fun hv => zlv_args (lv := [(0, vr 1 0), (1, vi p1)]) rfl hv) ?_
  refine Z_iload_n dX4_kindAt_0 rfl 1 rfl ?_
  refine Z_if_lt (tgt := 21) dX4_kindAt_1 (by decide) (fun q => ?_) (fun q => ?_)
  · have h := h.1 q
    refine Z_iconst (v := 0) (by decide) dX4_kindAt_21 ?_
    exact Z_iret rfl rfl dX4_kindAt_22 (Nat.le_refl _) (Nat.le_refl _) ⟨_, rfl, h⟩
  · have h := h.2 q
    refine Z_iload_n dX4_kindAt_4 rfl 1 rfl ?_
    refine Z_aload_n dX4_kindAt_5 rfl 0 rfl ?_
    refine Z_getI zfl_X4_19 dX4_kindAt_6 ?_
    refine Z_icmp_ge (tgt := 21) dX4_kindAt_9 (by decide) (fun q => ?_) (fun q => ?_)
    · have h := h.1 q
      refine Z_iconst (v := 0) (by decide) dX4_kindAt_21 ?_
      exact Z_iret rfl rfl dX4_kindAt_22 (Nat.le_refl _) (Nat.le_refl _) ⟨_, rfl, h⟩
    · have h := h.2 q
      refine Z_iload_n dX4_kindAt_12 rfl 1 rfl ?_
      refine Z_aload_n dX4_kindAt_13 rfl 0 rfl ?_
      refine Z_getR (s1 := 2) (i1 := 0) zfl_X4_9 rfl (fun q => by first | exact q | decide) dX4_kindAt_14 ?_
      refine Z_alen (n := 500) (v := 500) rfl (by decide) (by decide) dX4_kindAt_17 ?_
      refine Z_icmp_lt (tgt := 23) dX4_kindAt_18 (by decide) (fun q => ?_) (fun q => ?_)
      · have h := h.1 q
        refine Z_aload_n dX4_kindAt_23 rfl 0 rfl ?_
        refine Z_getR (s1 := 2) (i1 := 0) zfl_X4_9 rfl (fun q => by first | exact q | decide) dX4_kindAt_24 ?_
        refine Z_iload_n dX4_kindAt_27 rfl 1 rfl ?_
        obtain ⟨g1, h⟩ := h
        refine Z_iald (n := 500) rfl g1 dX4_kindAt_28 ?_
        refine Z_istore_n (lv2 := [(2, vi (zmI M 2 0 p1.toNatClampNeg)), (0, vr 1 0), (1, vi p1)]) dX4_kindAt_29 rfl (by decide) rfl ?_
        refine Z_iload_n dX4_kindAt_30 rfl 0 rfl ?_
        refine Z_bipush (v := 97) (by decide) dX4_kindAt_31 ?_
        refine Z_icmp_lt (tgt := 44) dX4_kindAt_33 (by decide) (fun q => ?_) (fun q => ?_)
        · have h := h.1 q
          exact Z_pick [0] rfl h
        · have h := h.2 q
          refine Z_iload_n dX4_kindAt_36 rfl 0 rfl ?_
          refine Z_bipush (v := 122) (by decide) dX4_kindAt_37 ?_
          refine Z_icmp_gt (tgt := 44) dX4_kindAt_39 (by decide) (fun q => ?_) (fun q => ?_)
          · have h := h.1 q
            exact Z_pick [0] rfl h
          · have h := h.2 q
            refine Z_iconst (v := 1) (by decide) dX4_kindAt_42 ?_
            exact Z_iret rfl rfl dX4_kindAt_43 (Nat.le_refl _) (Nat.le_refl _) ⟨_, rfl, h⟩
      · have h := h.2 q
        refine Z_iconst (v := 0) (by decide) dX4_kindAt_21 ?_
        exact Z_iret rfl rfl dX4_kindAt_22 (Nat.le_refl _) (Nat.le_refl _) ⟨_, rfl, h⟩
set_option maxRecDepth 100000 in
set_option maxHeartbeats 4000000 in
theorem zb_X4_kindAt_44 {l : Launch} {G : zG} {y2 : Int32} {M : zM} {Kf : Int32 → zM → Prop} (h : ((y2 < 48 → zAt l G Y_X4_kindAt (zEI G Y_X4_kindAt Kf) 58 [(2, vi y2)] [] M 0 0) ∧ (¬ y2 < 48 → ((57 < y2 → zAt l G Y_X4_kindAt (zEI G Y_X4_kindAt Kf) 58 [(2, vi y2)] [] M 0 0) ∧ (¬ 57 < y2 → (Kf 2 M)))))) : zAt l G Y_X4_kindAt (zEI G Y_X4_kindAt Kf) 44 [(2, vi y2)] [] M 0 0 := by
  refine Z_iload_n dX4_kindAt_44 rfl 0 rfl ?_
  refine Z_bipush (v := 48) (by decide) dX4_kindAt_45 ?_
  refine Z_icmp_lt (tgt := 58) dX4_kindAt_47 (by decide) (fun q => ?_) (fun q => ?_)
  · have h := h.1 q
    exact h
  · have h := h.2 q
    refine Z_iload_n dX4_kindAt_50 rfl 0 rfl ?_
    refine Z_bipush (v := 57) (by decide) dX4_kindAt_51 ?_
    refine Z_icmp_gt (tgt := 58) dX4_kindAt_53 (by decide) (fun q => ?_) (fun q => ?_)
    · have h := h.1 q
      exact h
    · have h := h.2 q
      refine Z_iconst (v := 2) (by decide) dX4_kindAt_56 ?_
      exact Z_iret rfl rfl dX4_kindAt_57 (Nat.le_refl _) (Nat.le_refl _) ⟨_, rfl, h⟩
set_option maxRecDepth 100000 in
set_option maxHeartbeats 4000000 in
theorem zb_X4_kindAt_58 {l : Launch} {G : zG} {y2 : Int32} {M : zM} {Kf : Int32 → zM → Prop} (h : ((¬ y2 = 59 → ((¬ y2 = 40 → ((¬ y2 = 41 → (Kf 6 M)) ∧ (y2 = 41 → (Kf 5 M)))) ∧ (y2 = 40 → (Kf 4 M)))) ∧ (y2 = 59 → (Kf 3 M)))) : zAt l G Y_X4_kindAt (zEI G Y_X4_kindAt Kf) 58 [(2, vi y2)] [] M 0 0 := by
  refine Z_iload_n dX4_kindAt_58 rfl 0 rfl ?_
  refine Z_bipush (v := 59) (by decide) dX4_kindAt_59 ?_
  refine Z_icmp_ne (tgt := 68) dX4_kindAt_61 (by decide) (fun q => ?_) (fun q => ?_)
  · have h := h.1 q
    refine Z_iload_n dX4_kindAt_68 rfl 0 rfl ?_
    refine Z_bipush (v := 40) (by decide) dX4_kindAt_69 ?_
    refine Z_icmp_ne (tgt := 78) dX4_kindAt_71 (by decide) (fun q => ?_) (fun q => ?_)
    · have h := h.1 q
      refine Z_iload_n dX4_kindAt_78 rfl 0 rfl ?_
      refine Z_bipush (v := 41) (by decide) dX4_kindAt_79 ?_
      refine Z_icmp_ne (tgt := 88) dX4_kindAt_81 (by decide) (fun q => ?_) (fun q => ?_)
      · have h := h.1 q
        refine Z_bipush (v := 6) (by decide) dX4_kindAt_88 ?_
        exact Z_iret rfl rfl dX4_kindAt_90 (Nat.le_refl _) (Nat.le_refl _) ⟨_, rfl, h⟩
      · have h := h.2 q
        refine Z_iconst (v := 5) (by decide) dX4_kindAt_84 ?_
        refine Z_goto (tgt := 90) dX4_kindAt_85 (by decide) ?_
        exact Z_iret rfl rfl dX4_kindAt_90 (Nat.le_refl _) (Nat.le_refl _) ⟨_, rfl, h⟩
    · have h := h.2 q
      refine Z_iconst (v := 4) (by decide) dX4_kindAt_74 ?_
      refine Z_goto (tgt := 90) dX4_kindAt_75 (by decide) ?_
      exact Z_iret rfl rfl dX4_kindAt_90 (Nat.le_refl _) (Nat.le_refl _) ⟨_, rfl, h⟩
  · have h := h.2 q
    refine Z_iconst (v := 3) (by decide) dX4_kindAt_64 ?_
    refine Z_goto (tgt := 90) dX4_kindAt_65 (by decide) ?_
    exact Z_iret rfl rfl dX4_kindAt_90 (Nat.le_refl _) (Nat.le_refl _) ⟨_, rfl, h⟩
-- X4_take
set_option maxRecDepth 100000 in
set_option maxHeartbeats 4000000 in
theorem zm_X4_take {l : Launch} {G : zG} {p1 : Int32} {M : zM} {Kf : zM → Prop} (h : zAt l G Y_X4_take (zEV G Y_X4_take Kf) 3 [(0, vr 1 0), (1, vi p1), (2, vi 24)] [] M 0 0) : zCalV l G Y_X4_take 0 0 [vr 1 0, vi p1] M Kf := by
  refine zCal_of (lv := [(0, vr 1 0), (1, vi p1)]) (by decide) rfl (zle rfl) rfl (fun hv => zlv_args (lv := [(0, vr 1 0), (1, vi p1)]) rfl hv) ?_
  refine Z_bipush (v := 24) (by decide) dX4_take_0 ?_
  refine Z_istore_n (lv2 := [(2, vi 24), (0, vr 1 0), (1, vi p1)]) dX4_take_2 rfl (by decide) rfl ?_
  exact Z_pick [1, 2, 0] rfl h
set_option maxRecDepth 100000 in
set_option maxHeartbeats 4000000 in
theorem zb_X4_take_3 {l : Launch} {G : zG} {y1 : Int32} {y2 : Int32} {M : zM} {Kf : zM → Prop} (h : ((y2 < 0 → (Kf M)) ∧ (¬ y2 < 0 → ((((((y1 : Int32).toUInt32 >>> ((y2 : Int32).toUInt32 &&& Int32.toUInt32 31)).toInt32) &&& 255) = 0 → zAt l G Y_X4_take (zEV G Y_X4_take Kf) 58 [(0, vr 1 0), (1, vi y1), (2, vi y2)] [] M 0 0) ∧ (¬ ((((y1 : Int32).toUInt32 >>> ((y2 : Int32).toUInt32 &&& Int32.toUInt32 31)).toInt32) &&& 255) = 0 → (((zmI M 1 0 1) < 0 → zAt l G Y_X4_take (zEV G Y_X4_take Kf) 58 [(0, vr 1 0), (1, vi y1), (2, vi y2)] [] M 0 0) ∧ (¬ (zmI M 1 0 1) < 0 → ((500 ≤ (zmI M 1 0 1) → zAt l G Y_X4_take (zEV G Y_X4_take Kf) 58 [(0, vr 1 0), (1, vi y1), (2, vi y2)] [] M 0 0) ∧ (¬ 500 ≤ (zmI M 1 0 1) → (vp_in (zmI M 1 0 1) 500 ∧ zAt l G Y_X4_take (zEV G Y_X4_take Kf) 58 [(0, vr 1 0), (1, vi y1), (2, vi y2)] [] (zsI (zsI M 2 0 (zmI M 1 0 1).toNatClampNeg ((((y1 : Int32).toUInt32 >>> ((y2 : Int32).toUInt32 &&& Int32.toUInt32 31)).toInt32) &&& 255)) 1 0 1 ((zmI (zsI M 2 0 (zmI M 1 0 1).toNatClampNeg ((((y1 : Int32).toUInt32 >>> ((y2 : Int32).toUInt32 &&& Int32.toUInt32 31)).toInt32) &&& 255)) 1 0 1) + 1)) 0 0)))))))))) : zAt l G Y_X4_take (zEV G Y_X4_take Kf) 3 [(0, vr 1 0), (1, vi y1), (2, vi y2)] [] M 0 0 := by
  refine Z_iload_n dX4_take_3 rfl 2 rfl ?_
  refine Z_if_lt (tgt := 64) dX4_take_4 (by decide) (fun q => ?_) (fun q => ?_)
  · have h := h.1 q
    exact Z_vret rfl dX4_take_64 (Nat.le_refl _) (Nat.le_refl _) ⟨rfl, h⟩
  · have h := h.2 q
    refine Z_iload_n dX4_take_7 rfl 1 rfl ?_
    refine Z_iload_n dX4_take_8 rfl 2 rfl ?_
    refine Z_iushr dX4_take_9 ?_
    refine Z_sipush (v := 255) (by decide) dX4_take_10 ?_
    refine Z_iand dX4_take_13 ?_
    refine Z_istore_n (lv2 := [(3, vi ((((y1 : Int32).toUInt32 >>> ((y2 : Int32).toUInt32 &&& Int32.toUInt32 31)).toInt32) &&& 255)), (0, vr 1 0), (1, vi y1), (2, vi y2)]) dX4_take_14 rfl (by decide) rfl ?_
    refine Z_iload_n dX4_take_15 rfl 0 rfl ?_
    refine Z_if_eq (tgt := 58) dX4_take_16 (by decide) (fun q => ?_) (fun q => ?_)
    · have h := h.1 q
      exact Z_pick [1, 2, 3] rfl h
    · have h := h.2 q
      refine Z_aload_n dX4_take_19 rfl 1 rfl ?_
      refine Z_getI zfl_X4_19 dX4_take_20 ?_
      refine Z_if_lt (tgt := 58) dX4_take_23 (by decide) (fun q => ?_) (fun q => ?_)
      · have h := h.1 q
        exact Z_pick [1, 2, 3] rfl h
      · have h := h.2 q
        refine Z_aload_n dX4_take_26 rfl 1 rfl ?_
        refine Z_getI zfl_X4_19 dX4_take_27 ?_
        refine Z_aload_n dX4_take_30 rfl 1 rfl ?_
        refine Z_getR (s1 := 2) (i1 := 0) zfl_X4_9 rfl (fun q => by first | exact q | decide) dX4_take_31 ?_
        refine Z_alen (n := 500) (v := 500) rfl (by decide) (by decide) dX4_take_34 ?_
        refine Z_icmp_ge (tgt := 58) dX4_take_35 (by decide) (fun q => ?_) (fun q => ?_)
        · have h := h.1 q
          exact Z_pick [1, 2, 3] rfl h
        · have h := h.2 q
          refine Z_aload_n dX4_take_38 rfl 1 rfl ?_
          refine Z_getR (s1 := 2) (i1 := 0) zfl_X4_9 rfl (fun q => by first | exact q | decide) dX4_take_39 ?_
          refine Z_aload_n dX4_take_42 rfl 1 rfl ?_
          refine Z_getI zfl_X4_19 dX4_take_43 ?_
          refine Z_iload_n dX4_take_46 rfl 0 rfl ?_
          obtain ⟨g1, h⟩ := h
          refine Z_iast (n := 500) rfl g1 dX4_take_47 ?_
          refine Z_aload_n dX4_take_48 rfl 1 rfl ?_
          refine Z_dup rfl dX4_take_49 ?_
          refine Z_getI zfl_X4_19 dX4_take_50 ?_
          refine Z_iconst (v := 1) (by decide) dX4_take_53 ?_
          refine Z_iadd dX4_take_54 ?_
          refine Z_putI zfp_X4_19 rfl rfl dX4_take_55 ?_
          exact Z_pick [1, 2, 3] rfl h
set_option maxRecDepth 100000 in
set_option maxHeartbeats 4000000 in
theorem zb_X4_take_58 {l : Launch} {G : zG} {y1 : Int32} {y2 : Int32} {M : zM} {Kf : zM → Prop} (h : zAt l G Y_X4_take (zEV G Y_X4_take Kf) 3 [(0, vr 1 0), (1, vi y1), (2, vi (y2 + (-8)))] [] M 0 0) : zAt l G Y_X4_take (zEV G Y_X4_take Kf) 58 [(0, vr 1 0), (1, vi y1), (2, vi y2)] [] M 0 0 := by
  refine Z_iinc (v := (y2 + (-8))) (lv2 := [(2, vi (y2 + (-8))), (0, vr 1 0), (1, vi y1)]) dX4_take_58 2 rfl rfl (by decide) rfl ?_
  refine Z_goto (tgt := 3) dX4_take_61 (by decide) ?_
  exact Z_pick [1, 2, 0] rfl h
-- X5_averageAfter
set_option maxRecDepth 100000 in
set_option maxHeartbeats 4000000 in
theorem zm_X5_averageAfter {l : Launch} {G : zG} {i0 : Nat} {p1 : Int32} {p2 : Int32} {M : zM} {Kf : Int32 → zM → Prop} (h : (Kf (p2 + (((1024 * p1) - p2) >>> ((zmI M 15 i0 5) &&& 31))) M)) : zCalI l G Y_X5_averageAfter 0 0 [vr 15 i0, vi p1, vi p2] M Kf := by
  refine zCal_of (lv := [(0, vr 15 i0), (1, vi p1), (2, vi p2)]) (by decide) rfl (zle rfl) rfl (fun hv => zlv_args (lv := [(0, vr 15 i0), (1, vi p1), (2, vi p2)]) rfl hv) ?_
  refine Z_iload_n dX5_averageAfter_0 rfl 2 rfl ?_
  refine Z_sipush (v := 1024) (by decide) dX5_averageAfter_1 ?_
  refine Z_iload_n dX5_averageAfter_4 rfl 1 rfl ?_
  refine Z_imul dX5_averageAfter_5 ?_
  refine Z_iload_n dX5_averageAfter_6 rfl 2 rfl ?_
  refine Z_isub dX5_averageAfter_7 ?_
  refine Z_aload_n dX5_averageAfter_8 rfl 0 rfl ?_
  refine Z_getI zfl_X5_51 dX5_averageAfter_9 ?_
  refine Z_ishr dX5_averageAfter_12 ?_
  refine Z_iadd dX5_averageAfter_13 ?_
  exact Z_iret rfl rfl dX5_averageAfter_14 (Nat.le_refl _) (Nat.le_refl _) ⟨_, rfl, h⟩
-- X5_baseAt
set_option maxRecDepth 100000 in
set_option maxHeartbeats 4000000 in
theorem zm_X5_baseAt {l : Launch} {G : zG} {i0 : Nat} {p1 : Int32} {M : zM} {Kf : Int32 → zM → Prop} (h : (((lg_cmp ((p1 : Int32).toInt64) (1024 * (((zmI M 15 i0 2) : Int32).toInt64))) < 0 → (Kf 0 M)) ∧ (¬ (lg_cmp ((p1 : Int32).toInt64) (1024 * (((zmI M 15 i0 2) : Int32).toInt64))) < 0 → ((0 < (lg_cmp (1024 * (((zmI M 15 i0 3) : Int32).toInt64)) (1024 * (((zmI M 15 i0 2) : Int32).toInt64))) → ((0 ≤ (lg_cmp ((p1 : Int32).toInt64) (1024 * (((zmI M 15 i0 3) : Int32).toInt64))) → (((lg_cmp ((p1 : Int32).toInt64) ((1024 * (((zmI M 15 i0 3) : Int32).toInt64)) * ((((zmI M 15 i0 6) + 1) : Int32).toInt64))) < 0 → (¬ (1024 * (((zmI M 15 i0 3) : Int32).toInt64)) = 0 ∧ (Kf ((((((zmI M 15 i0 4) : Int32).toInt64) + (((((65536 - (zmI M 15 i0 4)) : Int32).toInt64) * (((p1 : Int32).toInt64) - (1024 * (((zmI M 15 i0 3) : Int32).toInt64)))) / (1024 * (((zmI M 15 i0 3) : Int32).toInt64)))) : Int64).toInt32) M))) ∧ (¬ (lg_cmp ((p1 : Int32).toInt64) ((1024 * (((zmI M 15 i0 3) : Int32).toInt64)) * ((((zmI M 15 i0 6) + 1) : Int32).toInt64))) < 0 → (Kf 65536 M)))) ∧ (¬ 0 ≤ (lg_cmp ((p1 : Int32).toInt64) (1024 * (((zmI M 15 i0 3) : Int32).toInt64))) → (¬ ((1024 * (((zmI M 15 i0 3) : Int32).toInt64)) - (1024 * (((zmI M 15 i0 2) : Int32).toInt64))) = 0 ∧ (Kf (((((((zmI M 15 i0 4) : Int32).toInt64) * (((p1 : Int32).toInt64) - (1024 * (((zmI M 15 i0 2) : Int32).toInt64)))) / ((1024 * (((zmI M 15 i0 3) : Int32).toInt64)) - (1024 * (((zmI M 15 i0 2) : Int32).toInt64)))) : Int64).toInt32) M))))) ∧ (¬ 0 < (lg_cmp (1024 * (((zmI M 15 i0 3) : Int32).toInt64)) (1024 * (((zmI M 15 i0 2) : Int32).toInt64))) → (Kf 0 M)))))) : zCalI l G Y_X5_baseAt 0 0 [vr 15 i0, vi p1] M Kf := by
  refine zCal_of (lv := [(0, vr 15 i0), (1, vi p1)]) (by decide) rfl (zle rfl) rfl (fun hv => zlv_args (lv := [(0, vr 15 i0), (1, vi p1)]) rfl hv) ?_
  refine Z_ldc2 (v := 1024) zw_848 dX5_baseAt_0 ?_
  refine Z_aload_n dX5_baseAt_3 rfl 0 rfl ?_
  refine Z_getI zfl_X5_42 dX5_baseAt_4 ?_
  refine Z_i2l dX5_baseAt_7 ?_
  refine Z_lmul dX5_baseAt_8 ?_
  refine Z_lstore_n (lv2 := [(2, vl (1024 * (((zmI M 15 i0 2) : Int32).toInt64))), (0, vr 15 i0), (1, vi p1)]) dX5_baseAt_9 rfl (by decide) rfl ?_
  refine Z_ldc2 (v := 1024) zw_848 dX5_baseAt_10 ?_
  refine Z_aload_n dX5_baseAt_13 rfl 1 rfl ?_
  refine Z_getI zfl_X5_45 dX5_baseAt_14 ?_
  refine Z_i2l dX5_baseAt_17 ?_
  refine Z_lmul dX5_baseAt_18 ?_
  refine Z_lstore (lv2 := [(4, vl (1024 * (((zmI M 15 i0 3) : Int32).toInt64))), (2, vl (1024 * (((zmI M 15 i0 2) : Int32).toInt64))), (0, vr 15 i0), (1, vi p1)]) dX5_baseAt_19 (by decide) rfl ?_
  refine Z_iload_n dX5_baseAt_21 rfl 3 rfl ?_
  refine Z_i2l dX5_baseAt_22 ?_
  refine Z_lload_n dX5_baseAt_23 rfl 1 rfl ?_
  refine Z_lcmp dX5_baseAt_24 ?_
  refine Z_if_lt (tgt := 35) dX5_baseAt_25 (by decide) (fun q => ?_) (fun q => ?_)
  · have h := h.1 q
    refine Z_iconst (v := 0) (by decide) dX5_baseAt_35 ?_
    exact Z_iret rfl rfl dX5_baseAt_36 (Nat.le_refl _) (Nat.le_refl _) ⟨_, rfl, h⟩
  · have h := h.2 q
    refine Z_lload dX5_baseAt_28 0 rfl ?_
    refine Z_lload_n dX5_baseAt_30 rfl 1 rfl ?_
    refine Z_lcmp dX5_baseAt_31 ?_
    refine Z_if_gt (tgt := 37) dX5_baseAt_32 (by decide) (fun q => ?_) (fun q => ?_)
    · have h := h.1 q
      refine Z_iload_n dX5_baseAt_37 rfl 3 rfl ?_
      refine Z_i2l dX5_baseAt_38 ?_
      refine Z_lload dX5_baseAt_39 0 rfl ?_
      refine Z_lcmp dX5_baseAt_41 ?_
      refine Z_if_ge (tgt := 62) dX5_baseAt_42 (by decide) (fun q => ?_) (fun q => ?_)
      · have h := h.1 q
        refine Z_iload_n dX5_baseAt_62 rfl 3 rfl ?_
        refine Z_i2l dX5_baseAt_63 ?_
        refine Z_lload dX5_baseAt_64 0 rfl ?_
        refine Z_aload_n dX5_baseAt_66 rfl 2 rfl ?_
        refine Z_getI zfl_X5_54 dX5_baseAt_67 ?_
        refine Z_iconst (v := 1) (by decide) dX5_baseAt_70 ?_
        refine Z_iadd dX5_baseAt_71 ?_
        refine Z_i2l dX5_baseAt_72 ?_
        refine Z_lmul dX5_baseAt_73 ?_
        refine Z_lcmp dX5_baseAt_74 ?_
        refine Z_if_lt (tgt := 81) dX5_baseAt_75 (by decide) (fun q => ?_) (fun q => ?_)
        · have h := h.1 q
          refine Z_aload_n dX5_baseAt_81 rfl 2 rfl ?_
          refine Z_getI zfl_X5_48 dX5_baseAt_82 ?_
          refine Z_i2l dX5_baseAt_85 ?_
          refine Z_ldc (v := 65536) zw_849 dX5_baseAt_86 ?_
          refine Z_aload_n dX5_baseAt_88 rfl 2 rfl ?_
          refine Z_getI zfl_X5_48 dX5_baseAt_89 ?_
          refine Z_isub dX5_baseAt_92 ?_
          refine Z_i2l dX5_baseAt_93 ?_
          refine Z_iload_n dX5_baseAt_94 rfl 3 rfl ?_
          refine Z_i2l dX5_baseAt_95 ?_
          refine Z_lload dX5_baseAt_96 0 rfl ?_
          refine Z_lsub dX5_baseAt_98 ?_
          refine Z_lmul dX5_baseAt_99 ?_
          refine Z_lload dX5_baseAt_100 0 rfl ?_
          obtain ⟨g1, h⟩ := h
          refine Z_ldiv dX5_baseAt_102 g1 ?_
          refine Z_ladd dX5_baseAt_103 ?_
          refine Z_l2i dX5_baseAt_104 ?_
          exact Z_iret rfl rfl dX5_baseAt_105 (Nat.le_refl _) (Nat.le_refl _) ⟨_, rfl, h⟩
        · have h := h.2 q
          refine Z_ldc (v := 65536) zw_849 dX5_baseAt_78 ?_
          exact Z_iret rfl rfl dX5_baseAt_80 (Nat.le_refl _) (Nat.le_refl _) ⟨_, rfl, h⟩
      · have h := h.2 q
        refine Z_aload_n dX5_baseAt_45 rfl 2 rfl ?_
        refine Z_getI zfl_X5_48 dX5_baseAt_46 ?_
        refine Z_i2l dX5_baseAt_49 ?_
        refine Z_iload_n dX5_baseAt_50 rfl 3 rfl ?_
        refine Z_i2l dX5_baseAt_51 ?_
        refine Z_lload_n dX5_baseAt_52 rfl 1 rfl ?_
        refine Z_lsub dX5_baseAt_53 ?_
        refine Z_lmul dX5_baseAt_54 ?_
        refine Z_lload dX5_baseAt_55 0 rfl ?_
        refine Z_lload_n dX5_baseAt_57 rfl 1 rfl ?_
        refine Z_lsub dX5_baseAt_58 ?_
        obtain ⟨g2, h⟩ := h
        refine Z_ldiv dX5_baseAt_59 g2 ?_
        refine Z_l2i dX5_baseAt_60 ?_
        exact Z_iret rfl rfl dX5_baseAt_61 (Nat.le_refl _) (Nat.le_refl _) ⟨_, rfl, h⟩
    · have h := h.2 q
      refine Z_iconst (v := 0) (by decide) dX5_baseAt_35 ?_
      exact Z_iret rfl rfl dX5_baseAt_36 (Nat.le_refl _) (Nat.le_refl _) ⟨_, rfl, h⟩
-- X5_chanceAt
set_option maxRecDepth 100000 in
set_option maxHeartbeats 4000000 in
theorem zm_X5_chanceAt {l : Launch} {G : zG} {p1 : Int32} {p2 : Int32} {p3 : Int32} {M : zM} {Kf : Int32 → zM → Prop} (h : ((p1 = 3 → ((0 < (lg_cmp (65536 - (((p3 : Int32).toInt64) * ((p2 : Int32).toInt64))) 0) → (¬ (65536 - (((p3 : Int32).toInt64) * ((p2 : Int32).toInt64))) = 0 ∧ ((0 ≤ (lg_cmp ((65536 * ((p2 : Int32).toInt64)) / (65536 - (((p3 : Int32).toInt64) * ((p2 : Int32).toInt64)))) 65536) → (Kf 65536 M)) ∧ (¬ 0 ≤ (lg_cmp ((65536 * ((p2 : Int32).toInt64)) / (65536 - (((p3 : Int32).toInt64) * ((p2 : Int32).toInt64)))) 65536) → (Kf ((((65536 * ((p2 : Int32).toInt64)) / (65536 - (((p3 : Int32).toInt64) * ((p2 : Int32).toInt64)))) : Int64).toInt32) M))))) ∧ (¬ 0 < (lg_cmp (65536 - (((p3 : Int32).toInt64) * ((p2 : Int32).toInt64))) 0) → (Kf 65536 M)))) ∧ (¬ p1 = 3 → ((¬ p1 = 1 → (Kf 65536 M)) ∧ (p1 = 1 → (Kf 0 M)))))) : zCalI l G Y_X5_chanceAt 0 0 [vi p1, vi p2, vi p3] M Kf := by
  refine zCal_of (lv := [(0, vi p1), (1, vi p2), (2, vi p3)]) (by decide) rfl (zle rfl) rfl (fun hv => zlv_args (lv := [(0, vi p1), (1, vi p2), (2, vi p3)]) rfl hv) ?_
  refine Z_iload_n dX5_chanceAt_0 rfl 0 rfl ?_
  refine Z_iconst (v := 3) (by decide) dX5_chanceAt_1 ?_
  refine Z_icmp_eq (tgt := 17) dX5_chanceAt_2 (by decide) (fun q => ?_) (fun q => ?_)
  · have h := h.1 q
    refine Z_ldc2 (v := 65536) zw_853 dX5_chanceAt_17 ?_
    refine Z_iload_n dX5_chanceAt_20 rfl 2 rfl ?_
    refine Z_i2l dX5_chanceAt_21 ?_
    refine Z_iload_n dX5_chanceAt_22 rfl 1 rfl ?_
    refine Z_i2l dX5_chanceAt_23 ?_
    refine Z_lmul dX5_chanceAt_24 ?_
    refine Z_lsub dX5_chanceAt_25 ?_
    refine Z_lstore_n (lv2 := [(3, vl (65536 - (((p3 : Int32).toInt64) * ((p2 : Int32).toInt64)))), (0, vi p1), (1, vi p2), (2, vi p3)]) dX5_chanceAt_26 rfl (by decide) rfl ?_
    refine Z_lload_n dX5_chanceAt_27 rfl 0 rfl ?_
    refine Z_lconst (v := 0) (by decide) dX5_chanceAt_28 ?_
    refine Z_lcmp dX5_chanceAt_29 ?_
    refine Z_if_gt (tgt := 36) dX5_chanceAt_30 (by decide) (fun q => ?_) (fun q => ?_)
    · have h := h.1 q
      refine Z_ldc2 (v := 65536) zw_853 dX5_chanceAt_36 ?_
      refine Z_iload_n dX5_chanceAt_39 rfl 2 rfl ?_
      refine Z_i2l dX5_chanceAt_40 ?_
      refine Z_lmul dX5_chanceAt_41 ?_
      refine Z_lload_n dX5_chanceAt_42 rfl 0 rfl ?_
      obtain ⟨g1, h⟩ := h
      refine Z_ldiv dX5_chanceAt_43 g1 ?_
      refine Z_lstore (lv2 := [(5, vl ((65536 * ((p2 : Int32).toInt64)) / (65536 - (((p3 : Int32).toInt64) * ((p2 : Int32).toInt64))))), (3, vl (65536 - (((p3 : Int32).toInt64) * ((p2 : Int32).toInt64)))), (0, vi p1), (1, vi p2), (2, vi p3)]) dX5_chanceAt_44 (by decide) rfl ?_
      refine Z_lload dX5_chanceAt_46 0 rfl ?_
      refine Z_ldc2 (v := 65536) zw_853 dX5_chanceAt_48 ?_
      refine Z_lcmp dX5_chanceAt_51 ?_
      refine Z_if_ge (tgt := 61) dX5_chanceAt_52 (by decide) (fun q => ?_) (fun q => ?_)
      · have h := h.1 q
        refine Z_ldc (v := 65536) zw_849 dX5_chanceAt_61 ?_
        exact Z_iret rfl rfl dX5_chanceAt_63 (Nat.le_refl _) (Nat.le_refl _) ⟨_, rfl, h⟩
      · have h := h.2 q
        refine Z_lload dX5_chanceAt_55 0 rfl ?_
        refine Z_l2i dX5_chanceAt_57 ?_
        refine Z_goto (tgt := 63) dX5_chanceAt_58 (by decide) ?_
        exact Z_iret rfl rfl dX5_chanceAt_63 (Nat.le_refl _) (Nat.le_refl _) ⟨_, rfl, h⟩
    · have h := h.2 q
      refine Z_ldc (v := 65536) zw_849 dX5_chanceAt_33 ?_
      exact Z_iret rfl rfl dX5_chanceAt_35 (Nat.le_refl _) (Nat.le_refl _) ⟨_, rfl, h⟩
  · have h := h.2 q
    refine Z_iload_n dX5_chanceAt_5 rfl 0 rfl ?_
    refine Z_iconst (v := 1) (by decide) dX5_chanceAt_6 ?_
    refine Z_icmp_ne (tgt := 14) dX5_chanceAt_7 (by decide) (fun q => ?_) (fun q => ?_)
    · have h := h.1 q
      refine Z_ldc (v := 65536) zw_849 dX5_chanceAt_14 ?_
      exact Z_iret rfl rfl dX5_chanceAt_16 (Nat.le_refl _) (Nat.le_refl _) ⟨_, rfl, h⟩
    · have h := h.2 q
      refine Z_iconst (v := 0) (by decide) dX5_chanceAt_10 ?_
      refine Z_goto (tgt := 16) dX5_chanceAt_11 (by decide) ?_
      exact Z_iret rfl rfl dX5_chanceAt_16 (Nat.le_refl _) (Nat.le_refl _) ⟨_, rfl, h⟩
