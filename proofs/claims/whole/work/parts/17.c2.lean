/-! printed by wip/whole/drive.py -/
abbrev Y_X5_changeGentle : zY := (yX5_changeGentle, cX5_changeGentle, 3, (some .int), 2, [])
theorem zfp_X5_54 : zFP RX5 54 15 6 0 .int := ⟨9, RX5, TX5, 16, tyX5, ⟨rfl, rfl, by decide, rfl, zw_320, zws_X5⟩, tyX5_ok, nmX5, rfl, by decide +kernel⟩
abbrev Y_X5_changeLimits : zY := (yX5_changeLimits, cX5_changeLimits, 4, (some .int), 2, [])
theorem zfp_X5_42 : zFP RX5 42 15 2 0 .int := ⟨9, RX5, TX5, 16, tyX5, ⟨rfl, rfl, by decide, rfl, zw_308, zws_X5⟩, tyX5_ok, nmX5, rfl, by decide +kernel⟩
theorem zfp_X5_45 : zFP RX5 45 15 3 0 .int := ⟨9, RX5, TX5, 16, tyX5, ⟨rfl, rfl, by decide, rfl, zw_311, zws_X5⟩, tyX5_ok, nmX5, rfl, by decide +kernel⟩
abbrev Y_X5_changeTop : zY := (yX5_changeTop, cX5_changeTop, 3, (some .int), 2, [])
theorem zfp_X5_48 : zFP RX5 48 15 4 0 .int := ⟨9, RX5, TX5, 16, tyX5, ⟨rfl, rfl, by decide, rfl, zw_314, zws_X5⟩, tyX5_ok, nmX5, rfl, by decide +kernel⟩
abbrev Y_X5_changeWeight : zY := (yX5_changeWeight, cX5_changeWeight, 3, (some .int), 2, [])
theorem zfp_X5_51 : zFP RX5 51 15 5 0 .int := ⟨9, RX5, TX5, 16, tyX5, ⟨rfl, rfl, by decide, rfl, zw_317, zws_X5⟩, tyX5_ok, nmX5, rfl, by decide +kernel⟩
abbrev Y_X5_draw : zY := (yX5_draw, cX5_draw, 1, (some .int), 2, [])
theorem zw_329 : Cond.fieldLink RX5 66 "EarlyDrops$Router" "x" "I" ∈ zAll := zin 329 (by decide +kernel) (by decide +kernel)
theorem zfl_X5_66 : zFL RX5 66 15 10 0 := ⟨9, RX5, TX5, 16, rfl, rfl, by decide, rfl, zw_329, zws_X5⟩
theorem zw_858 : Cond.constant RX5 112 1103515245 ∈ zAll := zin 858 (by decide +kernel) (by decide +kernel)
theorem zfp_X5_66 : zFP RX5 66 15 10 0 .int := ⟨9, RX5, TX5, 16, tyX5, ⟨rfl, rfl, by decide, rfl, zw_329, zws_X5⟩, tyX5_ok, nmX5, rfl, by decide +kernel⟩
abbrev Y_X5_flowsOn : zY := (yX5_flowsOn, cX5_flowsOn, 3, (some .int), 2, [])
theorem zw_333 : Cond.fieldLink RX5 73 "EarlyDrops$Router" "flowCount" "I" ∈ zAll := zin 333 (by decide +kernel) (by decide +kernel)
theorem zfl_X5_73 : zFL RX5 73 15 12 0 := ⟨9, RX5, TX5, 16, rfl, rfl, by decide, rfl, zw_333, zws_X5⟩
theorem zw_337 : Cond.fieldLink RX5 11 "EarlyDrops$Router" "flows" "[LEarlyDrops$Flow;" ∈ zAll := zin 337 (by decide +kernel) (by decide +kernel)
theorem zfl_X5_11 : zFL RX5 11 15 13 1 := ⟨9, RX5, TX5, 16, rfl, rfl, by decide, rfl, zw_337, zws_X5⟩
theorem zw_257 : Cond.fieldLink RX5 92 "EarlyDrops$Flow" "on" "Z" ∈ zAll := zin 257 (by decide +kernel) (by decide +kernel)
theorem zfl_X5_92 : zFL RX5 92 17 6 0 := ⟨5, RX1, TX1, 11, rfl, rfl, by decide, rfl, zw_257, zws_X1⟩
abbrev Y_X5_hasFlow : zY := (yX5_hasFlow, cX5_hasFlow, 2, (some .boolean), 2, [])
abbrev Y_X5_outcomeOf : zY := (yX5_outcomeOf, cX5_outcomeOf, 5, (some .int), 2, [])
theorem zw_255 : Cond.fieldLink RX5 113 "EarlyDrops$Flow" "marks" "Z" ∈ zAll := zin 255 (by decide +kernel) (by decide +kernel)
theorem zfl_X5_113 : zFL RX5 113 17 5 0 := ⟨5, RX1, TX1, 11, rfl, rfl, by decide, rfl, zw_255, zws_X1⟩
abbrev Y_X5_wayAt : zY := (yX5_wayAt, cX5_wayAt, 3, (some .int), 2, [])
theorem zw_302 : Cond.fieldLink RX5 35 "EarlyDrops$Router" "limit" "I" ∈ zAll := zin 302 (by decide +kernel) (by decide +kernel)
theorem zfl_X5_35 : zFL RX5 35 15 0 0 := ⟨9, RX5, TX5, 16, rfl, rfl, by decide, rfl, zw_302, zws_X5⟩
abbrev Y_X6_addRow : zY := (yX6_addRow, cX6_addRow, 4, none, 2, [])
theorem zw_404 : Cond.fieldLink RX6 35 "EarlyDrops$Script" "length" "I" ∈ zAll := zin 404 (by decide +kernel) (by decide +kernel)
theorem zws_X6 : ∀ w ∈ u_ws RX6 TX6 10, w ∈ zAll := fun w hw => List.mem_filter.mpr (goodIn_r (big := lw_tbl) _ [407, 409, 411, 413, 415, 417, 419, 421, 423, 425] (by decide +kernel) (by decide +kernel) w hw |>.imp_right (fun _ => List.all_eq_true.mp (show (u_ws RX6 TX6 10).all goodWord = true by decide +kernel) w hw))
theorem zfl_X6_35 : zFL RX6 35 4 7 0 := ⟨10, RX6, TX6, 10, rfl, rfl, by decide, rfl, zw_404, zws_X6⟩
theorem zw_399 : Cond.fieldLink RX6 11 "EarlyDrops$Script" "orders" "[I" ∈ zAll := zin 399 (by decide +kernel) (by decide +kernel)
theorem zfl_X6_11 : zFL RX6 11 4 2 1 := ⟨10, RX6, TX6, 10, rfl, rfl, by decide, rfl, zw_399, zws_X6⟩
theorem zw_400 : Cond.fieldLink RX6 15 "EarlyDrops$Script" "firsts" "[I" ∈ zAll := zin 400 (by decide +kernel) (by decide +kernel)
theorem zfl_X6_15 : zFL RX6 15 4 3 1 := ⟨10, RX6, TX6, 10, rfl, rfl, by decide, rfl, zw_400, zws_X6⟩
theorem zw_401 : Cond.fieldLink RX6 18 "EarlyDrops$Script" "seconds" "[I" ∈ zAll := zin 401 (by decide +kernel) (by decide +kernel)
theorem zfl_X6_18 : zFL RX6 18 4 4 1 := ⟨10, RX6, TX6, 10, rfl, rfl, by decide, rfl, zw_401, zws_X6⟩
theorem zfp_X6_35 : zFP RX6 35 4 7 0 .int := ⟨10, RX6, TX6, 10, tyX6, ⟨rfl, rfl, by decide, rfl, zw_404, zws_X6⟩, tyX6_ok, nmX6, rfl, by decide +kernel⟩
abbrev Y_X6_rowBehind : zY := (yX6_rowBehind, cX6_rowBehind, 3, (some .int), 2, [])
theorem zw_402 : Cond.fieldLink RX6 21 "EarlyDrops$Script" "rounds" "[I" ∈ zAll := zin 402 (by decide +kernel) (by decide +kernel)
theorem zfl_X6_21 : zFL RX6 21 4 5 1 := ⟨10, RX6, TX6, 10, rfl, rfl, by decide, rfl, zw_402, zws_X6⟩
abbrev Y_X0_isAmiss : zY := (yX0_isAmiss, cX0_isAmiss, 4, (some .boolean), 3, [])
theorem zw_941 : Cond.methodLink RX0 34 yX0_cell ∈ zAll := zin 941 (by decide +kernel) (by decide +kernel)
theorem zw_944 : Cond.code yX0_cell cX0_cell 4 (some .int) ∈ zAll := zin 944 (by decide +kernel) (by decide +kernel)
theorem zw_942 : Cond.instanceMethod yX0_cell ∈ zAll := zin 942 (by decide +kernel) (by decide +kernel)
theorem zw_943 : Cond.selects RX0 yX0_cell yX0_cell ∈ zAll := zin 943 (by decide +kernel) (by decide +kernel)
theorem zw_116 : Cond.initialized RX0 ∈ zAll := zin 116 (by decide +kernel) (by decide +kernel)
theorem zcv_X0_isAmiss_X0_cell_34 : zLV Y_X0_isAmiss 34 Y_X0_cell 2 RX0 := ⟨zw_941, zw_942, zw_943, zw_116, zw_944, by decide +kernel, by decide, by decide⟩
abbrev Y_X1_begin : zY := (yX1_begin, cX1_begin, 1, none, 3, [])
theorem zfp_X1_21 : zFP RX1 21 17 6 0 .boolean := ⟨5, RX1, TX1, 11, tyX1, ⟨rfl, rfl, by decide, rfl, zw_256, zws_X1⟩, tyX1_ok, nmX1, rfl, by decide +kernel⟩
theorem zw_246 : Cond.fieldLink RX1 25 "EarlyDrops$Flow" "start" "I" ∈ zAll := zin 246 (by decide +kernel) (by decide +kernel)
theorem zfl_X1_25 : zFL RX1 25 17 3 0 := ⟨5, RX1, TX1, 11, rfl, rfl, by decide, rfl, zw_246, zws_X1⟩
theorem zw_259 : Cond.fieldLink RX1 29 "EarlyDrops$Flow" "window" "I" ∈ zAll := zin 259 (by decide +kernel) (by decide +kernel)
theorem zfp_X1_29 : zFP RX1 29 17 7 0 .int := ⟨5, RX1, TX1, 11, tyX1, ⟨rfl, rfl, by decide, rfl, zw_259, zws_X1⟩, tyX1_ok, nmX1, rfl, by decide +kernel⟩
theorem zw_264 : Cond.fieldLink RX1 35 "EarlyDrops$Flow" "sendings" "I" ∈ zAll := zin 264 (by decide +kernel) (by decide +kernel)
theorem zfp_X1_35 : zFP RX1 35 17 9 0 .int := ⟨5, RX1, TX1, 11, tyX1, ⟨rfl, rfl, by decide, rfl, zw_264, zws_X1⟩, tyX1_ok, nmX1, rfl, by decide +kernel⟩
abbrev Y_J7_fill_d0a16 : zY := (yJ7_fill_d0a16, cJ7_fill_d0a16, 5, none, 2, [])
theorem zw_710 : Cond.methodLink RX1 38 yJ7_fill_d0a16 ∈ zAll := zin 710 (by decide +kernel) (by decide +kernel)
theorem zw_712 : Cond.code yJ7_fill_d0a16 cJ7_fill_d0a16 5 none ∈ zAll := zin 712 (by decide +kernel) (by decide +kernel)
theorem zw_711 : Cond.static yJ7_fill_d0a16 ∈ zAll := zin 711 (by decide +kernel) (by decide +kernel)
theorem zw_127 : Cond.initialized RJ7 ∈ zAll := zin 127 (by decide +kernel) (by decide +kernel)
theorem zcs_X1_begin_J7_fill_d0a16_38 : zLS Y_X1_begin 38 Y_J7_fill_d0a16 2 := ⟨zw_710, zw_711, zw_127, zw_712, by decide +kernel, by decide, by decide⟩
abbrev Y_X3_packetsOf : zY := (yX3_packetsOf, cX3_packetsOf, 4, (some .int), 3, [])
theorem zw_1365 : Cond.methodLink RX3 25 yX3_cell ∈ zAll := zin 1365 (by decide +kernel) (by decide +kernel)
theorem zw_888 : Cond.code yX3_cell cX3_cell 4 (some .int) ∈ zAll := zin 888 (by decide +kernel) (by decide +kernel)
theorem zw_886 : Cond.instanceMethod yX3_cell ∈ zAll := zin 886 (by decide +kernel) (by decide +kernel)
theorem zw_887 : Cond.selects RX3 yX3_cell yX3_cell ∈ zAll := zin 887 (by decide +kernel) (by decide +kernel)
theorem zw_115 : Cond.initialized RX3 ∈ zAll := zin 115 (by decide +kernel) (by decide +kernel)
theorem zcv_X3_packetsOf_X3_cell_25 : zLV Y_X3_packetsOf 25 Y_X3_cell 2 RX3 := ⟨zw_1365, zw_886, zw_887, zw_115, zw_888, by decide +kernel, by decide, by decide⟩
abbrev Y_X4_advance : zY := (yX4_advance, cX4_advance, 2, none, 3, [])
theorem zw_537 : Cond.methodLink RX4 34 yX4_byteAt ∈ zAll := zin 537 (by decide +kernel) (by decide +kernel)
theorem zw_540 : Cond.code yX4_byteAt cX4_byteAt 2 (some .int) ∈ zAll := zin 540 (by decide +kernel) (by decide +kernel)
theorem zw_539 : Cond.instanceMethod yX4_byteAt ∈ zAll := zin 539 (by decide +kernel) (by decide +kernel)
theorem zw_0 : Cond.selects RX4 yX4_byteAt yX4_byteAt ∈ zAll := zin 0 (by decide +kernel) (by decide +kernel)
theorem zw_112 : Cond.initialized RX4 ∈ zAll := zin 112 (by decide +kernel) (by decide +kernel)
theorem zcv_X4_advance_X4_byteAt_34 : zLV Y_X4_advance 34 Y_X4_byteAt 1 RX4 := ⟨zw_537, zw_539, zw_0, zw_112, zw_540, by decide +kernel, by decide, by decide⟩
theorem zw_541 : Cond.methodLink RX4 38 yX4_isBlank ∈ zAll := zin 541 (by decide +kernel) (by decide +kernel)
theorem zw_543 : Cond.code yX4_isBlank cX4_isBlank 1 (some .boolean) ∈ zAll := zin 543 (by decide +kernel) (by decide +kernel)
theorem zw_542 : Cond.static yX4_isBlank ∈ zAll := zin 542 (by decide +kernel) (by decide +kernel)
theorem zcs_X4_advance_X4_isBlank_38 : zLS Y_X4_advance 38 Y_X4_isBlank 1 := ⟨zw_541, zw_542, zw_112, zw_543, by decide +kernel, by decide, by decide⟩
theorem zfp_X4_31 : zFP RX4 31 1 3 0 .int := ⟨8, RX4, TX4, 7, tyX4, ⟨rfl, rfl, by decide, rfl, zw_160, zws_X4⟩, tyX4_ok, nmX4, rfl, by decide +kernel⟩
theorem zw_544 : Cond.methodLink RX4 42 yX4_kindAt ∈ zAll := zin 544 (by decide +kernel) (by decide +kernel)
theorem zw_547 : Cond.code yX4_kindAt cX4_kindAt 3 (some .int) ∈ zAll := zin 547 (by decide +kernel) (by decide +kernel)
theorem zw_546 : Cond.instanceMethod yX4_kindAt ∈ zAll := zin 546 (by decide +kernel) (by decide +kernel)
theorem zw_1 : Cond.selects RX4 yX4_kindAt yX4_kindAt ∈ zAll := zin 1 (by decide +kernel) (by decide +kernel)
theorem zcv_X4_advance_X4_kindAt_42 : zLV Y_X4_advance 42 Y_X4_kindAt 1 RX4 := ⟨zw_544, zw_546, zw_1, zw_112, zw_547, by decide +kernel, by decide, by decide⟩
theorem zfp_X4_45 : zFP RX4 45 1 2 0 .int := ⟨8, RX4, TX4, 7, tyX4, ⟨rfl, rfl, by decide, rfl, zw_159, zws_X4⟩, tyX4_ok, nmX4, rfl, by decide +kernel⟩
theorem zfp_X4_25 : zFP RX4 25 1 4 0 .int := ⟨8, RX4, TX4, 7, tyX4, ⟨rfl, rfl, by decide, rfl, zw_161, zws_X4⟩, tyX4_ok, nmX4, rfl, by decide +kernel⟩
abbrev Y_X4_value : zY := (yX4_value, cX4_value, 3, (some .int), 3, [])
theorem zcv_X4_value_X4_byteAt_34 : zLV Y_X4_value 34 Y_X4_byteAt 1 RX4 := ⟨zw_537, zw_539, zw_0, zw_112, zw_540, by decide +kernel, by decide, by decide⟩
abbrev Y_X5_begin : zY := (yX5_begin, cX5_begin, 1, none, 3, [])
theorem zfp_X5_35 : zFP RX5 35 15 0 0 .int := ⟨9, RX5, TX5, 16, tyX5, ⟨rfl, rfl, by decide, rfl, zw_302, zws_X5⟩, tyX5_ok, nmX5, rfl, by decide +kernel⟩
theorem zw_305 : Cond.fieldLink RX5 39 "EarlyDrops$Router" "rate" "I" ∈ zAll := zin 305 (by decide +kernel) (by decide +kernel)
theorem zfp_X5_39 : zFP RX5 39 15 1 0 .int := ⟨9, RX5, TX5, 16, tyX5, ⟨rfl, rfl, by decide, rfl, zw_305, zws_X5⟩, tyX5_ok, nmX5, rfl, by decide +kernel⟩
theorem zw_323 : Cond.fieldLink RX5 57 "EarlyDrops$Router" "time" "I" ∈ zAll := zin 323 (by decide +kernel) (by decide +kernel)
theorem zfp_X5_57 : zFP RX5 57 15 7 0 .int := ⟨9, RX5, TX5, 16, tyX5, ⟨rfl, rfl, by decide, rfl, zw_323, zws_X5⟩, tyX5_ok, nmX5, rfl, by decide +kernel⟩
theorem zw_325 : Cond.fieldLink RX5 60 "EarlyDrops$Router" "average" "I" ∈ zAll := zin 325 (by decide +kernel) (by decide +kernel)
theorem zfp_X5_60 : zFP RX5 60 15 8 0 .int := ⟨9, RX5, TX5, 16, tyX5, ⟨rfl, rfl, by decide, rfl, zw_325, zws_X5⟩, tyX5_ok, nmX5, rfl, by decide +kernel⟩
theorem zw_327 : Cond.fieldLink RX5 63 "EarlyDrops$Router" "count" "I" ∈ zAll := zin 327 (by decide +kernel) (by decide +kernel)
theorem zfp_X5_63 : zFP RX5 63 15 9 0 .int := ⟨9, RX5, TX5, 16, tyX5, ⟨rfl, rfl, by decide, rfl, zw_327, zws_X5⟩, tyX5_ok, nmX5, rfl, by decide +kernel⟩
theorem zw_331 : Cond.fieldLink RX5 69 "EarlyDrops$Router" "early" "Z" ∈ zAll := zin 331 (by decide +kernel) (by decide +kernel)
theorem zfp_X5_69 : zFP RX5 69 15 11 0 .boolean := ⟨9, RX5, TX5, 16, tyX5, ⟨rfl, rfl, by decide, rfl, zw_331, zws_X5⟩, tyX5_ok, nmX5, rfl, by decide +kernel⟩
theorem zfp_X5_73 : zFP RX5 73 15 12 0 .int := ⟨9, RX5, TX5, 16, tyX5, ⟨rfl, rfl, by decide, rfl, zw_333, zws_X5⟩, tyX5_ok, nmX5, rfl, by decide +kernel⟩
theorem zw_341 : Cond.fieldLink RX5 20 "EarlyDrops$Router" "queue" "LEarlyDrops$Queue;" ∈ zAll := zin 341 (by decide +kernel) (by decide +kernel)
theorem zfl_X5_20 : zFL RX5 20 15 14 1 := ⟨9, RX5, TX5, 16, rfl, rfl, by decide, rfl, zw_341, zws_X5⟩
theorem zw_206 : Cond.fieldLink RX5 76 "EarlyDrops$Queue" "length" "I" ∈ zAll := zin 206 (by decide +kernel) (by decide +kernel)
theorem zfp_X5_76 : zFP RX5 76 19 1 0 .int := ⟨7, RX3, TX3, 2, tyX3, ⟨rfl, rfl, by decide, rfl, zw_206, zws_X3⟩, tyX3_ok, nmX3, rfl, by decide +kernel⟩
theorem zw_343 : Cond.fieldLink RX5 27 "EarlyDrops$Router" "decisions" "LEarlyDrops$Decisions;" ∈ zAll := zin 343 (by decide +kernel) (by decide +kernel)
theorem zfl_X5_27 : zFL RX5 27 15 15 1 := ⟨9, RX5, TX5, 16, rfl, rfl, by decide, rfl, zw_343, zws_X5⟩
theorem zw_298 : Cond.methodLink RX5 79 yX0_forget ∈ zAll := zin 298 (by decide +kernel) (by decide +kernel)
theorem zw_301 : Cond.code yX0_forget cX0_forget 1 none ∈ zAll := zin 301 (by decide +kernel) (by decide +kernel)
theorem zw_299 : Cond.instanceMethod yX0_forget ∈ zAll := zin 299 (by decide +kernel) (by decide +kernel)
theorem zw_300 : Cond.selects RX0 yX0_forget yX0_forget ∈ zAll := zin 300 (by decide +kernel) (by decide +kernel)
theorem zcv_X5_begin_X0_forget_79 : zLV Y_X5_begin 79 Y_X0_forget 0 RX0 := ⟨zw_298, zw_299, zw_300, zw_116, zw_301, by decide +kernel, by decide, by decide⟩
abbrev Y_X5_changeOn : zY := (yX5_changeOn, cX5_changeOn, 3, (some .int), 3, [])
theorem zw_889 : Cond.methodLink RX5 95 yX5_hasFlow ∈ zAll := zin 889 (by decide +kernel) (by decide +kernel)
theorem zw_892 : Cond.code yX5_hasFlow cX5_hasFlow 2 (some .boolean) ∈ zAll := zin 892 (by decide +kernel) (by decide +kernel)
theorem zw_890 : Cond.instanceMethod yX5_hasFlow ∈ zAll := zin 890 (by decide +kernel) (by decide +kernel)
theorem zw_891 : Cond.selects RX5 yX5_hasFlow yX5_hasFlow ∈ zAll := zin 891 (by decide +kernel) (by decide +kernel)
theorem zw_114 : Cond.initialized RX5 ∈ zAll := zin 114 (by decide +kernel) (by decide +kernel)
theorem zcv_X5_changeOn_X5_hasFlow_95 : zLV Y_X5_changeOn 95 Y_X5_hasFlow 1 RX5 := ⟨zw_889, zw_890, zw_891, zw_114, zw_892, by decide +kernel, by decide, by decide⟩
theorem zfp_X5_92 : zFP RX5 92 17 6 0 .boolean := ⟨5, RX1, TX1, 11, tyX1, ⟨rfl, rfl, by decide, rfl, zw_257, zws_X1⟩, tyX1_ok, nmX1, rfl, by decide +kernel⟩
theorem zw_925 : Cond.methodLink RX5 186 yX5_flowsOn ∈ zAll := zin 925 (by decide +kernel) (by decide +kernel)
theorem zw_928 : Cond.code yX5_flowsOn cX5_flowsOn 3 (some .int) ∈ zAll := zin 928 (by decide +kernel) (by decide +kernel)
theorem zw_926 : Cond.instanceMethod yX5_flowsOn ∈ zAll := zin 926 (by decide +kernel) (by decide +kernel)
theorem zw_927 : Cond.selects RX5 yX5_flowsOn yX5_flowsOn ∈ zAll := zin 927 (by decide +kernel) (by decide +kernel)
theorem zcv_X5_changeOn_X5_flowsOn_186 : zLV Y_X5_changeOn 186 Y_X5_flowsOn 0 RX5 := ⟨zw_925, zw_926, zw_927, zw_114, zw_928, by decide +kernel, by decide, by decide⟩
abbrev Y_X5_dropped : zY := (yX5_dropped, cX5_dropped, 4, (some .long), 3, [])
theorem zw_962 : Cond.methodLink RX5 103 yX1_drops ∈ zAll := zin 962 (by decide +kernel) (by decide +kernel)
theorem zw_965 : Cond.code yX1_drops cX1_drops 1 (some .long) ∈ zAll := zin 965 (by decide +kernel) (by decide +kernel)
theorem zw_963 : Cond.instanceMethod yX1_drops ∈ zAll := zin 963 (by decide +kernel) (by decide +kernel)
theorem zw_964 : Cond.selects RX1 yX1_drops yX1_drops ∈ zAll := zin 964 (by decide +kernel) (by decide +kernel)
theorem zw_117 : Cond.initialized RX1 ∈ zAll := zin 117 (by decide +kernel) (by decide +kernel)
theorem zcv_X5_dropped_X1_drops_103 : zLV Y_X5_dropped 103 Y_X1_drops 0 RX1 := ⟨zw_962, zw_963, zw_964, zw_117, zw_965, by decide +kernel, by decide, by decide⟩
abbrev Y_X5_total : zY := (yX5_total, cX5_total, 6, (some .long), 3, [])
theorem zcv_X5_total_X5_hasFlow_95 : zLV Y_X5_total 95 Y_X5_hasFlow 1 RX5 := ⟨zw_889, zw_890, zw_891, zw_114, zw_892, by decide +kernel, by decide, by decide⟩
theorem zw_267 : Cond.fieldLink RX5 99 "EarlyDrops$Flow" "accounts" "[J" ∈ zAll := zin 267 (by decide +kernel) (by decide +kernel)
theorem zfl_X5_99 : zFL RX5 99 17 10 1 := ⟨5, RX1, TX1, 11, rfl, rfl, by decide, rfl, zw_267, zws_X1⟩
abbrev Y_X0_copyFrom : zY := (yX0_copyFrom, cX0_copyFrom, 2, none, 4, [])
theorem zfl_X0_15 : zFL RX0 15 21 1 0 := ⟨4, RX0, TX0, 3, rfl, rfl, by decide, rfl, zw_220, zws_X0⟩
theorem zw_737 : Cond.methodLink RX0 22 arraycopyName ∈ zAll := zin 737 (by decide +kernel) (by decide +kernel)
theorem zw_727 : Cond.native arraycopyName ∈ zAll := zin 727 (by decide +kernel) (by decide +kernel)
theorem zw_726 : Cond.static arraycopyName ∈ zAll := zin 726 (by decide +kernel) (by decide +kernel)
theorem zw_128 : Cond.initialized "java/lang/System" ∈ zAll := zin 128 (by decide +kernel) (by decide +kernel)
abbrev Y_X1_copyFrom : zY := (yX1_copyFrom, cX1_copyFrom, 2, none, 4, [])
theorem zw_236 : Cond.fieldLink RX1 11 "EarlyDrops$Flow" "name" "Ljava/lang/String;" ∈ zAll := zin 236 (by decide +kernel) (by decide +kernel)
theorem zfl_X1_11 : zFL RX1 11 17 0 2 := ⟨5, RX1, TX1, 11, rfl, rfl, by decide, rfl, zw_236, zws_X1⟩
theorem zfp_X1_11 : zFP RX1 11 17 0 2 (.object "java/lang/String") := ⟨5, RX1, TX1, 11, tyX1, ⟨rfl, rfl, by decide, rfl, zw_236, zws_X1⟩, tyX1_ok, nmX1, rfl, by decide +kernel⟩
theorem zfp_X1_44 : zFP RX1 44 17 1 0 .int := ⟨5, RX1, TX1, 11, tyX1, ⟨rfl, rfl, by decide, rfl, zw_240, zws_X1⟩, tyX1_ok, nmX1, rfl, by decide +kernel⟩
theorem zfp_X1_47 : zFP RX1 47 17 2 0 .int := ⟨5, RX1, TX1, 11, tyX1, ⟨rfl, rfl, by decide, rfl, zw_243, zws_X1⟩, tyX1_ok, nmX1, rfl, by decide +kernel⟩
theorem zfp_X1_25 : zFP RX1 25 17 3 0 .int := ⟨5, RX1, TX1, 11, tyX1, ⟨rfl, rfl, by decide, rfl, zw_246, zws_X1⟩, tyX1_ok, nmX1, rfl, by decide +kernel⟩
theorem zw_249 : Cond.fieldLink RX1 50 "EarlyDrops$Flow" "cap" "I" ∈ zAll := zin 249 (by decide +kernel) (by decide +kernel)
theorem zfl_X1_50 : zFL RX1 50 17 4 0 := ⟨5, RX1, TX1, 11, rfl, rfl, by decide, rfl, zw_249, zws_X1⟩
theorem zfp_X1_50 : zFP RX1 50 17 4 0 .int := ⟨5, RX1, TX1, 11, tyX1, ⟨rfl, rfl, by decide, rfl, zw_249, zws_X1⟩, tyX1_ok, nmX1, rfl, by decide +kernel⟩
theorem zw_252 : Cond.fieldLink RX1 53 "EarlyDrops$Flow" "marks" "Z" ∈ zAll := zin 252 (by decide +kernel) (by decide +kernel)
theorem zfl_X1_53 : zFL RX1 53 17 5 0 := ⟨5, RX1, TX1, 11, rfl, rfl, by decide, rfl, zw_252, zws_X1⟩
theorem zfp_X1_53 : zFP RX1 53 17 5 0 .boolean := ⟨5, RX1, TX1, 11, tyX1, ⟨rfl, rfl, by decide, rfl, zw_252, zws_X1⟩, tyX1_ok, nmX1, rfl, by decide +kernel⟩
theorem zfl_X1_29 : zFL RX1 29 17 7 0 := ⟨5, RX1, TX1, 11, rfl, rfl, by decide, rfl, zw_259, zws_X1⟩
theorem zfl_X1_35 : zFL RX1 35 17 9 0 := ⟨5, RX1, TX1, 11, rfl, rfl, by decide, rfl, zw_264, zws_X1⟩
theorem zw_725 : Cond.methodLink RX1 56 arraycopyName ∈ zAll := zin 725 (by decide +kernel) (by decide +kernel)
theorem dX0_copyFrom_0 : decode cX0_copyFrom 0 = .ok (.aload_n 0, 1) := by decide +kernel
theorem dX0_copyFrom_1 : decode cX0_copyFrom 1 = .ok (.aload_n 1, 1) := by decide +kernel
theorem dX0_copyFrom_2 : decode cX0_copyFrom 2 = .ok (.getfield 15, 3) := by decide +kernel
theorem dX0_copyFrom_5 : decode cX0_copyFrom 5 = .ok (.putfield 15, 3) := by decide +kernel
theorem dX0_copyFrom_8 : decode cX0_copyFrom 8 = .ok (.aload_n 0, 1) := by decide +kernel
theorem dX0_copyFrom_9 : decode cX0_copyFrom 9 = .ok (.aload_n 1, 1) := by decide +kernel
theorem dX0_copyFrom_10 : decode cX0_copyFrom 10 = .ok (.getfield 19, 3) := by decide +kernel
theorem dX0_copyFrom_13 : decode cX0_copyFrom 13 = .ok (.putfield 19, 3) := by decide +kernel
theorem dX0_copyFrom_16 : decode cX0_copyFrom 16 = .ok (.aload_n 1, 1) := by decide +kernel
theorem dX0_copyFrom_17 : decode cX0_copyFrom 17 = .ok (.getfield 11, 3) := by decide +kernel
theorem dX0_copyFrom_20 : decode cX0_copyFrom 20 = .ok (.iconst 0, 1) := by decide +kernel
theorem dX0_copyFrom_21 : decode cX0_copyFrom 21 = .ok (.aload_n 0, 1) := by decide +kernel
theorem dX0_copyFrom_22 : decode cX0_copyFrom 22 = .ok (.getfield 11, 3) := by decide +kernel
theorem dX0_copyFrom_25 : decode cX0_copyFrom 25 = .ok (.iconst 0, 1) := by decide +kernel
theorem dX0_copyFrom_26 : decode cX0_copyFrom 26 = .ok (.aload_n 0, 1) := by decide +kernel
theorem dX0_copyFrom_27 : decode cX0_copyFrom 27 = .ok (.getfield 11, 3) := by decide +kernel
theorem dX0_copyFrom_30 : decode cX0_copyFrom 30 = .ok (.arraylength, 1) := by decide +kernel
theorem dX0_copyFrom_31 : decode cX0_copyFrom 31 = .ok (.invokestatic 22, 3) := by decide +kernel
theorem dX0_copyFrom_34 : decode cX0_copyFrom 34 = .ok (.return_, 1) := by decide +kernel
theorem dX0_isAmiss_0 : decode cX0_isAmiss 0 = .ok (.aload_n 0, 1) := by decide +kernel
theorem dX0_isAmiss_1 : decode cX0_isAmiss 1 = .ok (.iload_n 1, 1) := by decide +kernel
theorem dX0_isAmiss_2 : decode cX0_isAmiss 2 = .ok (.iconst 2, 1) := by decide +kernel
theorem dX0_isAmiss_3 : decode cX0_isAmiss 3 = .ok (.invokevirtual 34, 3) := by decide +kernel
theorem dX0_isAmiss_6 : decode cX0_isAmiss 6 = .ok (.iconst 3, 1) := by decide +kernel
theorem dX0_isAmiss_7 : decode cX0_isAmiss 7 = .ok (.if_icmp .eq 5, 3) := by decide +kernel
theorem dX0_isAmiss_10 : decode cX0_isAmiss 10 = .ok (.iconst 0, 1) := by decide +kernel
theorem dX0_isAmiss_11 : decode cX0_isAmiss 11 = .ok (.ireturn, 1) := by decide +kernel
theorem dX0_isAmiss_12 : decode cX0_isAmiss 12 = .ok (.aload_n 0, 1) := by decide +kernel
theorem dX0_isAmiss_13 : decode cX0_isAmiss 13 = .ok (.iload_n 1, 1) := by decide +kernel
theorem dX0_isAmiss_14 : decode cX0_isAmiss 14 = .ok (.bipush 6, 2) := by decide +kernel
theorem dX0_isAmiss_16 : decode cX0_isAmiss 16 = .ok (.invokevirtual 34, 3) := by decide +kernel
theorem dX0_isAmiss_19 : decode cX0_isAmiss 19 = .ok (.aload_n 0, 1) := by decide +kernel
theorem dX0_isAmiss_20 : decode cX0_isAmiss 20 = .ok (.iload_n 1, 1) := by decide +kernel
theorem dX0_isAmiss_21 : decode cX0_isAmiss 21 = .ok (.iconst 5, 1) := by decide +kernel
theorem dX0_isAmiss_22 : decode cX0_isAmiss 22 = .ok (.invokevirtual 34, 3) := by decide +kernel
theorem dX0_isAmiss_25 : decode cX0_isAmiss 25 = .ok (.if_icmp .ge 7, 3) := by decide +kernel
theorem dX0_isAmiss_28 : decode cX0_isAmiss 28 = .ok (.iconst 1, 1) := by decide +kernel
theorem dX0_isAmiss_29 : decode cX0_isAmiss 29 = .ok (.goto 4, 3) := by decide +kernel
theorem dX0_isAmiss_32 : decode cX0_isAmiss 32 = .ok (.iconst 0, 1) := by decide +kernel
theorem dX0_isAmiss_33 : decode cX0_isAmiss 33 = .ok (.istore_n 2, 1) := by decide +kernel
theorem dX0_isAmiss_34 : decode cX0_isAmiss 34 = .ok (.aload_n 0, 1) := by decide +kernel
theorem dX0_isAmiss_35 : decode cX0_isAmiss 35 = .ok (.iload_n 1, 1) := by decide +kernel
theorem dX0_isAmiss_36 : decode cX0_isAmiss 36 = .ok (.bipush 7, 2) := by decide +kernel
theorem dX0_isAmiss_38 : decode cX0_isAmiss 38 = .ok (.invokevirtual 34, 3) := by decide +kernel
theorem dX0_isAmiss_41 : decode cX0_isAmiss 41 = .ok (.ifCond .ne 7, 3) := by decide +kernel
theorem dX0_isAmiss_44 : decode cX0_isAmiss 44 = .ok (.iconst 1, 1) := by decide +kernel
theorem dX0_isAmiss_45 : decode cX0_isAmiss 45 = .ok (.goto 4, 3) := by decide +kernel
theorem dX0_isAmiss_48 : decode cX0_isAmiss 48 = .ok (.iconst 0, 1) := by decide +kernel
theorem dX0_isAmiss_49 : decode cX0_isAmiss 49 = .ok (.istore_n 3, 1) := by decide +kernel
theorem dX0_isAmiss_50 : decode cX0_isAmiss 50 = .ok (.iload_n 2, 1) := by decide +kernel
theorem dX0_isAmiss_51 : decode cX0_isAmiss 51 = .ok (.iload_n 3, 1) := by decide +kernel
theorem dX0_isAmiss_52 : decode cX0_isAmiss 52 = .ok (.if_icmp .ne 7, 3) := by decide +kernel
theorem dX0_isAmiss_55 : decode cX0_isAmiss 55 = .ok (.iconst 1, 1) := by decide +kernel
theorem dX0_isAmiss_56 : decode cX0_isAmiss 56 = .ok (.goto 4, 3) := by decide +kernel
theorem dX0_isAmiss_59 : decode cX0_isAmiss 59 = .ok (.iconst 0, 1) := by decide +kernel
theorem dX0_isAmiss_60 : decode cX0_isAmiss 60 = .ok (.ireturn, 1) := by decide +kernel
theorem dX1_begin_0 : decode cX1_begin 0 = .ok (.aload_n 0, 1) := by decide +kernel
theorem dX1_begin_1 : decode cX1_begin 1 = .ok (.iconst 1, 1) := by decide +kernel
theorem dX1_begin_2 : decode cX1_begin 2 = .ok (.putfield 21, 3) := by decide +kernel
theorem dX1_begin_5 : decode cX1_begin 5 = .ok (.aload_n 0, 1) := by decide +kernel
theorem dX1_begin_6 : decode cX1_begin 6 = .ok (.aload_n 0, 1) := by decide +kernel
theorem dX1_begin_7 : decode cX1_begin 7 = .ok (.getfield 25, 3) := by decide +kernel
theorem dX1_begin_10 : decode cX1_begin 10 = .ok (.putfield 29, 3) := by decide +kernel
theorem dX1_begin_13 : decode cX1_begin 13 = .ok (.aload_n 0, 1) := by decide +kernel
theorem dX1_begin_14 : decode cX1_begin 14 = .ok (.iconst 0, 1) := by decide +kernel
theorem dX1_begin_15 : decode cX1_begin 15 = .ok (.putfield 32, 3) := by decide +kernel
theorem dX1_begin_18 : decode cX1_begin 18 = .ok (.aload_n 0, 1) := by decide +kernel
theorem dX1_begin_19 : decode cX1_begin 19 = .ok (.iconst 0, 1) := by decide +kernel
theorem dX1_begin_20 : decode cX1_begin 20 = .ok (.putfield 35, 3) := by decide +kernel
theorem dX1_begin_23 : decode cX1_begin 23 = .ok (.aload_n 0, 1) := by decide +kernel
theorem dX1_begin_24 : decode cX1_begin 24 = .ok (.getfield 17, 3) := by decide +kernel
theorem dX1_begin_27 : decode cX1_begin 27 = .ok (.lconst 0, 1) := by decide +kernel
theorem dX1_begin_28 : decode cX1_begin 28 = .ok (.invokestatic 38, 3) := by decide +kernel
theorem dX1_begin_31 : decode cX1_begin 31 = .ok (.return_, 1) := by decide +kernel
theorem dX1_copyFrom_0 : decode cX1_copyFrom 0 = .ok (.aload_n 0, 1) := by decide +kernel
theorem dX1_copyFrom_1 : decode cX1_copyFrom 1 = .ok (.aload_n 1, 1) := by decide +kernel
theorem dX1_copyFrom_2 : decode cX1_copyFrom 2 = .ok (.getfield 11, 3) := by decide +kernel
theorem dX1_copyFrom_5 : decode cX1_copyFrom 5 = .ok (.putfield 11, 3) := by decide +kernel
theorem dX1_copyFrom_8 : decode cX1_copyFrom 8 = .ok (.aload_n 0, 1) := by decide +kernel
theorem dX1_copyFrom_9 : decode cX1_copyFrom 9 = .ok (.aload_n 1, 1) := by decide +kernel
theorem dX1_copyFrom_10 : decode cX1_copyFrom 10 = .ok (.getfield 44, 3) := by decide +kernel
theorem dX1_copyFrom_13 : decode cX1_copyFrom 13 = .ok (.putfield 44, 3) := by decide +kernel
theorem dX1_copyFrom_16 : decode cX1_copyFrom 16 = .ok (.aload_n 0, 1) := by decide +kernel
theorem dX1_copyFrom_17 : decode cX1_copyFrom 17 = .ok (.aload_n 1, 1) := by decide +kernel
theorem dX1_copyFrom_18 : decode cX1_copyFrom 18 = .ok (.getfield 47, 3) := by decide +kernel
theorem dX1_copyFrom_21 : decode cX1_copyFrom 21 = .ok (.putfield 47, 3) := by decide +kernel
theorem dX1_copyFrom_24 : decode cX1_copyFrom 24 = .ok (.aload_n 0, 1) := by decide +kernel
theorem dX1_copyFrom_25 : decode cX1_copyFrom 25 = .ok (.aload_n 1, 1) := by decide +kernel
theorem dX1_copyFrom_26 : decode cX1_copyFrom 26 = .ok (.getfield 25, 3) := by decide +kernel
theorem dX1_copyFrom_29 : decode cX1_copyFrom 29 = .ok (.putfield 25, 3) := by decide +kernel
theorem dX1_copyFrom_32 : decode cX1_copyFrom 32 = .ok (.aload_n 0, 1) := by decide +kernel
theorem dX1_copyFrom_33 : decode cX1_copyFrom 33 = .ok (.aload_n 1, 1) := by decide +kernel
theorem dX1_copyFrom_34 : decode cX1_copyFrom 34 = .ok (.getfield 50, 3) := by decide +kernel
theorem dX1_copyFrom_37 : decode cX1_copyFrom 37 = .ok (.putfield 50, 3) := by decide +kernel
theorem dX1_copyFrom_40 : decode cX1_copyFrom 40 = .ok (.aload_n 0, 1) := by decide +kernel
theorem dX1_copyFrom_41 : decode cX1_copyFrom 41 = .ok (.aload_n 1, 1) := by decide +kernel
theorem dX1_copyFrom_42 : decode cX1_copyFrom 42 = .ok (.getfield 53, 3) := by decide +kernel
theorem dX1_copyFrom_45 : decode cX1_copyFrom 45 = .ok (.putfield 53, 3) := by decide +kernel
theorem dX1_copyFrom_48 : decode cX1_copyFrom 48 = .ok (.aload_n 0, 1) := by decide +kernel
theorem dX1_copyFrom_49 : decode cX1_copyFrom 49 = .ok (.aload_n 1, 1) := by decide +kernel
theorem dX1_copyFrom_50 : decode cX1_copyFrom 50 = .ok (.getfield 21, 3) := by decide +kernel
theorem dX1_copyFrom_53 : decode cX1_copyFrom 53 = .ok (.putfield 21, 3) := by decide +kernel
theorem dX1_copyFrom_56 : decode cX1_copyFrom 56 = .ok (.aload_n 0, 1) := by decide +kernel
theorem dX1_copyFrom_57 : decode cX1_copyFrom 57 = .ok (.aload_n 1, 1) := by decide +kernel
theorem dX1_copyFrom_58 : decode cX1_copyFrom 58 = .ok (.getfield 29, 3) := by decide +kernel
theorem dX1_copyFrom_61 : decode cX1_copyFrom 61 = .ok (.putfield 29, 3) := by decide +kernel
theorem dX1_copyFrom_64 : decode cX1_copyFrom 64 = .ok (.aload_n 0, 1) := by decide +kernel
theorem dX1_copyFrom_65 : decode cX1_copyFrom 65 = .ok (.aload_n 1, 1) := by decide +kernel
theorem dX1_copyFrom_66 : decode cX1_copyFrom 66 = .ok (.getfield 32, 3) := by decide +kernel
theorem dX1_copyFrom_69 : decode cX1_copyFrom 69 = .ok (.putfield 32, 3) := by decide +kernel
theorem dX1_copyFrom_72 : decode cX1_copyFrom 72 = .ok (.aload_n 0, 1) := by decide +kernel
theorem dX1_copyFrom_73 : decode cX1_copyFrom 73 = .ok (.aload_n 1, 1) := by decide +kernel
theorem dX1_copyFrom_74 : decode cX1_copyFrom 74 = .ok (.getfield 35, 3) := by decide +kernel
theorem dX1_copyFrom_77 : decode cX1_copyFrom 77 = .ok (.putfield 35, 3) := by decide +kernel
theorem dX1_copyFrom_80 : decode cX1_copyFrom 80 = .ok (.aload_n 1, 1) := by decide +kernel
theorem dX1_copyFrom_81 : decode cX1_copyFrom 81 = .ok (.getfield 17, 3) := by decide +kernel
theorem dX1_copyFrom_84 : decode cX1_copyFrom 84 = .ok (.iconst 0, 1) := by decide +kernel
theorem dX1_copyFrom_85 : decode cX1_copyFrom 85 = .ok (.aload_n 0, 1) := by decide +kernel
theorem dX1_copyFrom_86 : decode cX1_copyFrom 86 = .ok (.getfield 17, 3) := by decide +kernel
theorem dX1_copyFrom_89 : decode cX1_copyFrom 89 = .ok (.iconst 0, 1) := by decide +kernel
theorem dX1_copyFrom_90 : decode cX1_copyFrom 90 = .ok (.bipush 8, 2) := by decide +kernel
theorem dX1_copyFrom_92 : decode cX1_copyFrom 92 = .ok (.invokestatic 56, 3) := by decide +kernel
theorem dX1_copyFrom_95 : decode cX1_copyFrom 95 = .ok (.return_, 1) := by decide +kernel
theorem dX3_packetsOf_0 : decode cX3_packetsOf 0 = .ok (.iconst 0, 1) := by decide +kernel
theorem dX3_packetsOf_1 : decode cX3_packetsOf 1 = .ok (.istore_n 2, 1) := by decide +kernel
theorem dX3_packetsOf_2 : decode cX3_packetsOf 2 = .ok (.iconst 0, 1) := by decide +kernel
theorem dX3_packetsOf_3 : decode cX3_packetsOf 3 = .ok (.istore_n 3, 1) := by decide +kernel
theorem dX3_packetsOf_4 : decode cX3_packetsOf 4 = .ok (.iload_n 3, 1) := by decide +kernel
theorem dX3_packetsOf_5 : decode cX3_packetsOf 5 = .ok (.aload_n 0, 1) := by decide +kernel
theorem dX3_packetsOf_6 : decode cX3_packetsOf 6 = .ok (.getfield 15, 3) := by decide +kernel
theorem dX3_packetsOf_9 : decode cX3_packetsOf 9 = .ok (.if_icmp .ge 22, 3) := by decide +kernel
theorem dX3_packetsOf_12 : decode cX3_packetsOf 12 = .ok (.aload_n 0, 1) := by decide +kernel
theorem dX3_packetsOf_13 : decode cX3_packetsOf 13 = .ok (.iload_n 3, 1) := by decide +kernel
theorem dX3_packetsOf_14 : decode cX3_packetsOf 14 = .ok (.iconst 0, 1) := by decide +kernel
theorem dX3_packetsOf_15 : decode cX3_packetsOf 15 = .ok (.invokevirtual 25, 3) := by decide +kernel
theorem dX3_packetsOf_18 : decode cX3_packetsOf 18 = .ok (.iload_n 1, 1) := by decide +kernel
theorem dX3_packetsOf_19 : decode cX3_packetsOf 19 = .ok (.if_icmp .ne 6, 3) := by decide +kernel
theorem dX3_packetsOf_22 : decode cX3_packetsOf 22 = .ok (.iinc 2 1, 3) := by decide +kernel
theorem dX3_packetsOf_25 : decode cX3_packetsOf 25 = .ok (.iinc 3 1, 3) := by decide +kernel
theorem dX3_packetsOf_28 : decode cX3_packetsOf 28 = .ok (.goto (-24), 3) := by decide +kernel
theorem dX3_packetsOf_31 : decode cX3_packetsOf 31 = .ok (.iload_n 2, 1) := by decide +kernel
theorem dX3_packetsOf_32 : decode cX3_packetsOf 32 = .ok (.ireturn, 1) := by decide +kernel
theorem dX4_advance_0 : decode cX4_advance 0 = .ok (.aload_n 0, 1) := by decide +kernel
theorem dX4_advance_1 : decode cX4_advance 1 = .ok (.getfield 25, 3) := by decide +kernel
theorem dX4_advance_4 : decode cX4_advance 4 = .ok (.istore_n 1, 1) := by decide +kernel
theorem dX4_advance_5 : decode cX4_advance 5 = .ok (.iload_n 1, 1) := by decide +kernel
theorem dX4_advance_6 : decode cX4_advance 6 = .ok (.aload_n 0, 1) := by decide +kernel
theorem dX4_advance_7 : decode cX4_advance 7 = .ok (.getfield 19, 3) := by decide +kernel
theorem dX4_advance_10 : decode cX4_advance 10 = .ok (.if_icmp .ge 20, 3) := by decide +kernel
theorem dX4_advance_13 : decode cX4_advance 13 = .ok (.aload_n 0, 1) := by decide +kernel
theorem dX4_advance_14 : decode cX4_advance 14 = .ok (.iload_n 1, 1) := by decide +kernel
theorem dX4_advance_15 : decode cX4_advance 15 = .ok (.invokevirtual 34, 3) := by decide +kernel
theorem dX4_advance_18 : decode cX4_advance 18 = .ok (.invokestatic 38, 3) := by decide +kernel
theorem dX4_advance_21 : decode cX4_advance 21 = .ok (.ifCond .eq 9, 3) := by decide +kernel
theorem dX4_advance_24 : decode cX4_advance 24 = .ok (.iinc 1 1, 3) := by decide +kernel
theorem dX4_advance_27 : decode cX4_advance 27 = .ok (.goto (-22), 3) := by decide +kernel
theorem dX4_advance_30 : decode cX4_advance 30 = .ok (.aload_n 0, 1) := by decide +kernel
theorem dX4_advance_31 : decode cX4_advance 31 = .ok (.iload_n 1, 1) := by decide +kernel
theorem dX4_advance_32 : decode cX4_advance 32 = .ok (.putfield 31, 3) := by decide +kernel
theorem dX4_advance_35 : decode cX4_advance 35 = .ok (.aload_n 0, 1) := by decide +kernel
theorem dX4_advance_36 : decode cX4_advance 36 = .ok (.aload_n 0, 1) := by decide +kernel
theorem dX4_advance_37 : decode cX4_advance 37 = .ok (.iload_n 1, 1) := by decide +kernel
theorem dX4_advance_38 : decode cX4_advance 38 = .ok (.invokevirtual 42, 3) := by decide +kernel
theorem dX4_advance_41 : decode cX4_advance 41 = .ok (.putfield 45, 3) := by decide +kernel
theorem dX4_advance_44 : decode cX4_advance 44 = .ok (.iload_n 1, 1) := by decide +kernel
theorem dX4_advance_45 : decode cX4_advance 45 = .ok (.aload_n 0, 1) := by decide +kernel
theorem dX4_advance_46 : decode cX4_advance 46 = .ok (.getfield 19, 3) := by decide +kernel
theorem dX4_advance_49 : decode cX4_advance 49 = .ok (.if_icmp .ge 6, 3) := by decide +kernel
theorem dX4_advance_52 : decode cX4_advance 52 = .ok (.iinc 1 1, 3) := by decide +kernel
theorem dX4_advance_55 : decode cX4_advance 55 = .ok (.iload_n 1, 1) := by decide +kernel
theorem dX4_advance_56 : decode cX4_advance 56 = .ok (.aload_n 0, 1) := by decide +kernel
theorem dX4_advance_57 : decode cX4_advance 57 = .ok (.getfield 19, 3) := by decide +kernel
theorem dX4_advance_60 : decode cX4_advance 60 = .ok (.if_icmp .ge 37, 3) := by decide +kernel
theorem dX4_advance_63 : decode cX4_advance 63 = .ok (.aload_n 0, 1) := by decide +kernel
theorem dX4_advance_64 : decode cX4_advance 64 = .ok (.getfield 45, 3) := by decide +kernel
theorem dX4_advance_67 : decode cX4_advance 67 = .ok (.iconst 1, 1) := by decide +kernel
theorem dX4_advance_68 : decode cX4_advance 68 = .ok (.if_icmp .eq 11, 3) := by decide +kernel
theorem dX4_advance_71 : decode cX4_advance 71 = .ok (.aload_n 0, 1) := by decide +kernel
theorem dX4_advance_72 : decode cX4_advance 72 = .ok (.getfield 45, 3) := by decide +kernel
theorem dX4_advance_75 : decode cX4_advance 75 = .ok (.iconst 2, 1) := by decide +kernel
theorem dX4_advance_76 : decode cX4_advance 76 = .ok (.if_icmp .ne 21, 3) := by decide +kernel
theorem dX4_advance_79 : decode cX4_advance 79 = .ok (.aload_n 0, 1) := by decide +kernel
theorem dX4_advance_80 : decode cX4_advance 80 = .ok (.iload_n 1, 1) := by decide +kernel
theorem dX4_advance_81 : decode cX4_advance 81 = .ok (.invokevirtual 42, 3) := by decide +kernel
theorem dX4_advance_84 : decode cX4_advance 84 = .ok (.aload_n 0, 1) := by decide +kernel
theorem dX4_advance_85 : decode cX4_advance 85 = .ok (.getfield 45, 3) := by decide +kernel
theorem dX4_advance_88 : decode cX4_advance 88 = .ok (.if_icmp .ne 9, 3) := by decide +kernel
theorem dX4_advance_91 : decode cX4_advance 91 = .ok (.iinc 1 1, 3) := by decide +kernel
theorem dX4_advance_94 : decode cX4_advance 94 = .ok (.goto (-39), 3) := by decide +kernel
theorem dX4_advance_97 : decode cX4_advance 97 = .ok (.aload_n 0, 1) := by decide +kernel
theorem dX4_advance_98 : decode cX4_advance 98 = .ok (.iload_n 1, 1) := by decide +kernel
theorem dX4_advance_99 : decode cX4_advance 99 = .ok (.putfield 25, 3) := by decide +kernel
theorem dX4_advance_102 : decode cX4_advance 102 = .ok (.return_, 1) := by decide +kernel
theorem dX4_value_0 : decode cX4_value 0 = .ok (.aload_n 0, 1) := by decide +kernel
theorem dX4_value_1 : decode cX4_value 1 = .ok (.getfield 25, 3) := by decide +kernel
theorem dX4_value_4 : decode cX4_value 4 = .ok (.aload_n 0, 1) := by decide +kernel
theorem dX4_value_5 : decode cX4_value 5 = .ok (.getfield 31, 3) := by decide +kernel
theorem dX4_value_8 : decode cX4_value 8 = .ok (.isub, 1) := by decide +kernel
theorem dX4_value_9 : decode cX4_value 9 = .ok (.bipush 6, 2) := by decide +kernel
theorem dX4_value_11 : decode cX4_value 11 = .ok (.if_icmp .le 5, 3) := by decide +kernel
theorem dX4_value_14 : decode cX4_value 14 = .ok (.iconst (-1), 1) := by decide +kernel
theorem dX4_value_15 : decode cX4_value 15 = .ok (.ireturn, 1) := by decide +kernel
theorem dX4_value_16 : decode cX4_value 16 = .ok (.iconst 0, 1) := by decide +kernel
theorem dX4_value_17 : decode cX4_value 17 = .ok (.istore_n 1, 1) := by decide +kernel
theorem dX4_value_18 : decode cX4_value 18 = .ok (.aload_n 0, 1) := by decide +kernel
theorem dX4_value_19 : decode cX4_value 19 = .ok (.getfield 31, 3) := by decide +kernel
theorem dX4_value_22 : decode cX4_value 22 = .ok (.istore_n 2, 1) := by decide +kernel
theorem dX4_value_23 : decode cX4_value 23 = .ok (.iload_n 2, 1) := by decide +kernel
theorem dX4_value_24 : decode cX4_value 24 = .ok (.aload_n 0, 1) := by decide +kernel
theorem dX4_value_25 : decode cX4_value 25 = .ok (.getfield 25, 3) := by decide +kernel
theorem dX4_value_28 : decode cX4_value 28 = .ok (.if_icmp .ge 23, 3) := by decide +kernel
theorem dX4_value_31 : decode cX4_value 31 = .ok (.bipush 10, 2) := by decide +kernel
theorem dX4_value_33 : decode cX4_value 33 = .ok (.iload_n 1, 1) := by decide +kernel
theorem dX4_value_34 : decode cX4_value 34 = .ok (.imul, 1) := by decide +kernel
theorem dX4_value_35 : decode cX4_value 35 = .ok (.aload_n 0, 1) := by decide +kernel
theorem dX4_value_36 : decode cX4_value 36 = .ok (.iload_n 2, 1) := by decide +kernel
theorem dX4_value_37 : decode cX4_value 37 = .ok (.invokevirtual 34, 3) := by decide +kernel
theorem dX4_value_40 : decode cX4_value 40 = .ok (.iadd, 1) := by decide +kernel
theorem dX4_value_41 : decode cX4_value 41 = .ok (.bipush 48, 2) := by decide +kernel
theorem dX4_value_43 : decode cX4_value 43 = .ok (.isub, 1) := by decide +kernel
theorem dX4_value_44 : decode cX4_value 44 = .ok (.istore_n 1, 1) := by decide +kernel
theorem dX4_value_45 : decode cX4_value 45 = .ok (.iinc 2 1, 3) := by decide +kernel
theorem dX4_value_48 : decode cX4_value 48 = .ok (.goto (-25), 3) := by decide +kernel
theorem dX4_value_51 : decode cX4_value 51 = .ok (.iload_n 1, 1) := by decide +kernel
theorem dX4_value_52 : decode cX4_value 52 = .ok (.ireturn, 1) := by decide +kernel
theorem dX5_begin_0 : decode cX5_begin 0 = .ok (.aload_n 0, 1) := by decide +kernel
theorem dX5_begin_1 : decode cX5_begin 1 = .ok (.bipush 20, 2) := by decide +kernel
theorem dX5_begin_3 : decode cX5_begin 3 = .ok (.putfield 35, 3) := by decide +kernel
theorem dX5_begin_6 : decode cX5_begin 6 = .ok (.aload_n 0, 1) := by decide +kernel
theorem dX5_begin_7 : decode cX5_begin 7 = .ok (.iconst 1, 1) := by decide +kernel
theorem dX5_begin_8 : decode cX5_begin 8 = .ok (.putfield 39, 3) := by decide +kernel
theorem dX5_begin_11 : decode cX5_begin 11 = .ok (.aload_n 0, 1) := by decide +kernel
theorem dX5_begin_12 : decode cX5_begin 12 = .ok (.iconst 5, 1) := by decide +kernel
theorem dX5_begin_13 : decode cX5_begin 13 = .ok (.putfield 42, 3) := by decide +kernel
theorem dX5_begin_16 : decode cX5_begin 16 = .ok (.aload_n 0, 1) := by decide +kernel
theorem dX5_begin_17 : decode cX5_begin 17 = .ok (.bipush 15, 2) := by decide +kernel
theorem dX5_begin_19 : decode cX5_begin 19 = .ok (.putfield 45, 3) := by decide +kernel
theorem dX5_begin_22 : decode cX5_begin 22 = .ok (.aload_n 0, 1) := by decide +kernel
theorem dX5_begin_23 : decode cX5_begin 23 = .ok (.sipush 6554, 3) := by decide +kernel
theorem dX5_begin_26 : decode cX5_begin 26 = .ok (.putfield 48, 3) := by decide +kernel
theorem dX5_begin_29 : decode cX5_begin 29 = .ok (.aload_n 0, 1) := by decide +kernel
theorem dX5_begin_30 : decode cX5_begin 30 = .ok (.iconst 4, 1) := by decide +kernel
theorem dX5_begin_31 : decode cX5_begin 31 = .ok (.putfield 51, 3) := by decide +kernel
theorem dX5_begin_34 : decode cX5_begin 34 = .ok (.aload_n 0, 1) := by decide +kernel
theorem dX5_begin_35 : decode cX5_begin 35 = .ok (.iconst 0, 1) := by decide +kernel
theorem dX5_begin_36 : decode cX5_begin 36 = .ok (.putfield 54, 3) := by decide +kernel
theorem dX5_begin_39 : decode cX5_begin 39 = .ok (.aload_n 0, 1) := by decide +kernel
theorem dX5_begin_40 : decode cX5_begin 40 = .ok (.iconst 0, 1) := by decide +kernel
theorem dX5_begin_41 : decode cX5_begin 41 = .ok (.putfield 57, 3) := by decide +kernel
theorem dX5_begin_44 : decode cX5_begin 44 = .ok (.aload_n 0, 1) := by decide +kernel
theorem dX5_begin_45 : decode cX5_begin 45 = .ok (.iconst 0, 1) := by decide +kernel
theorem dX5_begin_46 : decode cX5_begin 46 = .ok (.putfield 60, 3) := by decide +kernel
theorem dX5_begin_49 : decode cX5_begin 49 = .ok (.aload_n 0, 1) := by decide +kernel
theorem dX5_begin_50 : decode cX5_begin 50 = .ok (.iconst (-1), 1) := by decide +kernel
theorem dX5_begin_51 : decode cX5_begin 51 = .ok (.putfield 63, 3) := by decide +kernel
theorem dX5_begin_54 : decode cX5_begin 54 = .ok (.aload_n 0, 1) := by decide +kernel
theorem dX5_begin_55 : decode cX5_begin 55 = .ok (.iconst 1, 1) := by decide +kernel
theorem dX5_begin_56 : decode cX5_begin 56 = .ok (.putfield 66, 3) := by decide +kernel
theorem dX5_begin_59 : decode cX5_begin 59 = .ok (.aload_n 0, 1) := by decide +kernel
theorem dX5_begin_60 : decode cX5_begin 60 = .ok (.iconst 1, 1) := by decide +kernel
theorem dX5_begin_61 : decode cX5_begin 61 = .ok (.putfield 69, 3) := by decide +kernel
theorem dX5_begin_64 : decode cX5_begin 64 = .ok (.aload_n 0, 1) := by decide +kernel
theorem dX5_begin_65 : decode cX5_begin 65 = .ok (.iconst 0, 1) := by decide +kernel
theorem dX5_begin_66 : decode cX5_begin 66 = .ok (.putfield 73, 3) := by decide +kernel
theorem dX5_begin_69 : decode cX5_begin 69 = .ok (.aload_n 0, 1) := by decide +kernel
theorem dX5_begin_70 : decode cX5_begin 70 = .ok (.getfield 20, 3) := by decide +kernel
theorem dX5_begin_73 : decode cX5_begin 73 = .ok (.iconst 0, 1) := by decide +kernel
theorem dX5_begin_74 : decode cX5_begin 74 = .ok (.putfield 76, 3) := by decide +kernel
theorem dX5_begin_77 : decode cX5_begin 77 = .ok (.aload_n 0, 1) := by decide +kernel
theorem dX5_begin_78 : decode cX5_begin 78 = .ok (.getfield 27, 3) := by decide +kernel
theorem dX5_begin_81 : decode cX5_begin 81 = .ok (.invokevirtual 79, 3) := by decide +kernel
theorem dX5_begin_84 : decode cX5_begin 84 = .ok (.return_, 1) := by decide +kernel
theorem dX5_hasFlow_0 : decode cX5_hasFlow 0 = .ok (.iload_n 1, 1) := by decide +kernel
theorem dX5_hasFlow_1 : decode cX5_hasFlow 1 = .ok (.ifCond .lt 21, 3) := by decide +kernel
theorem dX5_hasFlow_4 : decode cX5_hasFlow 4 = .ok (.iload_n 1, 1) := by decide +kernel
theorem dX5_hasFlow_5 : decode cX5_hasFlow 5 = .ok (.aload_n 0, 1) := by decide +kernel
theorem dX5_hasFlow_6 : decode cX5_hasFlow 6 = .ok (.getfield 73, 3) := by decide +kernel
theorem dX5_hasFlow_9 : decode cX5_hasFlow 9 = .ok (.if_icmp .ge 13, 3) := by decide +kernel
theorem dX5_hasFlow_12 : decode cX5_hasFlow 12 = .ok (.iload_n 1, 1) := by decide +kernel
theorem dX5_hasFlow_13 : decode cX5_hasFlow 13 = .ok (.bipush 6, 2) := by decide +kernel
theorem dX5_hasFlow_15 : decode cX5_hasFlow 15 = .ok (.if_icmp .ge 7, 3) := by decide +kernel
theorem dX5_hasFlow_18 : decode cX5_hasFlow 18 = .ok (.iconst 1, 1) := by decide +kernel
theorem dX5_hasFlow_19 : decode cX5_hasFlow 19 = .ok (.goto 4, 3) := by decide +kernel
theorem dX5_hasFlow_22 : decode cX5_hasFlow 22 = .ok (.iconst 0, 1) := by decide +kernel
theorem dX5_hasFlow_23 : decode cX5_hasFlow 23 = .ok (.ireturn, 1) := by decide +kernel
theorem dX5_flowsOn_0 : decode cX5_flowsOn 0 = .ok (.iconst 0, 1) := by decide +kernel
theorem dX5_flowsOn_1 : decode cX5_flowsOn 1 = .ok (.istore_n 1, 1) := by decide +kernel
theorem dX5_flowsOn_2 : decode cX5_flowsOn 2 = .ok (.iconst 0, 1) := by decide +kernel
theorem dX5_flowsOn_3 : decode cX5_flowsOn 3 = .ok (.istore_n 2, 1) := by decide +kernel
theorem dX5_flowsOn_4 : decode cX5_flowsOn 4 = .ok (.iload_n 2, 1) := by decide +kernel
theorem dX5_flowsOn_5 : decode cX5_flowsOn 5 = .ok (.aload_n 0, 1) := by decide +kernel
theorem dX5_flowsOn_6 : decode cX5_flowsOn 6 = .ok (.getfield 73, 3) := by decide +kernel
theorem dX5_flowsOn_9 : decode cX5_flowsOn 9 = .ok (.if_icmp .ge 30, 3) := by decide +kernel
theorem dX5_flowsOn_12 : decode cX5_flowsOn 12 = .ok (.iload_n 2, 1) := by decide +kernel
theorem dX5_flowsOn_13 : decode cX5_flowsOn 13 = .ok (.bipush 6, 2) := by decide +kernel
theorem dX5_flowsOn_15 : decode cX5_flowsOn 15 = .ok (.if_icmp .ge 24, 3) := by decide +kernel
theorem dX5_flowsOn_18 : decode cX5_flowsOn 18 = .ok (.aload_n 0, 1) := by decide +kernel
theorem dX5_flowsOn_19 : decode cX5_flowsOn 19 = .ok (.getfield 11, 3) := by decide +kernel
theorem dX5_flowsOn_22 : decode cX5_flowsOn 22 = .ok (.iload_n 2, 1) := by decide +kernel
theorem dX5_flowsOn_23 : decode cX5_flowsOn 23 = .ok (.aaload, 1) := by decide +kernel
theorem dX5_flowsOn_24 : decode cX5_flowsOn 24 = .ok (.getfield 92, 3) := by decide +kernel
theorem dX5_flowsOn_27 : decode cX5_flowsOn 27 = .ok (.ifCond .eq 6, 3) := by decide +kernel
theorem dX5_flowsOn_30 : decode cX5_flowsOn 30 = .ok (.iinc 1 1, 3) := by decide +kernel
theorem dX5_flowsOn_33 : decode cX5_flowsOn 33 = .ok (.iinc 2 1, 3) := by decide +kernel
theorem dX5_flowsOn_36 : decode cX5_flowsOn 36 = .ok (.goto (-32), 3) := by decide +kernel
theorem dX5_flowsOn_39 : decode cX5_flowsOn 39 = .ok (.iload_n 1, 1) := by decide +kernel
theorem dX5_flowsOn_40 : decode cX5_flowsOn 40 = .ok (.ireturn, 1) := by decide +kernel
theorem dX5_total_0 : decode cX5_total 0 = .ok (.iload_n 2, 1) := by decide +kernel
theorem dX5_total_1 : decode cX5_total 1 = .ok (.ifCond .lt 9, 3) := by decide +kernel
theorem dX5_total_4 : decode cX5_total 4 = .ok (.iload_n 2, 1) := by decide +kernel
theorem dX5_total_5 : decode cX5_total 5 = .ok (.bipush 8, 2) := by decide +kernel
theorem dX5_total_7 : decode cX5_total 7 = .ok (.if_icmp .lt 5, 3) := by decide +kernel
theorem dX5_total_10 : decode cX5_total 10 = .ok (.lconst 0, 1) := by decide +kernel
theorem dX5_total_11 : decode cX5_total 11 = .ok (.lreturn, 1) := by decide +kernel
theorem dX5_total_12 : decode cX5_total 12 = .ok (.aload_n 0, 1) := by decide +kernel
theorem dX5_total_13 : decode cX5_total 13 = .ok (.iload_n 1, 1) := by decide +kernel
theorem dX5_total_14 : decode cX5_total 14 = .ok (.invokevirtual 95, 3) := by decide +kernel
theorem dX5_total_17 : decode cX5_total 17 = .ok (.ifCond .eq 15, 3) := by decide +kernel
theorem dX5_total_20 : decode cX5_total 20 = .ok (.aload_n 0, 1) := by decide +kernel
theorem dX5_total_21 : decode cX5_total 21 = .ok (.getfield 11, 3) := by decide +kernel
theorem dX5_total_24 : decode cX5_total 24 = .ok (.iload_n 1, 1) := by decide +kernel
theorem dX5_total_25 : decode cX5_total 25 = .ok (.aaload, 1) := by decide +kernel
theorem dX5_total_26 : decode cX5_total 26 = .ok (.getfield 99, 3) := by decide +kernel
theorem dX5_total_29 : decode cX5_total 29 = .ok (.iload_n 2, 1) := by decide +kernel
theorem dX5_total_30 : decode cX5_total 30 = .ok (.laload, 1) := by decide +kernel
theorem dX5_total_31 : decode cX5_total 31 = .ok (.lreturn, 1) := by decide +kernel
theorem dX5_total_32 : decode cX5_total 32 = .ok (.lconst 0, 1) := by decide +kernel
theorem dX5_total_33 : decode cX5_total 33 = .ok (.lstore_n 3, 1) := by decide +kernel
theorem dX5_total_34 : decode cX5_total 34 = .ok (.iconst 0, 1) := by decide +kernel
theorem dX5_total_35 : decode cX5_total 35 = .ok (.istore 5, 2) := by decide +kernel
theorem dX5_total_37 : decode cX5_total 37 = .ok (.iload 5, 2) := by decide +kernel
theorem dX5_total_39 : decode cX5_total 39 = .ok (.aload_n 0, 1) := by decide +kernel
theorem dX5_total_40 : decode cX5_total 40 = .ok (.getfield 73, 3) := by decide +kernel
theorem dX5_total_43 : decode cX5_total 43 = .ok (.if_icmp .ge 31, 3) := by decide +kernel
theorem dX5_total_46 : decode cX5_total 46 = .ok (.iload 5, 2) := by decide +kernel
theorem dX5_total_48 : decode cX5_total 48 = .ok (.bipush 6, 2) := by decide +kernel
theorem dX5_total_50 : decode cX5_total 50 = .ok (.if_icmp .ge 24, 3) := by decide +kernel
theorem dX5_total_53 : decode cX5_total 53 = .ok (.lload_n 3, 1) := by decide +kernel
theorem dX5_total_54 : decode cX5_total 54 = .ok (.aload_n 0, 1) := by decide +kernel
theorem dX5_total_55 : decode cX5_total 55 = .ok (.getfield 11, 3) := by decide +kernel
theorem dX5_total_58 : decode cX5_total 58 = .ok (.iload 5, 2) := by decide +kernel
theorem dX5_total_60 : decode cX5_total 60 = .ok (.aaload, 1) := by decide +kernel
theorem dX5_total_61 : decode cX5_total 61 = .ok (.getfield 99, 3) := by decide +kernel
theorem dX5_total_64 : decode cX5_total 64 = .ok (.iload_n 2, 1) := by decide +kernel
theorem dX5_total_65 : decode cX5_total 65 = .ok (.laload, 1) := by decide +kernel
theorem dX5_total_66 : decode cX5_total 66 = .ok (.ladd, 1) := by decide +kernel
theorem dX5_total_67 : decode cX5_total 67 = .ok (.lstore_n 3, 1) := by decide +kernel
theorem dX5_total_68 : decode cX5_total 68 = .ok (.iinc 5 1, 3) := by decide +kernel
theorem dX5_total_71 : decode cX5_total 71 = .ok (.goto (-34), 3) := by decide +kernel
theorem dX5_total_74 : decode cX5_total 74 = .ok (.lload_n 3, 1) := by decide +kernel
theorem dX5_total_75 : decode cX5_total 75 = .ok (.lreturn, 1) := by decide +kernel
theorem dX5_dropped_0 : decode cX5_dropped 0 = .ok (.lconst 0, 1) := by decide +kernel
theorem dX5_dropped_1 : decode cX5_dropped 1 = .ok (.lstore_n 1, 1) := by decide +kernel
theorem dX5_dropped_2 : decode cX5_dropped 2 = .ok (.iconst 0, 1) := by decide +kernel
theorem dX5_dropped_3 : decode cX5_dropped 3 = .ok (.istore_n 3, 1) := by decide +kernel
theorem dX5_dropped_4 : decode cX5_dropped 4 = .ok (.iload_n 3, 1) := by decide +kernel
theorem dX5_dropped_5 : decode cX5_dropped 5 = .ok (.aload_n 0, 1) := by decide +kernel
theorem dX5_dropped_6 : decode cX5_dropped 6 = .ok (.getfield 73, 3) := by decide +kernel
theorem dX5_dropped_9 : decode cX5_dropped 9 = .ok (.if_icmp .ge 27, 3) := by decide +kernel
theorem dX5_dropped_12 : decode cX5_dropped 12 = .ok (.iload_n 3, 1) := by decide +kernel
theorem dX5_dropped_13 : decode cX5_dropped 13 = .ok (.bipush 6, 2) := by decide +kernel
theorem dX5_dropped_15 : decode cX5_dropped 15 = .ok (.if_icmp .ge 21, 3) := by decide +kernel
theorem dX5_dropped_18 : decode cX5_dropped 18 = .ok (.lload_n 1, 1) := by decide +kernel
theorem dX5_dropped_19 : decode cX5_dropped 19 = .ok (.aload_n 0, 1) := by decide +kernel
theorem dX5_dropped_20 : decode cX5_dropped 20 = .ok (.getfield 11, 3) := by decide +kernel
theorem dX5_dropped_23 : decode cX5_dropped 23 = .ok (.iload_n 3, 1) := by decide +kernel
theorem dX5_dropped_24 : decode cX5_dropped 24 = .ok (.aaload, 1) := by decide +kernel
theorem dX5_dropped_25 : decode cX5_dropped 25 = .ok (.invokevirtual 103, 3) := by decide +kernel
theorem dX5_dropped_28 : decode cX5_dropped 28 = .ok (.ladd, 1) := by decide +kernel
theorem dX5_dropped_29 : decode cX5_dropped 29 = .ok (.lstore_n 1, 1) := by decide +kernel
theorem dX5_dropped_30 : decode cX5_dropped 30 = .ok (.iinc 3 1, 3) := by decide +kernel
theorem dX5_dropped_33 : decode cX5_dropped 33 = .ok (.goto (-29), 3) := by decide +kernel
theorem dX5_dropped_36 : decode cX5_dropped 36 = .ok (.lload_n 1, 1) := by decide +kernel
theorem dX5_dropped_37 : decode cX5_dropped 37 = .ok (.lreturn, 1) := by decide +kernel
theorem dX5_wayAt_0 : decode cX5_wayAt 0 = .ok (.iload_n 1, 1) := by decide +kernel
theorem dX5_wayAt_1 : decode cX5_wayAt 1 = .ok (.aload_n 0, 1) := by decide +kernel
theorem dX5_wayAt_2 : decode cX5_wayAt 2 = .ok (.getfield 35, 3) := by decide +kernel
theorem dX5_wayAt_5 : decode cX5_wayAt 5 = .ok (.if_icmp .lt 5, 3) := by decide +kernel
theorem dX5_wayAt_8 : decode cX5_wayAt 8 = .ok (.iconst 0, 1) := by decide +kernel
theorem dX5_wayAt_9 : decode cX5_wayAt 9 = .ok (.ireturn, 1) := by decide +kernel
theorem dX5_wayAt_10 : decode cX5_wayAt 10 = .ok (.iload_n 2, 1) := by decide +kernel
theorem dX5_wayAt_11 : decode cX5_wayAt 11 = .ok (.sipush 1024, 3) := by decide +kernel
theorem dX5_wayAt_14 : decode cX5_wayAt 14 = .ok (.aload_n 0, 1) := by decide +kernel
theorem dX5_wayAt_15 : decode cX5_wayAt 15 = .ok (.getfield 42, 3) := by decide +kernel
theorem dX5_wayAt_18 : decode cX5_wayAt 18 = .ok (.imul, 1) := by decide +kernel
theorem dX5_wayAt_19 : decode cX5_wayAt 19 = .ok (.if_icmp .ge 5, 3) := by decide +kernel
theorem dX5_wayAt_22 : decode cX5_wayAt 22 = .ok (.iconst 1, 1) := by decide +kernel
theorem dX5_wayAt_23 : decode cX5_wayAt 23 = .ok (.ireturn, 1) := by decide +kernel
theorem dX5_wayAt_24 : decode cX5_wayAt 24 = .ok (.iload_n 2, 1) := by decide +kernel
theorem dX5_wayAt_25 : decode cX5_wayAt 25 = .ok (.sipush 1024, 3) := by decide +kernel
theorem dX5_wayAt_28 : decode cX5_wayAt 28 = .ok (.aload_n 0, 1) := by decide +kernel
theorem dX5_wayAt_29 : decode cX5_wayAt 29 = .ok (.getfield 45, 3) := by decide +kernel
theorem dX5_wayAt_32 : decode cX5_wayAt 32 = .ok (.imul, 1) := by decide +kernel
theorem dX5_wayAt_33 : decode cX5_wayAt 33 = .ok (.aload_n 0, 1) := by decide +kernel
theorem dX5_wayAt_34 : decode cX5_wayAt 34 = .ok (.getfield 54, 3) := by decide +kernel
theorem dX5_wayAt_37 : decode cX5_wayAt 37 = .ok (.iconst 1, 1) := by decide +kernel
theorem dX5_wayAt_38 : decode cX5_wayAt 38 = .ok (.iadd, 1) := by decide +kernel
theorem dX5_wayAt_39 : decode cX5_wayAt 39 = .ok (.imul, 1) := by decide +kernel
theorem dX5_wayAt_40 : decode cX5_wayAt 40 = .ok (.if_icmp .lt 7, 3) := by decide +kernel
theorem dX5_wayAt_43 : decode cX5_wayAt 43 = .ok (.iconst 2, 1) := by decide +kernel
theorem dX5_wayAt_44 : decode cX5_wayAt 44 = .ok (.goto 4, 3) := by decide +kernel
theorem dX5_wayAt_47 : decode cX5_wayAt 47 = .ok (.iconst 3, 1) := by decide +kernel
theorem dX5_wayAt_48 : decode cX5_wayAt 48 = .ok (.ireturn, 1) := by decide +kernel
theorem dX5_draw_0 : decode cX5_draw 0 = .ok (.aload_n 0, 1) := by decide +kernel
theorem dX5_draw_1 : decode cX5_draw 1 = .ok (.aload_n 0, 1) := by decide +kernel
theorem dX5_draw_2 : decode cX5_draw 2 = .ok (.getfield 66, 3) := by decide +kernel
theorem dX5_draw_5 : decode cX5_draw 5 = .ok (.ldc 112, 2) := by decide +kernel
theorem dX5_draw_7 : decode cX5_draw 7 = .ok (.imul, 1) := by decide +kernel
theorem dX5_draw_8 : decode cX5_draw 8 = .ok (.sipush 12345, 3) := by decide +kernel
theorem dX5_draw_11 : decode cX5_draw 11 = .ok (.iadd, 1) := by decide +kernel
theorem dX5_draw_12 : decode cX5_draw 12 = .ok (.putfield 66, 3) := by decide +kernel
theorem dX5_draw_15 : decode cX5_draw 15 = .ok (.aload_n 0, 1) := by decide +kernel
theorem dX5_draw_16 : decode cX5_draw 16 = .ok (.getfield 66, 3) := by decide +kernel
theorem dX5_draw_19 : decode cX5_draw 19 = .ok (.bipush 15, 2) := by decide +kernel
theorem dX5_draw_21 : decode cX5_draw 21 = .ok (.iushr, 1) := by decide +kernel
theorem dX5_draw_22 : decode cX5_draw 22 = .ok (.ldc 109, 2) := by decide +kernel
theorem dX5_draw_24 : decode cX5_draw 24 = .ok (.irem, 1) := by decide +kernel
theorem dX5_draw_25 : decode cX5_draw 25 = .ok (.ireturn, 1) := by decide +kernel
theorem dX5_outcomeOf_0 : decode cX5_outcomeOf 0 = .ok (.iload_n 1, 1) := by decide +kernel
theorem dX5_outcomeOf_1 : decode cX5_outcomeOf 1 = .ok (.iconst 1, 1) := by decide +kernel
theorem dX5_outcomeOf_2 : decode cX5_outcomeOf 2 = .ok (.if_icmp .eq 14, 3) := by decide +kernel
theorem dX5_outcomeOf_5 : decode cX5_outcomeOf 5 = .ok (.iload_n 1, 1) := by decide +kernel
theorem dX5_outcomeOf_6 : decode cX5_outcomeOf 6 = .ok (.iconst 3, 1) := by decide +kernel
theorem dX5_outcomeOf_7 : decode cX5_outcomeOf 7 = .ok (.if_icmp .ne 11, 3) := by decide +kernel
theorem dX5_outcomeOf_10 : decode cX5_outcomeOf 10 = .ok (.iload_n 3, 1) := by decide +kernel
theorem dX5_outcomeOf_11 : decode cX5_outcomeOf 11 = .ok (.iload 4, 2) := by decide +kernel
theorem dX5_outcomeOf_13 : decode cX5_outcomeOf 13 = .ok (.if_icmp .lt 5, 3) := by decide +kernel
theorem dX5_outcomeOf_16 : decode cX5_outcomeOf 16 = .ok (.iconst 0, 1) := by decide +kernel
theorem dX5_outcomeOf_17 : decode cX5_outcomeOf 17 = .ok (.ireturn, 1) := by decide +kernel
theorem dX5_outcomeOf_18 : decode cX5_outcomeOf 18 = .ok (.iload_n 1, 1) := by decide +kernel
theorem dX5_outcomeOf_19 : decode cX5_outcomeOf 19 = .ok (.iconst 3, 1) := by decide +kernel
theorem dX5_outcomeOf_20 : decode cX5_outcomeOf 20 = .ok (.if_icmp .ne 19, 3) := by decide +kernel
theorem dX5_outcomeOf_23 : decode cX5_outcomeOf 23 = .ok (.aload_n 0, 1) := by decide +kernel
theorem dX5_outcomeOf_24 : decode cX5_outcomeOf 24 = .ok (.getfield 11, 3) := by decide +kernel
theorem dX5_outcomeOf_27 : decode cX5_outcomeOf 27 = .ok (.iload_n 2, 1) := by decide +kernel
theorem dX5_outcomeOf_28 : decode cX5_outcomeOf 28 = .ok (.aaload, 1) := by decide +kernel
theorem dX5_outcomeOf_29 : decode cX5_outcomeOf 29 = .ok (.getfield 113, 3) := by decide +kernel
theorem dX5_outcomeOf_32 : decode cX5_outcomeOf 32 = .ok (.ifCond .eq 7, 3) := by decide +kernel
theorem dX5_outcomeOf_35 : decode cX5_outcomeOf 35 = .ok (.iconst 1, 1) := by decide +kernel
theorem dX5_outcomeOf_36 : decode cX5_outcomeOf 36 = .ok (.goto 4, 3) := by decide +kernel
theorem dX5_outcomeOf_39 : decode cX5_outcomeOf 39 = .ok (.iconst 2, 1) := by decide +kernel
theorem dX5_outcomeOf_40 : decode cX5_outcomeOf 40 = .ok (.ireturn, 1) := by decide +kernel
theorem dX5_changeLimits_0 : decode cX5_changeLimits 0 = .ok (.bipush 100, 2) := by decide +kernel
theorem dX5_changeLimits_2 : decode cX5_changeLimits 2 = .ok (.aload_n 0, 1) := by decide +kernel
theorem dX5_changeLimits_3 : decode cX5_changeLimits 3 = .ok (.getfield 42, 3) := by decide +kernel
theorem dX5_changeLimits_6 : decode cX5_changeLimits 6 = .ok (.imul, 1) := by decide +kernel
theorem dX5_changeLimits_7 : decode cX5_changeLimits 7 = .ok (.aload_n 0, 1) := by decide +kernel
theorem dX5_changeLimits_8 : decode cX5_changeLimits 8 = .ok (.getfield 45, 3) := by decide +kernel
theorem dX5_changeLimits_11 : decode cX5_changeLimits 11 = .ok (.iadd, 1) := by decide +kernel
theorem dX5_changeLimits_12 : decode cX5_changeLimits 12 = .ok (.istore_n 3, 1) := by decide +kernel
theorem dX5_changeLimits_13 : decode cX5_changeLimits 13 = .ok (.aload_n 0, 1) := by decide +kernel
theorem dX5_changeLimits_14 : decode cX5_changeLimits 14 = .ok (.iload_n 1, 1) := by decide +kernel
theorem dX5_changeLimits_15 : decode cX5_changeLimits 15 = .ok (.putfield 42, 3) := by decide +kernel
theorem dX5_changeLimits_18 : decode cX5_changeLimits 18 = .ok (.aload_n 0, 1) := by decide +kernel
theorem dX5_changeLimits_19 : decode cX5_changeLimits 19 = .ok (.iload_n 2, 1) := by decide +kernel
theorem dX5_changeLimits_20 : decode cX5_changeLimits 20 = .ok (.putfield 45, 3) := by decide +kernel
theorem dX5_changeLimits_23 : decode cX5_changeLimits 23 = .ok (.iload_n 3, 1) := by decide +kernel
theorem dX5_changeLimits_24 : decode cX5_changeLimits 24 = .ok (.ireturn, 1) := by decide +kernel
theorem dX5_changeTop_0 : decode cX5_changeTop 0 = .ok (.aload_n 0, 1) := by decide +kernel
theorem dX5_changeTop_1 : decode cX5_changeTop 1 = .ok (.getfield 48, 3) := by decide +kernel
theorem dX5_changeTop_4 : decode cX5_changeTop 4 = .ok (.istore_n 2, 1) := by decide +kernel
theorem dX5_changeTop_5 : decode cX5_changeTop 5 = .ok (.aload_n 0, 1) := by decide +kernel
theorem dX5_changeTop_6 : decode cX5_changeTop 6 = .ok (.iload_n 1, 1) := by decide +kernel
theorem dX5_changeTop_7 : decode cX5_changeTop 7 = .ok (.putfield 48, 3) := by decide +kernel
theorem dX5_changeTop_10 : decode cX5_changeTop 10 = .ok (.iload_n 2, 1) := by decide +kernel
theorem dX5_changeTop_11 : decode cX5_changeTop 11 = .ok (.ireturn, 1) := by decide +kernel
theorem dX5_changeWeight_0 : decode cX5_changeWeight 0 = .ok (.aload_n 0, 1) := by decide +kernel
theorem dX5_changeWeight_1 : decode cX5_changeWeight 1 = .ok (.getfield 51, 3) := by decide +kernel
theorem dX5_changeWeight_4 : decode cX5_changeWeight 4 = .ok (.istore_n 2, 1) := by decide +kernel
theorem dX5_changeWeight_5 : decode cX5_changeWeight 5 = .ok (.aload_n 0, 1) := by decide +kernel
theorem dX5_changeWeight_6 : decode cX5_changeWeight 6 = .ok (.iload_n 1, 1) := by decide +kernel
theorem dX5_changeWeight_7 : decode cX5_changeWeight 7 = .ok (.putfield 51, 3) := by decide +kernel
theorem dX5_changeWeight_10 : decode cX5_changeWeight 10 = .ok (.iload_n 2, 1) := by decide +kernel
theorem dX5_changeWeight_11 : decode cX5_changeWeight 11 = .ok (.ireturn, 1) := by decide +kernel
theorem dX5_changeGentle_0 : decode cX5_changeGentle 0 = .ok (.aload_n 0, 1) := by decide +kernel
theorem dX5_changeGentle_1 : decode cX5_changeGentle 1 = .ok (.getfield 54, 3) := by decide +kernel
theorem dX5_changeGentle_4 : decode cX5_changeGentle 4 = .ok (.istore_n 2, 1) := by decide +kernel
theorem dX5_changeGentle_5 : decode cX5_changeGentle 5 = .ok (.aload_n 0, 1) := by decide +kernel
theorem dX5_changeGentle_6 : decode cX5_changeGentle 6 = .ok (.iload_n 1, 1) := by decide +kernel
theorem dX5_changeGentle_7 : decode cX5_changeGentle 7 = .ok (.putfield 54, 3) := by decide +kernel
theorem dX5_changeGentle_10 : decode cX5_changeGentle 10 = .ok (.iload_n 2, 1) := by decide +kernel
theorem dX5_changeGentle_11 : decode cX5_changeGentle 11 = .ok (.ireturn, 1) := by decide +kernel
theorem dX5_changeOn_0 : decode cX5_changeOn 0 = .ok (.aload_n 0, 1) := by decide +kernel
theorem dX5_changeOn_1 : decode cX5_changeOn 1 = .ok (.iload_n 1, 1) := by decide +kernel
theorem dX5_changeOn_2 : decode cX5_changeOn 2 = .ok (.invokevirtual 95, 3) := by decide +kernel
theorem dX5_changeOn_5 : decode cX5_changeOn 5 = .ok (.ifCond .eq 16, 3) := by decide +kernel
theorem dX5_changeOn_8 : decode cX5_changeOn 8 = .ok (.aload_n 0, 1) := by decide +kernel
theorem dX5_changeOn_9 : decode cX5_changeOn 9 = .ok (.getfield 11, 3) := by decide +kernel
theorem dX5_changeOn_12 : decode cX5_changeOn 12 = .ok (.iload_n 1, 1) := by decide +kernel
theorem dX5_changeOn_13 : decode cX5_changeOn 13 = .ok (.aaload, 1) := by decide +kernel
theorem dX5_changeOn_14 : decode cX5_changeOn 14 = .ok (.getfield 92, 3) := by decide +kernel
theorem dX5_changeOn_17 : decode cX5_changeOn 17 = .ok (.iload_n 2, 1) := by decide +kernel
theorem dX5_changeOn_18 : decode cX5_changeOn 18 = .ok (.if_icmp .ne 6, 3) := by decide +kernel
theorem dX5_changeOn_21 : decode cX5_changeOn 21 = .ok (.bipush (-3), 2) := by decide +kernel
theorem dX5_changeOn_23 : decode cX5_changeOn 23 = .ok (.ireturn, 1) := by decide +kernel
theorem dX5_changeOn_24 : decode cX5_changeOn 24 = .ok (.aload_n 0, 1) := by decide +kernel
theorem dX5_changeOn_25 : decode cX5_changeOn 25 = .ok (.getfield 11, 3) := by decide +kernel
theorem dX5_changeOn_28 : decode cX5_changeOn 28 = .ok (.iload_n 1, 1) := by decide +kernel
theorem dX5_changeOn_29 : decode cX5_changeOn 29 = .ok (.aaload, 1) := by decide +kernel
theorem dX5_changeOn_30 : decode cX5_changeOn 30 = .ok (.iload_n 2, 1) := by decide +kernel
theorem dX5_changeOn_31 : decode cX5_changeOn 31 = .ok (.putfield 92, 3) := by decide +kernel
theorem dX5_changeOn_34 : decode cX5_changeOn 34 = .ok (.aload_n 0, 1) := by decide +kernel
theorem dX5_changeOn_35 : decode cX5_changeOn 35 = .ok (.invokevirtual 186, 3) := by decide +kernel
theorem dX5_changeOn_38 : decode cX5_changeOn 38 = .ok (.ireturn, 1) := by decide +kernel
theorem dX6_addRow_0 : decode cX6_addRow 0 = .ok (.aload_n 0, 1) := by decide +kernel
theorem dX6_addRow_1 : decode cX6_addRow 1 = .ok (.getfield 35, 3) := by decide +kernel
theorem dX6_addRow_4 : decode cX6_addRow 4 = .ok (.ifCond .lt 15, 3) := by decide +kernel
theorem dX6_addRow_7 : decode cX6_addRow 7 = .ok (.aload_n 0, 1) := by decide +kernel
theorem dX6_addRow_8 : decode cX6_addRow 8 = .ok (.getfield 35, 3) := by decide +kernel
theorem dX6_addRow_11 : decode cX6_addRow 11 = .ok (.aload_n 0, 1) := by decide +kernel
theorem dX6_addRow_12 : decode cX6_addRow 12 = .ok (.getfield 11, 3) := by decide +kernel
theorem dX6_addRow_15 : decode cX6_addRow 15 = .ok (.arraylength, 1) := by decide +kernel
theorem dX6_addRow_16 : decode cX6_addRow 16 = .ok (.if_icmp .lt 4, 3) := by decide +kernel
theorem dX6_addRow_19 : decode cX6_addRow 19 = .ok (.return_, 1) := by decide +kernel
theorem dX6_addRow_20 : decode cX6_addRow 20 = .ok (.aload_n 0, 1) := by decide +kernel
theorem dX6_addRow_21 : decode cX6_addRow 21 = .ok (.getfield 11, 3) := by decide +kernel
theorem dX6_addRow_24 : decode cX6_addRow 24 = .ok (.aload_n 0, 1) := by decide +kernel
theorem dX6_addRow_25 : decode cX6_addRow 25 = .ok (.getfield 35, 3) := by decide +kernel
theorem dX6_addRow_28 : decode cX6_addRow 28 = .ok (.iload_n 1, 1) := by decide +kernel
theorem dX6_addRow_29 : decode cX6_addRow 29 = .ok (.iastore, 1) := by decide +kernel
theorem dX6_addRow_30 : decode cX6_addRow 30 = .ok (.aload_n 0, 1) := by decide +kernel
theorem dX6_addRow_31 : decode cX6_addRow 31 = .ok (.getfield 15, 3) := by decide +kernel
theorem dX6_addRow_34 : decode cX6_addRow 34 = .ok (.aload_n 0, 1) := by decide +kernel
theorem dX6_addRow_35 : decode cX6_addRow 35 = .ok (.getfield 35, 3) := by decide +kernel
theorem dX6_addRow_38 : decode cX6_addRow 38 = .ok (.iload_n 2, 1) := by decide +kernel
theorem dX6_addRow_39 : decode cX6_addRow 39 = .ok (.iastore, 1) := by decide +kernel
theorem dX6_addRow_40 : decode cX6_addRow 40 = .ok (.aload_n 0, 1) := by decide +kernel
theorem dX6_addRow_41 : decode cX6_addRow 41 = .ok (.getfield 18, 3) := by decide +kernel
theorem dX6_addRow_44 : decode cX6_addRow 44 = .ok (.aload_n 0, 1) := by decide +kernel
theorem dX6_addRow_45 : decode cX6_addRow 45 = .ok (.getfield 35, 3) := by decide +kernel
theorem dX6_addRow_48 : decode cX6_addRow 48 = .ok (.iload_n 3, 1) := by decide +kernel
theorem dX6_addRow_49 : decode cX6_addRow 49 = .ok (.iastore, 1) := by decide +kernel
theorem dX6_addRow_50 : decode cX6_addRow 50 = .ok (.aload_n 0, 1) := by decide +kernel
theorem dX6_addRow_51 : decode cX6_addRow 51 = .ok (.dup, 1) := by decide +kernel
theorem dX6_addRow_52 : decode cX6_addRow 52 = .ok (.getfield 35, 3) := by decide +kernel
theorem dX6_addRow_55 : decode cX6_addRow 55 = .ok (.iconst 1, 1) := by decide +kernel
theorem dX6_addRow_56 : decode cX6_addRow 56 = .ok (.iadd, 1) := by decide +kernel
theorem dX6_addRow_57 : decode cX6_addRow 57 = .ok (.putfield 35, 3) := by decide +kernel
theorem dX6_addRow_60 : decode cX6_addRow 60 = .ok (.return_, 1) := by decide +kernel
theorem dX6_rowBehind_0 : decode cX6_rowBehind 0 = .ok (.aload_n 0, 1) := by decide +kernel
theorem dX6_rowBehind_1 : decode cX6_rowBehind 1 = .ok (.getfield 11, 3) := by decide +kernel
theorem dX6_rowBehind_4 : decode cX6_rowBehind 4 = .ok (.iload_n 1, 1) := by decide +kernel
theorem dX6_rowBehind_5 : decode cX6_rowBehind 5 = .ok (.iaload, 1) := by decide +kernel
theorem dX6_rowBehind_6 : decode cX6_rowBehind 6 = .ok (.bipush 8, 2) := by decide +kernel
theorem dX6_rowBehind_8 : decode cX6_rowBehind 8 = .ok (.if_icmp .ne 37, 3) := by decide +kernel
theorem dX6_rowBehind_11 : decode cX6_rowBehind 11 = .ok (.aload_n 0, 1) := by decide +kernel
theorem dX6_rowBehind_12 : decode cX6_rowBehind 12 = .ok (.getfield 21, 3) := by decide +kernel
theorem dX6_rowBehind_15 : decode cX6_rowBehind 15 = .ok (.iload_n 1, 1) := by decide +kernel
theorem dX6_rowBehind_16 : decode cX6_rowBehind 16 = .ok (.aload_n 0, 1) := by decide +kernel
theorem dX6_rowBehind_17 : decode cX6_rowBehind 17 = .ok (.getfield 15, 3) := by decide +kernel
theorem dX6_rowBehind_20 : decode cX6_rowBehind 20 = .ok (.iload_n 1, 1) := by decide +kernel
theorem dX6_rowBehind_21 : decode cX6_rowBehind 21 = .ok (.iaload, 1) := by decide +kernel
theorem dX6_rowBehind_22 : decode cX6_rowBehind 22 = .ok (.iastore, 1) := by decide +kernel
theorem dX6_rowBehind_23 : decode cX6_rowBehind 23 = .ok (.aload_n 0, 1) := by decide +kernel
theorem dX6_rowBehind_24 : decode cX6_rowBehind 24 = .ok (.getfield 21, 3) := by decide +kernel
theorem dX6_rowBehind_27 : decode cX6_rowBehind 27 = .ok (.iload_n 1, 1) := by decide +kernel
theorem dX6_rowBehind_28 : decode cX6_rowBehind 28 = .ok (.iaload, 1) := by decide +kernel
theorem dX6_rowBehind_29 : decode cX6_rowBehind 29 = .ok (.ifCond .le 9, 3) := by decide +kernel
theorem dX6_rowBehind_32 : decode cX6_rowBehind 32 = .ok (.iload_n 1, 1) := by decide +kernel
theorem dX6_rowBehind_33 : decode cX6_rowBehind 33 = .ok (.iconst 1, 1) := by decide +kernel
theorem dX6_rowBehind_34 : decode cX6_rowBehind 34 = .ok (.iadd, 1) := by decide +kernel
theorem dX6_rowBehind_35 : decode cX6_rowBehind 35 = .ok (.goto 9, 3) := by decide +kernel
theorem dX6_rowBehind_38 : decode cX6_rowBehind 38 = .ok (.aload_n 0, 1) := by decide +kernel
theorem dX6_rowBehind_39 : decode cX6_rowBehind 39 = .ok (.getfield 18, 3) := by decide +kernel
theorem dX6_rowBehind_42 : decode cX6_rowBehind 42 = .ok (.iload_n 1, 1) := by decide +kernel
theorem dX6_rowBehind_43 : decode cX6_rowBehind 43 = .ok (.iaload, 1) := by decide +kernel
theorem dX6_rowBehind_44 : decode cX6_rowBehind 44 = .ok (.ireturn, 1) := by decide +kernel
theorem dX6_rowBehind_45 : decode cX6_rowBehind 45 = .ok (.aload_n 0, 1) := by decide +kernel
theorem dX6_rowBehind_46 : decode cX6_rowBehind 46 = .ok (.getfield 15, 3) := by decide +kernel
theorem dX6_rowBehind_49 : decode cX6_rowBehind 49 = .ok (.iload_n 1, 1) := by decide +kernel
theorem dX6_rowBehind_50 : decode cX6_rowBehind 50 = .ok (.iaload, 1) := by decide +kernel
theorem dX6_rowBehind_51 : decode cX6_rowBehind 51 = .ok (.istore_n 2, 1) := by decide +kernel
theorem dX6_rowBehind_52 : decode cX6_rowBehind 52 = .ok (.iload_n 2, 1) := by decide +kernel
theorem dX6_rowBehind_53 : decode cX6_rowBehind 53 = .ok (.ifCond .lt 12, 3) := by decide +kernel
theorem dX6_rowBehind_56 : decode cX6_rowBehind 56 = .ok (.iload_n 2, 1) := by decide +kernel
theorem dX6_rowBehind_57 : decode cX6_rowBehind 57 = .ok (.aload_n 0, 1) := by decide +kernel
theorem dX6_rowBehind_58 : decode cX6_rowBehind 58 = .ok (.getfield 21, 3) := by decide +kernel
theorem dX6_rowBehind_61 : decode cX6_rowBehind 61 = .ok (.arraylength, 1) := by decide +kernel
theorem dX6_rowBehind_62 : decode cX6_rowBehind 62 = .ok (.if_icmp .lt 7, 3) := by decide +kernel
theorem dX6_rowBehind_65 : decode cX6_rowBehind 65 = .ok (.iload_n 1, 1) := by decide +kernel
theorem dX6_rowBehind_66 : decode cX6_rowBehind 66 = .ok (.iconst 1, 1) := by decide +kernel
theorem dX6_rowBehind_67 : decode cX6_rowBehind 67 = .ok (.iadd, 1) := by decide +kernel
theorem dX6_rowBehind_68 : decode cX6_rowBehind 68 = .ok (.ireturn, 1) := by decide +kernel
theorem dX6_rowBehind_69 : decode cX6_rowBehind 69 = .ok (.aload_n 0, 1) := by decide +kernel
theorem dX6_rowBehind_70 : decode cX6_rowBehind 70 = .ok (.getfield 21, 3) := by decide +kernel
theorem dX6_rowBehind_73 : decode cX6_rowBehind 73 = .ok (.iload_n 2, 1) := by decide +kernel
theorem dX6_rowBehind_74 : decode cX6_rowBehind 74 = .ok (.dup2, 1) := by decide +kernel
theorem dX6_rowBehind_75 : decode cX6_rowBehind 75 = .ok (.iaload, 1) := by decide +kernel
theorem dX6_rowBehind_76 : decode cX6_rowBehind 76 = .ok (.iconst 1, 1) := by decide +kernel
theorem dX6_rowBehind_77 : decode cX6_rowBehind 77 = .ok (.isub, 1) := by decide +kernel
theorem dX6_rowBehind_78 : decode cX6_rowBehind 78 = .ok (.iastore, 1) := by decide +kernel
theorem dX6_rowBehind_79 : decode cX6_rowBehind 79 = .ok (.aload_n 0, 1) := by decide +kernel
theorem dX6_rowBehind_80 : decode cX6_rowBehind 80 = .ok (.getfield 21, 3) := by decide +kernel
theorem dX6_rowBehind_83 : decode cX6_rowBehind 83 = .ok (.iload_n 2, 1) := by decide +kernel
theorem dX6_rowBehind_84 : decode cX6_rowBehind 84 = .ok (.iaload, 1) := by decide +kernel
theorem dX6_rowBehind_85 : decode cX6_rowBehind 85 = .ok (.ifCond .le 9, 3) := by decide +kernel
theorem dX6_rowBehind_88 : decode cX6_rowBehind 88 = .ok (.iload_n 2, 1) := by decide +kernel
theorem dX6_rowBehind_89 : decode cX6_rowBehind 89 = .ok (.iconst 1, 1) := by decide +kernel
theorem dX6_rowBehind_90 : decode cX6_rowBehind 90 = .ok (.iadd, 1) := by decide +kernel
theorem dX6_rowBehind_91 : decode cX6_rowBehind 91 = .ok (.goto 6, 3) := by decide +kernel
theorem dX6_rowBehind_94 : decode cX6_rowBehind 94 = .ok (.iload_n 1, 1) := by decide +kernel
theorem dX6_rowBehind_95 : decode cX6_rowBehind 95 = .ok (.iconst 1, 1) := by decide +kernel
theorem dX6_rowBehind_96 : decode cX6_rowBehind 96 = .ok (.iadd, 1) := by decide +kernel
theorem dX6_rowBehind_97 : decode cX6_rowBehind 97 = .ok (.ireturn, 1) := by decide +kernel
-- X5_changeGentle
set_option maxRecDepth 100000 in
set_option maxHeartbeats 4000000 in
theorem zm_X5_changeGentle {l : Launch} {G : zG} {i0 : Nat} {p1 : Int32} {M : zM} {Kf : Int32 → zM → Prop} (h : (Kf (zmI M 15 i0 6) (zsI M 15 i0 6 p1))) : zCalI l G Y_X5_changeGentle 0 0 [vr 15 i0, vi p1] M Kf := by
  refine zCal_of (lv := [(0, vr 15 i0), (1, vi p1)]) (by decide) rfl (zle rfl) rfl (fun hv => zlv_args (lv := [(0, vr 15 i0), (1, vi p1)]) rfl hv) ?_
  refine Z_aload_n dX5_changeGentle_0 rfl 0 rfl ?_
  refine Z_getI zfl_X5_54 dX5_changeGentle_1 ?_
  refine Z_istore_n (lv2 := [(2, vi (zmI M 15 i0 6)), (0, vr 15 i0), (1, vi p1)]) dX5_changeGentle_4 rfl (by decide) rfl ?_
  refine Z_aload_n dX5_changeGentle_5 rfl 1 rfl ?_
  refine Z_iload_n dX5_changeGentle_6 rfl 2 rfl ?_
  refine Z_putI zfp_X5_54 rfl rfl dX5_changeGentle_7 ?_
  refine Z_iload_n dX5_changeGentle_10 rfl 0 rfl ?_
  exact Z_iret rfl rfl dX5_changeGentle_11 (Nat.le_refl _) (Nat.le_refl _) ⟨_, rfl, h⟩
-- X5_changeLimits
set_option maxRecDepth 100000 in
set_option maxHeartbeats 4000000 in
theorem zm_X5_changeLimits {l : Launch} {G : zG} {i0 : Nat} {p1 : Int32} {p2 : Int32} {M : zM} {Kf : Int32 → zM → Prop} (h : (Kf ((100 * (zmI M 15 i0 2)) + (zmI M 15 i0 3)) (zsI (zsI M 15 i0 2 p1) 15 i0 3 p2))) : zCalI l G Y_X5_changeLimits 0 0 [vr 15 i0, vi p1, vi p2] M Kf := by
  refine zCal_of (lv := [(0, vr 15 i0), (1, vi p1), (2, vi p2)]) (by decide) rfl (zle rfl) rfl (fun hv => zlv_args (lv := [(0, vr 15 i0), (1, vi p1), (2, vi p2)]) rfl hv) ?_
  refine Z_bipush (v := 100) (by decide) dX5_changeLimits_0 ?_
  refine Z_aload_n dX5_changeLimits_2 rfl 0 rfl ?_
  refine Z_getI zfl_X5_42 dX5_changeLimits_3 ?_
  refine Z_imul dX5_changeLimits_6 ?_
  refine Z_aload_n dX5_changeLimits_7 rfl 0 rfl ?_
  refine Z_getI zfl_X5_45 dX5_changeLimits_8 ?_
  refine Z_iadd dX5_changeLimits_11 ?_
  refine Z_istore_n (lv2 := [(3, vi ((100 * (zmI M 15 i0 2)) + (zmI M 15 i0 3))), (0, vr 15 i0), (1, vi p1), (2, vi p2)]) dX5_changeLimits_12 rfl (by decide) rfl ?_
  refine Z_aload_n dX5_changeLimits_13 rfl 1 rfl ?_
  refine Z_iload_n dX5_changeLimits_14 rfl 2 rfl ?_
  refine Z_putI zfp_X5_42 rfl rfl dX5_changeLimits_15 ?_
  refine Z_aload_n dX5_changeLimits_18 rfl 1 rfl ?_
  refine Z_iload_n dX5_changeLimits_19 rfl 3 rfl ?_
  refine Z_putI zfp_X5_45 rfl rfl dX5_changeLimits_20 ?_
  refine Z_iload_n dX5_changeLimits_23 rfl 0 rfl ?_
  exact Z_iret rfl rfl dX5_changeLimits_24 (Nat.le_refl _) (Nat.le_refl _) ⟨_, rfl, h⟩
-- X5_changeTop
set_option maxRecDepth 100000 in
set_option maxHeartbeats 4000000 in
theorem zm_X5_changeTop {l : Launch} {G : zG} {i0 : Nat} {p1 : Int32} {M : zM} {Kf : Int32 → zM → Prop} (h : (Kf (zmI M 15 i0 4) (zsI M 15 i0 4 p1))) : zCalI l G Y_X5_changeTop 0 0 [vr 15 i0, vi p1] M Kf := by
  refine zCal_of (lv := [(0, vr 15 i0), (1, vi p1)]) (by decide) rfl (zle rfl) rfl (fun hv => zlv_args (lv := [(0, vr 15 i0), (1, vi p1)]) rfl hv) ?_
  refine Z_aload_n dX5_changeTop_0 rfl 0 rfl ?_
  refine Z_getI zfl_X5_48 dX5_changeTop_1 ?_
  refine Z_istore_n (lv2 := [(2, vi (zmI M 15 i0 4)), (0, vr 15 i0), (1, vi p1)]) dX5_changeTop_4 rfl (by decide) rfl ?_
  refine Z_aload_n dX5_changeTop_5 rfl 1 rfl ?_
  refine Z_iload_n dX5_changeTop_6 rfl 2 rfl ?_
  refine Z_putI zfp_X5_48 rfl rfl dX5_changeTop_7 ?_
  refine Z_iload_n dX5_changeTop_10 rfl 0 rfl ?_
  exact Z_iret rfl rfl dX5_changeTop_11 (Nat.le_refl _) (Nat.le_refl _) ⟨_, rfl, h⟩
-- X5_changeWeight
set_option maxRecDepth 100000 in
set_option maxHeartbeats 4000000 in
theorem zm_X5_changeWeight {l : Launch} {G : zG} {i0 : Nat} {p1 : Int32} {M : zM} {Kf : Int32 → zM → Prop} (h : (Kf (zmI M 15 i0 5) (zsI M 15 i0 5 p1))) : zCalI l G Y_X5_changeWeight 0 0 [vr 15 i0, vi p1] M Kf := by
  refine zCal_of (lv := [(0, vr 15 i0), (1, vi p1)]) (by decide) rfl (zle rfl) rfl (fun hv => zlv_args (lv := [(0, vr 15 i0), (1, vi p1)]) rfl hv) ?_
  refine Z_aload_n dX5_changeWeight_0 rfl 0 rfl ?_
  refine Z_getI zfl_X5_51 dX5_changeWeight_1 ?_
  refine Z_istore_n (lv2 := [(2, vi (zmI M 15 i0 5)), (0, vr 15 i0), (1, vi p1)]) dX5_changeWeight_4 rfl (by decide) rfl ?_
  refine Z_aload_n dX5_changeWeight_5 rfl 1 rfl ?_
  refine Z_iload_n dX5_changeWeight_6 rfl 2 rfl ?_
  refine Z_putI zfp_X5_51 rfl rfl dX5_changeWeight_7 ?_
  refine Z_iload_n dX5_changeWeight_10 rfl 0 rfl ?_
  exact Z_iret rfl rfl dX5_changeWeight_11 (Nat.le_refl _) (Nat.le_refl _) ⟨_, rfl, h⟩
-- X5_draw
set_option maxRecDepth 100000 in
set_option maxHeartbeats 4000000 in
theorem zm_X5_draw {l : Launch} {G : zG} {i0 : Nat} {M : zM} {Kf : Int32 → zM → Prop} (h : (Kf (((((zmI (zsI M 15 i0 10 (((zmI M 15 i0 10) * 1103515245) + 12345)) 15 i0 10) : Int32).toUInt32 >>> ((15 : Int32).toUInt32 &&& Int32.toUInt32 31)).toInt32) - ((((zmI (zsI M 15 i0 10 (((zmI M 15 i0 10) * 1103515245) + 12345)) 15 i0 10) : Int32).toUInt32 >>> ((15 : Int32).toUInt32 &&& Int32.toUInt32 31)).toInt32) / 65536 * 65536) (zsI M 15 i0 10 (((zmI M 15 i0 10) * 1103515245) + 12345)))) : zCalI l G Y_X5_draw 0 0 [vr 15 i0] M Kf := by
  refine zCal_of (lv := [(0, vr 15 i0)]) (by decide) rfl (zle rfl) rfl (fun hv => zlv_args (lv := [(0, vr 15 i0)]) rfl hv) ?_
  refine Z_aload_n dX5_draw_0 rfl 0 rfl ?_
  refine Z_aload_n dX5_draw_1 rfl 0 rfl ?_
  refine Z_getI zfl_X5_66 dX5_draw_2 ?_
  refine Z_ldc (v := 1103515245) zw_858 dX5_draw_5 ?_
  refine Z_imul dX5_draw_7 ?_
  refine Z_sipush (v := 12345) (by decide) dX5_draw_8 ?_
  refine Z_iadd dX5_draw_11 ?_
  refine Z_putI zfp_X5_66 rfl rfl dX5_draw_12 ?_
  refine Z_aload_n dX5_draw_15 rfl 0 rfl ?_
  refine Z_getI zfl_X5_66 dX5_draw_16 ?_
  refine Z_bipush (v := 15) (by decide) dX5_draw_19 ?_
  refine Z_iushr dX5_draw_21 ?_
  refine Z_ldc (v := 65536) zw_849 dX5_draw_22 ?_
  refine Z_irem dX5_draw_24 (by decide) ?_
  exact Z_iret rfl rfl dX5_draw_25 (Nat.le_refl _) (Nat.le_refl _) ⟨_, rfl, h⟩
-- X5_flowsOn
set_option maxRecDepth 100000 in
set_option maxHeartbeats 4000000 in
theorem zm_X5_flowsOn {l : Launch} {G : zG} {i0 : Nat} {M : zM} {Kf : Int32 → zM → Prop} (h : zAt l G Y_X5_flowsOn (zEI G Y_X5_flowsOn Kf) 4 [(0, vr 15 i0), (1, vi 0), (2, vi 0)] [] M 0 0) : zCalI l G Y_X5_flowsOn 0 0 [vr 15 i0] M Kf := by
  refine zCal_of (lv := [(0, vr 15 i0)]) (by decide) rfl (zle rfl) rfl (fun hv => zlv_args (lv := [(0, vr 15 i0)]) rfl hv) ?_
  refine Z_iconst (v := 0) (by decide) dX5_flowsOn_0 ?_
  refine Z_istore_n (lv2 := [(1, vi 0), (0, vr 15 i0)]) dX5_flowsOn_1 rfl (by decide) rfl ?_
  refine Z_iconst (v := 0) (by decide) dX5_flowsOn_2 ?_
  refine Z_istore_n (lv2 := [(2, vi 0), (1, vi 0), (0, vr 15 i0)]) dX5_flowsOn_3 rfl (by decide) rfl ?_
  exact Z_pick [2, 1, 0] rfl h
set_option maxRecDepth 100000 in
set_option maxHeartbeats 4000000 in
theorem zb_X5_flowsOn_4 {l : Launch} {G : zG} {i0 : Nat} {y1 : Int32} {y2 : Int32} {M : zM} {Kf : Int32 → zM → Prop} (h : (((zmI M 15 i0 12) ≤ y2 → (Kf y1 M)) ∧ (¬ (zmI M 15 i0 12) ≤ y2 → ((6 ≤ y2 → (Kf y1 M)) ∧ (¬ 6 ≤ y2 → (vp_in y2 6 ∧ (((zmI M 17 (6 * i0 + y2.toNatClampNeg) 6) = 0 → zAt l G Y_X5_flowsOn (zEI G Y_X5_flowsOn Kf) 33 [(0, vr 15 i0), (1, vi y1), (2, vi y2)] [] M 0 0) ∧ (¬ (zmI M 17 (6 * i0 + y2.toNatClampNeg) 6) = 0 → zAt l G Y_X5_flowsOn (zEI G Y_X5_flowsOn Kf) 33 [(0, vr 15 i0), (1, vi (y1 + 1)), (2, vi y2)] [] M 0 0)))))))) : zAt l G Y_X5_flowsOn (zEI G Y_X5_flowsOn Kf) 4 [(0, vr 15 i0), (1, vi y1), (2, vi y2)] [] M 0 0 := by
  refine Z_iload_n dX5_flowsOn_4 rfl 2 rfl ?_
  refine Z_aload_n dX5_flowsOn_5 rfl 0 rfl ?_
  refine Z_getI zfl_X5_73 dX5_flowsOn_6 ?_
  refine Z_icmp_ge (tgt := 39) dX5_flowsOn_9 (by decide) (fun q => ?_) (fun q => ?_)
  · have h := h.1 q
    refine Z_iload_n dX5_flowsOn_39 rfl 1 rfl ?_
    exact Z_iret rfl rfl dX5_flowsOn_40 (Nat.le_refl _) (Nat.le_refl _) ⟨_, rfl, h⟩
  · have h := h.2 q
    refine Z_iload_n dX5_flowsOn_12 rfl 2 rfl ?_
    refine Z_bipush (v := 6) (by decide) dX5_flowsOn_13 ?_
    refine Z_icmp_ge (tgt := 39) dX5_flowsOn_15 (by decide) (fun q => ?_) (fun q => ?_)
    · have h := h.1 q
      refine Z_iload_n dX5_flowsOn_39 rfl 1 rfl ?_
      exact Z_iret rfl rfl dX5_flowsOn_40 (Nat.le_refl _) (Nat.le_refl _) ⟨_, rfl, h⟩
    · have h := h.2 q
      refine Z_aload_n dX5_flowsOn_18 rfl 0 rfl ?_
      refine Z_getR (s1 := 16) (i1 := i0) zfl_X5_11 rfl (fun q => by first | exact q | decide) dX5_flowsOn_19 ?_
      refine Z_iload_n dX5_flowsOn_22 rfl 2 rfl ?_
      obtain ⟨g1, h⟩ := h
      refine Z_aald (s1 := 17) (i1 := (6 * i0 + y2.toNatClampNeg)) (n := 6) (t := 6) rfl (by decide) g1 rfl (fun z => zref_ok_16 g1 z) dX5_flowsOn_23 ?_
      refine Z_getI zfl_X5_92 dX5_flowsOn_24 ?_
      refine Z_if_eq (tgt := 33) dX5_flowsOn_27 (by decide) (fun q => ?_) (fun q => ?_)
      · have h := h.1 q
        exact h
      · have h := h.2 q
        refine Z_iinc (v := (y1 + 1)) (lv2 := [(1, vi (y1 + 1)), (0, vr 15 i0), (2, vi y2)]) dX5_flowsOn_30 1 rfl rfl (by decide) rfl ?_
        exact Z_pick [1, 0, 2] rfl h
set_option maxRecDepth 100000 in
set_option maxHeartbeats 4000000 in
theorem zb_X5_flowsOn_33 {l : Launch} {G : zG} {i0 : Nat} {y1 : Int32} {y2 : Int32} {M : zM} {Kf : Int32 → zM → Prop} (h : zAt l G Y_X5_flowsOn (zEI G Y_X5_flowsOn Kf) 4 [(0, vr 15 i0), (1, vi y1), (2, vi (y2 + 1))] [] M 0 0) : zAt l G Y_X5_flowsOn (zEI G Y_X5_flowsOn Kf) 33 [(0, vr 15 i0), (1, vi y1), (2, vi y2)] [] M 0 0 := by
  refine Z_iinc (v := (y2 + 1)) (lv2 := [(2, vi (y2 + 1)), (0, vr 15 i0), (1, vi y1)]) dX5_flowsOn_33 2 rfl rfl (by decide) rfl ?_
  refine Z_goto (tgt := 4) dX5_flowsOn_36 (by decide) ?_
  exact Z_pick [1, 2, 0] rfl h
-- X5_hasFlow
set_option maxRecDepth 100000 in
set_option maxHeartbeats 4000000 in
theorem zm_X5_hasFlow {l : Launch} {G : zG} {i0 : Nat} {p1 : Int32} {M : zM} {Kf : Int32 → zM → Prop} (h : ((p1 < 0 → (Kf 0 M)) ∧ (¬ p1 < 0 → (((zmI M 15 i0 12) ≤ p1 → (Kf 0 M)) ∧ (¬ (zmI M 15 i0 12) ≤ p1 → ((6 ≤ p1 → (Kf 0 M)) ∧ (¬ 6 ≤ p1 → (Kf 1 M)))))))) : zCalI l G Y_X5_hasFlow 0 0 [vr 15 i0, vi p1] M Kf := by
  refine zCal_of (lv := [(0, vr 15 i0), (1, vi p1)]) (by decide) rfl (zle rfl) rfl (fun hv => zlv_args (lv := [(0, vr 15 i0), (1, vi p1)]) rfl hv) ?_
  refine Z_iload_n dX5_hasFlow_0 rfl 1 rfl ?_
  refine Z_if_lt (tgt := 22) dX5_hasFlow_1 (by decide) (fun q => ?_) (fun q => ?_)
  · have h := h.1 q
    refine Z_iconst (v := 0) (by decide) dX5_hasFlow_22 ?_
    exact Z_iret rfl (by decide) dX5_hasFlow_23 (Nat.le_refl _) (Nat.le_refl _) ⟨_, rfl, h⟩
  · have h := h.2 q
    refine Z_iload_n dX5_hasFlow_4 rfl 1 rfl ?_
    refine Z_aload_n dX5_hasFlow_5 rfl 0 rfl ?_
    refine Z_getI zfl_X5_73 dX5_hasFlow_6 ?_
    refine Z_icmp_ge (tgt := 22) dX5_hasFlow_9 (by decide) (fun q => ?_) (fun q => ?_)
    · have h := h.1 q
      refine Z_iconst (v := 0) (by decide) dX5_hasFlow_22 ?_
      exact Z_iret rfl (by decide) dX5_hasFlow_23 (Nat.le_refl _) (Nat.le_refl _) ⟨_, rfl, h⟩
    · have h := h.2 q
      refine Z_iload_n dX5_hasFlow_12 rfl 1 rfl ?_
      refine Z_bipush (v := 6) (by decide) dX5_hasFlow_13 ?_
      refine Z_icmp_ge (tgt := 22) dX5_hasFlow_15 (by decide) (fun q => ?_) (fun q => ?_)
      · have h := h.1 q
        refine Z_iconst (v := 0) (by decide) dX5_hasFlow_22 ?_
        exact Z_iret rfl (by decide) dX5_hasFlow_23 (Nat.le_refl _) (Nat.le_refl _) ⟨_, rfl, h⟩
      · have h := h.2 q
        refine Z_iconst (v := 1) (by decide) dX5_hasFlow_18 ?_
        refine Z_goto (tgt := 23) dX5_hasFlow_19 (by decide) ?_
        exact Z_iret rfl (by decide) dX5_hasFlow_23 (Nat.le_refl _) (Nat.le_refl _) ⟨_, rfl, h⟩
-- X5_outcomeOf
set_option maxRecDepth 100000 in
set_option maxHeartbeats 4000000 in
theorem zm_X5_outcomeOf {l : Launch} {G : zG} {i0 : Nat} {p1 : Int32} {p2 : Int32} {p3 : Int32} {p4 : Int32} {M : zM} {Kf : Int32 → zM → Prop} (h : ((p1 = 1 → (Kf 0 M)) ∧ (¬ p1 = 1 → ((¬ p1 = 3 → zAt l G Y_X5_outcomeOf (zEI G Y_X5_outcomeOf Kf) 18 [(0, vr 15 i0), (1, vi p1), (2, vi p2)] [] M 0 0) ∧ (p1 = 3 → ((p3 < p4 → zAt l G Y_X5_outcomeOf (zEI G Y_X5_outcomeOf Kf) 18 [(0, vr 15 i0), (1, vi p1), (2, vi p2)] [] M 0 0) ∧ (¬ p3 < p4 → (Kf 0 M)))))))) : zCalI l G Y_X5_outcomeOf 0 0 [vr 15 i0, vi p1, vi p2, vi p3, vi p4] M Kf := by
  refine zCal_of (lv := [(0, vr 15 i0), (1, vi p1), (2, vi p2), (3, vi p3), (4, vi p4)]) (by decide) rfl (zle rfl) rfl (fun hv => zlv_args (lv := [(0, vr 15 i0), (1, vi p1), (2, vi p2), (3, vi p3), (4, vi p4)]) rfl hv) ?_
  refine Z_iload_n dX5_outcomeOf_0 rfl 1 rfl ?_
  refine Z_iconst (v := 1) (by decide) dX5_outcomeOf_1 ?_
  refine Z_icmp_eq (tgt := 16) dX5_outcomeOf_2 (by decide) (fun q => ?_) (fun q => ?_)
  · have h := h.1 q
    refine Z_iconst (v := 0) (by decide) dX5_outcomeOf_16 ?_
    exact Z_iret rfl rfl dX5_outcomeOf_17 (Nat.le_refl _) (Nat.le_refl _) ⟨_, rfl, h⟩
  · have h := h.2 q
    refine Z_iload_n dX5_outcomeOf_5 rfl 1 rfl ?_
    refine Z_iconst (v := 3) (by decide) dX5_outcomeOf_6 ?_
    refine Z_icmp_ne (tgt := 18) dX5_outcomeOf_7 (by decide) (fun q => ?_) (fun q => ?_)
    · have h := h.1 q
      exact Z_pick [0, 1, 2] rfl h
    · have h := h.2 q
      refine Z_iload_n dX5_outcomeOf_10 rfl 3 rfl ?_
      refine Z_iload dX5_outcomeOf_11 4 rfl ?_
      refine Z_icmp_lt (tgt := 18) dX5_outcomeOf_13 (by decide) (fun q => ?_) (fun q => ?_)
      · have h := h.1 q
        exact Z_pick [0, 1, 2] rfl h
      · have h := h.2 q
        refine Z_iconst (v := 0) (by decide) dX5_outcomeOf_16 ?_
        exact Z_iret rfl rfl dX5_outcomeOf_17 (Nat.le_refl _) (Nat.le_refl _) ⟨_, rfl, h⟩
set_option maxRecDepth 100000 in
set_option maxHeartbeats 4000000 in
theorem zb_X5_outcomeOf_18 {l : Launch} {G : zG} {i0 : Nat} {y1 : Int32} {y2 : Int32} {M : zM} {Kf : Int32 → zM → Prop} (h : ((¬ y1 = 3 → (Kf 2 M)) ∧ (y1 = 3 → (vp_in y2 6 ∧ (((zmI M 17 (6 * i0 + y2.toNatClampNeg) 5) = 0 → (Kf 2 M)) ∧ (¬ (zmI M 17 (6 * i0 + y2.toNatClampNeg) 5) = 0 → (Kf 1 M))))))) : zAt l G Y_X5_outcomeOf (zEI G Y_X5_outcomeOf Kf) 18 [(0, vr 15 i0), (1, vi y1), (2, vi y2)] [] M 0 0 := by
  refine Z_iload_n dX5_outcomeOf_18 rfl 1 rfl ?_
  refine Z_iconst (v := 3) (by decide) dX5_outcomeOf_19 ?_
  refine Z_icmp_ne (tgt := 39) dX5_outcomeOf_20 (by decide) (fun q => ?_) (fun q => ?_)
  · have h := h.1 q
    refine Z_iconst (v := 2) (by decide) dX5_outcomeOf_39 ?_
    exact Z_iret rfl rfl dX5_outcomeOf_40 (Nat.le_refl _) (Nat.le_refl _) ⟨_, rfl, h⟩
  · have h := h.2 q
    refine Z_aload_n dX5_outcomeOf_23 rfl 0 rfl ?_
    refine Z_getR (s1 := 16) (i1 := i0) zfl_X5_11 rfl (fun q => by first | exact q | decide) dX5_outcomeOf_24 ?_
    refine Z_iload_n dX5_outcomeOf_27 rfl 2 rfl ?_
    obtain ⟨g1, h⟩ := h
    refine Z_aald (s1 := 17) (i1 := (6 * i0 + y2.toNatClampNeg)) (n := 6) (t := 6) rfl (by decide) g1 rfl (fun z => zref_ok_16 g1 z) dX5_outcomeOf_28 ?_
    refine Z_getI zfl_X5_113 dX5_outcomeOf_29 ?_
    refine Z_if_eq (tgt := 39) dX5_outcomeOf_32 (by decide) (fun q => ?_) (fun q => ?_)
    · have h := h.1 q
      refine Z_iconst (v := 2) (by decide) dX5_outcomeOf_39 ?_
      exact Z_iret rfl rfl dX5_outcomeOf_40 (Nat.le_refl _) (Nat.le_refl _) ⟨_, rfl, h⟩
    · have h := h.2 q
      refine Z_iconst (v := 1) (by decide) dX5_outcomeOf_35 ?_
      refine Z_goto (tgt := 40) dX5_outcomeOf_36 (by decide) ?_
      exact Z_iret rfl rfl dX5_outcomeOf_40 (Nat.le_refl _) (Nat.le_refl _) ⟨_, rfl, h⟩
-- X5_wayAt
set_option maxRecDepth 100000 in
set_option maxHeartbeats 4000000 in
theorem zm_X5_wayAt {l : Launch} {G : zG} {i0 : Nat} {p1 : Int32} {p2 : Int32} {M : zM} {Kf : Int32 → zM → Prop} (h : ((p1 < (zmI M 15 i0 0) → (((1024 * (zmI M 15 i0 2)) ≤ p2 → ((p2 < ((1024 * (zmI M 15 i0 3)) * ((zmI M 15 i0 6) + 1)) → (Kf 3 M)) ∧ (¬ p2 < ((1024 * (zmI M 15 i0 3)) * ((zmI M 15 i0 6) + 1)) → (Kf 2 M)))) ∧ (¬ (1024 * (zmI M 15 i0 2)) ≤ p2 → (Kf 1 M)))) ∧ (¬ p1 < (zmI M 15 i0 0) → (Kf 0 M)))) : zCalI l G Y_X5_wayAt 0 0 [vr 15 i0, vi p1, vi p2] M Kf := by
  refine zCal_of (lv := [(0, vr 15 i0), (1, vi p1), (2, vi p2)]) (by decide) rfl (zle rfl) rfl (fun hv => zlv_args (lv := [(0, vr 15 i0), (1, vi p1), (2, vi p2)]) rfl hv) ?_
  refine Z_iload_n dX5_wayAt_0 rfl 1 rfl ?_
  refine Z_aload_n dX5_wayAt_1 rfl 0 rfl ?_
  refine Z_getI zfl_X5_35 dX5_wayAt_2 ?_
  refine Z_icmp_lt (tgt := 10) dX5_wayAt_5 (by decide) (fun q => ?_) (fun q => ?_)
  · have h := h.1 q
    refine Z_iload_n dX5_wayAt_10 rfl 2 rfl ?_
    refine Z_sipush (v := 1024) (by decide) dX5_wayAt_11 ?_
    refine Z_aload_n dX5_wayAt_14 rfl 0 rfl ?_
    refine Z_getI zfl_X5_42 dX5_wayAt_15 ?_
    refine Z_imul dX5_wayAt_18 ?_
    refine Z_icmp_ge (tgt := 24) dX5_wayAt_19 (by decide) (fun q => ?_) (fun q => ?_)
    · have h := h.1 q
      refine Z_iload_n dX5_wayAt_24 rfl 2 rfl ?_
      refine Z_sipush (v := 1024) (by decide) dX5_wayAt_25 ?_
      refine Z_aload_n dX5_wayAt_28 rfl 0 rfl ?_
      refine Z_getI zfl_X5_45 dX5_wayAt_29 ?_
      refine Z_imul dX5_wayAt_32 ?_
      refine Z_aload_n dX5_wayAt_33 rfl 0 rfl ?_
      refine Z_getI zfl_X5_54 dX5_wayAt_34 ?_
      refine Z_iconst (v := 1) (by decide) dX5_wayAt_37 ?_
      refine Z_iadd dX5_wayAt_38 ?_
      refine Z_imul dX5_wayAt_39 ?_
      refine Z_icmp_lt (tgt := 47) dX5_wayAt_40 (by decide) (fun q => ?_) (fun q => ?_)
      · have h := h.1 q
        refine Z_iconst (v := 3) (by decide) dX5_wayAt_47 ?_
        exact Z_iret rfl rfl dX5_wayAt_48 (Nat.le_refl _) (Nat.le_refl _) ⟨_, rfl, h⟩
      · have h := h.2 q
        refine Z_iconst (v := 2) (by decide) dX5_wayAt_43 ?_
        refine Z_goto (tgt := 48) dX5_wayAt_44 (by decide) ?_
        exact Z_iret rfl rfl dX5_wayAt_48 (Nat.le_refl _) (Nat.le_refl _) ⟨_, rfl, h⟩
    · have h := h.2 q
      refine Z_iconst (v := 1) (by decide) dX5_wayAt_22 ?_
      exact Z_iret rfl rfl dX5_wayAt_23 (Nat.le_refl _) (Nat.le_refl _) ⟨_, rfl, h⟩
  · have h := h.2 q
    refine Z_iconst (v := 0) (by decide) dX5_wayAt_8 ?_
    exact Z_iret rfl rfl dX5_wayAt_9 (Nat.le_refl _) (Nat.le_refl _) ⟨_, rfl, h⟩
-- X6_addRow
set_option maxRecDepth 100000 in
set_option maxHeartbeats 4000000 in
theorem zm_X6_addRow {l : Launch} {G : zG} {p1 : Int32} {p2 : Int32} {p3 : Int32} {M : zM} {Kf : zM → Prop} (h : (((zmI M 4 0 7) < 0 → (Kf M)) ∧ (¬ (zmI M 4 0 7) < 0 → (((zmI M 4 0 7) < 60 → (vp_in (zmI M 4 0 7) 60 ∧ (vp_in (zmI (zsI M 5 0 (zmI M 4 0 7).toNatClampNeg p1) 4 0 7) 60 ∧ (vp_in (zmI (zsI (zsI M 5 0 (zmI M 4 0 7).toNatClampNeg p1) 6 0 (zmI (zsI M 5 0 (zmI M 4 0 7).toNatClampNeg p1) 4 0 7).toNatClampNeg p2) 4 0 7) 60 ∧ (Kf (zsI (zsI (zsI (zsI M 5 0 (zmI M 4 0 7).toNatClampNeg p1) 6 0 (zmI (zsI M 5 0 (zmI M 4 0 7).toNatClampNeg p1) 4 0 7).toNatClampNeg p2) 7 0 (zmI (zsI (zsI M 5 0 (zmI M 4 0 7).toNatClampNeg p1) 6 0 (zmI (zsI M 5 0 (zmI M 4 0 7).toNatClampNeg p1) 4 0 7).toNatClampNeg p2) 4 0 7).toNatClampNeg p3) 4 0 7 ((zmI (zsI (zsI (zsI M 5 0 (zmI M 4 0 7).toNatClampNeg p1) 6 0 (zmI (zsI M 5 0 (zmI M 4 0 7).toNatClampNeg p1) 4 0 7).toNatClampNeg p2) 7 0 (zmI (zsI (zsI M 5 0 (zmI M 4 0 7).toNatClampNeg p1) 6 0 (zmI (zsI M 5 0 (zmI M 4 0 7).toNatClampNeg p1) 4 0 7).toNatClampNeg p2) 4 0 7).toNatClampNeg p3) 4 0 7) + 1))))))) ∧ (¬ (zmI M 4 0 7) < 60 → (Kf M)))))) : zCalV l G Y_X6_addRow 0 0 [vr 4 0, vi p1, vi p2, vi p3] M Kf := by
  refine zCal_of (lv := [(0, vr 4 0), (1, vi p1), (2, vi p2), (3, vi p3)]) (by decide) rfl (zle rfl) rfl (fun hv => zlv_args (lv := [(0, vr 4 0), (1, vi p1), (2, vi p2), (3, vi p3)]) rfl hv) ?_
  refine Z_aload_n dX6_addRow_0 rfl 0 rfl ?_
  refine Z_getI zfl_X6_35 dX6_addRow_1 ?_
  refine Z_if_lt (tgt := 19) dX6_addRow_4 (by decide) (fun q => ?_) (fun q => ?_)
  · have h := h.1 q
    exact Z_vret rfl dX6_addRow_19 (Nat.le_refl _) (Nat.le_refl _) ⟨rfl, h⟩
  · have h := h.2 q
    refine Z_aload_n dX6_addRow_7 rfl 0 rfl ?_
    refine Z_getI zfl_X6_35 dX6_addRow_8 ?_
    refine Z_aload_n dX6_addRow_11 rfl 0 rfl ?_
    refine Z_getR (s1 := 5) (i1 := 0) zfl_X6_11 rfl (fun q => by first | exact q | decide) dX6_addRow_12 ?_
    refine Z_alen (n := 60) (v := 60) rfl (by decide) (by decide) dX6_addRow_15 ?_
    refine Z_icmp_lt (tgt := 20) dX6_addRow_16 (by decide) (fun q => ?_) (fun q => ?_)
    · have h := h.1 q
      refine Z_aload_n dX6_addRow_20 rfl 0 rfl ?_
      refine Z_getR (s1 := 5) (i1 := 0) zfl_X6_11 rfl (fun q => by first | exact q | decide) dX6_addRow_21 ?_
      refine Z_aload_n dX6_addRow_24 rfl 0 rfl ?_
      refine Z_getI zfl_X6_35 dX6_addRow_25 ?_
      refine Z_iload_n dX6_addRow_28 rfl 1 rfl ?_
      obtain ⟨g1, h⟩ := h
      refine Z_iast (n := 60) rfl g1 dX6_addRow_29 ?_
      refine Z_aload_n dX6_addRow_30 rfl 0 rfl ?_
      refine Z_getR (s1 := 6) (i1 := 0) zfl_X6_15 rfl (fun q => by first | exact q | decide) dX6_addRow_31 ?_
      refine Z_aload_n dX6_addRow_34 rfl 0 rfl ?_
      refine Z_getI zfl_X6_35 dX6_addRow_35 ?_
      refine Z_iload_n dX6_addRow_38 rfl 2 rfl ?_
      obtain ⟨g2, h⟩ := h
      refine Z_iast (n := 60) rfl g2 dX6_addRow_39 ?_
      refine Z_aload_n dX6_addRow_40 rfl 0 rfl ?_
      refine Z_getR (s1 := 7) (i1 := 0) zfl_X6_18 rfl (fun q => by first | exact q | decide) dX6_addRow_41 ?_
      refine Z_aload_n dX6_addRow_44 rfl 0 rfl ?_
      refine Z_getI zfl_X6_35 dX6_addRow_45 ?_
      refine Z_iload_n dX6_addRow_48 rfl 3 rfl ?_
      obtain ⟨g3, h⟩ := h
      refine Z_iast (n := 60) rfl g3 dX6_addRow_49 ?_
      refine Z_aload_n dX6_addRow_50 rfl 0 rfl ?_
      refine Z_dup rfl dX6_addRow_51 ?_
      refine Z_getI zfl_X6_35 dX6_addRow_52 ?_
      refine Z_iconst (v := 1) (by decide) dX6_addRow_55 ?_
      refine Z_iadd dX6_addRow_56 ?_
      refine Z_putI zfp_X6_35 rfl rfl dX6_addRow_57 ?_
      exact Z_vret rfl dX6_addRow_60 (Nat.le_refl _) (Nat.le_refl _) ⟨rfl, h⟩
    · have h := h.2 q
      exact Z_vret rfl dX6_addRow_19 (Nat.le_refl _) (Nat.le_refl _) ⟨rfl, h⟩
-- X6_rowBehind
set_option maxRecDepth 100000 in
set_option maxHeartbeats 4000000 in
theorem zm_X6_rowBehind {l : Launch} {G : zG} {p1 : Int32} {M : zM} {Kf : Int32 → zM → Prop} (h : (vp_in p1 60 ∧ ((¬ (zmI M 5 0 p1.toNatClampNeg) = 8 → (vp_in p1 60 ∧ (((zmI M 6 0 p1.toNatClampNeg) < 0 → (Kf (p1 + 1) M)) ∧ (¬ (zmI M 6 0 p1.toNatClampNeg) < 0 → (((zmI M 6 0 p1.toNatClampNeg) < 60 → (vp_in (zmI M 6 0 p1.toNatClampNeg) 60 ∧ (vp_in (zmI M 6 0 p1.toNatClampNeg) 60 ∧ (vp_in (zmI M 6 0 p1.toNatClampNeg) 60 ∧ (((zmI (zsI M 8 0 (zmI M 6 0 p1.toNatClampNeg).toNatClampNeg ((zmI M 8 0 (zmI M 6 0 p1.toNatClampNeg).toNatClampNeg) - 1)) 8 0 (zmI M 6 0 p1.toNatClampNeg).toNatClampNeg) ≤ 0 → (Kf (p1 + 1) (zsI M 8 0 (zmI M 6 0 p1.toNatClampNeg).toNatClampNeg ((zmI M 8 0 (zmI M 6 0 p1.toNatClampNeg).toNatClampNeg) - 1)))) ∧ (¬ (zmI (zsI M 8 0 (zmI M 6 0 p1.toNatClampNeg).toNatClampNeg ((zmI M 8 0 (zmI M 6 0 p1.toNatClampNeg).toNatClampNeg) - 1)) 8 0 (zmI M 6 0 p1.toNatClampNeg).toNatClampNeg) ≤ 0 → (Kf ((zmI M 6 0 p1.toNatClampNeg) + 1) (zsI M 8 0 (zmI M 6 0 p1.toNatClampNeg).toNatClampNeg ((zmI M 8 0 (zmI M 6 0 p1.toNatClampNeg).toNatClampNeg) - 1))))))))) ∧ (¬ (zmI M 6 0 p1.toNatClampNeg) < 60 → (Kf (p1 + 1) M))))))) ∧ ((zmI M 5 0 p1.toNatClampNeg) = 8 → (vp_in p1 60 ∧ (vp_in p1 60 ∧ (vp_in p1 60 ∧ (((zmI (zsI M 8 0 p1.toNatClampNeg (zmI M 6 0 p1.toNatClampNeg)) 8 0 p1.toNatClampNeg) ≤ 0 → (vp_in p1 60 ∧ (Kf (zmI (zsI M 8 0 p1.toNatClampNeg (zmI M 6 0 p1.toNatClampNeg)) 7 0 p1.toNatClampNeg) (zsI M 8 0 p1.toNatClampNeg (zmI M 6 0 p1.toNatClampNeg))))) ∧ (¬ (zmI (zsI M 8 0 p1.toNatClampNeg (zmI M 6 0 p1.toNatClampNeg)) 8 0 p1.toNatClampNeg) ≤ 0 → (Kf (p1 + 1) (zsI M 8 0 p1.toNatClampNeg (zmI M 6 0 p1.toNatClampNeg)))))))))))) : zCalI l G Y_X6_rowBehind 0 0 [vr 4 0, vi p1] M Kf := by
  refine zCal_of (lv := [(0, vr 4 0), (1, vi p1)]) (by decide) rfl (zle rfl) rfl (fun hv => zlv_args (lv := [(0, vr 4 0), (1, vi p1)]) rfl hv) ?_
  refine Z_aload_n dX6_rowBehind_0 rfl 0 rfl ?_
  refine Z_getR (s1 := 5) (i1 := 0) zfl_X6_11 rfl (fun q => by first | exact q | decide) dX6_rowBehind_1 ?_
  refine Z_iload_n dX6_rowBehind_4 rfl 1 rfl ?_
  obtain ⟨g1, h⟩ := h
  refine Z_iald (n := 60) rfl g1 dX6_rowBehind_5 ?_
  refine Z_bipush (v := 8) (by decide) dX6_rowBehind_6 ?_
  refine Z_icmp_ne (tgt := 45) dX6_rowBehind_8 (by decide) (fun q => ?_) (fun q => ?_)
  · have h := h.1 q
    refine Z_aload_n dX6_rowBehind_45 rfl 0 rfl ?_
    refine Z_getR (s1 := 6) (i1 := 0) zfl_X6_15 rfl (fun q => by first | exact q | decide) dX6_rowBehind_46 ?_
    refine Z_iload_n dX6_rowBehind_49 rfl 1 rfl ?_
    obtain ⟨g2, h⟩ := h
    refine Z_iald (n := 60) rfl g2 dX6_rowBehind_50 ?_
    refine Z_istore_n (lv2 := [(2, vi (zmI M 6 0 p1.toNatClampNeg)), (0, vr 4 0), (1, vi p1)]) dX6_rowBehind_51 rfl (by decide) rfl ?_
    refine Z_iload_n dX6_rowBehind_52 rfl 0 rfl ?_
    refine Z_if_lt (tgt := 65) dX6_rowBehind_53 (by decide) (fun q => ?_) (fun q => ?_)
    · have h := h.1 q
      refine Z_iload_n dX6_rowBehind_65 rfl 2 rfl ?_
      refine Z_iconst (v := 1) (by decide) dX6_rowBehind_66 ?_
      refine Z_iadd dX6_rowBehind_67 ?_
      exact Z_iret rfl rfl dX6_rowBehind_68 (Nat.le_refl _) (Nat.le_refl _) ⟨_, rfl, h⟩
    · have h := h.2 q
      refine Z_iload_n dX6_rowBehind_56 rfl 0 rfl ?_
      refine Z_aload_n dX6_rowBehind_57 rfl 1 rfl ?_
      refine Z_getR (s1 := 8) (i1 := 0) zfl_X6_21 rfl (fun q => by first | exact q | decide) dX6_rowBehind_58 ?_
      refine Z_alen (n := 60) (v := 60) rfl (by decide) (by decide) dX6_rowBehind_61 ?_
      refine Z_icmp_lt (tgt := 69) dX6_rowBehind_62 (by decide) (fun q => ?_) (fun q => ?_)
      · have h := h.1 q
        refine Z_aload_n dX6_rowBehind_69 rfl 1 rfl ?_
        refine Z_getR (s1 := 8) (i1 := 0) zfl_X6_21 rfl (fun q => by first | exact q | decide) dX6_rowBehind_70 ?_
        refine Z_iload_n dX6_rowBehind_73 rfl 0 rfl ?_
        refine Z_dup2 rfl rfl dX6_rowBehind_74 ?_
        obtain ⟨g3, h⟩ := h
        refine Z_iald (n := 60) rfl g3 dX6_rowBehind_75 ?_
        refine Z_iconst (v := 1) (by decide) dX6_rowBehind_76 ?_
        refine Z_isub dX6_rowBehind_77 ?_
        obtain ⟨g4, h⟩ := h
        refine Z_iast (n := 60) rfl g4 dX6_rowBehind_78 ?_
        refine Z_aload_n dX6_rowBehind_79 rfl 1 rfl ?_
        refine Z_getR (s1 := 8) (i1 := 0) zfl_X6_21 rfl (fun q => by first | exact q | decide) dX6_rowBehind_80 ?_
        refine Z_iload_n dX6_rowBehind_83 rfl 0 rfl ?_
        obtain ⟨g5, h⟩ := h
        refine Z_iald (n := 60) rfl g5 dX6_rowBehind_84 ?_
        refine Z_if_le (tgt := 94) dX6_rowBehind_85 (by decide) (fun q => ?_) (fun q => ?_)
        · have h := h.1 q
          refine Z_iload_n dX6_rowBehind_94 rfl 2 rfl ?_
          refine Z_iconst (v := 1) (by decide) dX6_rowBehind_95 ?_
          refine Z_iadd dX6_rowBehind_96 ?_
          exact Z_iret rfl rfl dX6_rowBehind_97 (Nat.le_refl _) (Nat.le_refl _) ⟨_, rfl, h⟩
        · have h := h.2 q
          refine Z_iload_n dX6_rowBehind_88 rfl 0 rfl ?_
          refine Z_iconst (v := 1) (by decide) dX6_rowBehind_89 ?_
          refine Z_iadd dX6_rowBehind_90 ?_
          refine Z_goto (tgt := 97) dX6_rowBehind_91 (by decide) ?_
          exact Z_iret rfl rfl dX6_rowBehind_97 (Nat.le_refl _) (Nat.le_refl _) ⟨_, rfl, h⟩
      · have h := h.2 q
        refine Z_iload_n dX6_rowBehind_65 rfl 2 rfl ?_
        refine Z_iconst (v := 1) (by decide) dX6_rowBehind_66 ?_
        refine Z_iadd dX6_rowBehind_67 ?_
        exact Z_iret rfl rfl dX6_rowBehind_68 (Nat.le_refl _) (Nat.le_refl _) ⟨_, rfl, h⟩
  · have h := h.2 q
    refine Z_aload_n dX6_rowBehind_11 rfl 0 rfl ?_
    refine Z_getR (s1 := 8) (i1 := 0) zfl_X6_21 rfl (fun q => by first | exact q | decide) dX6_rowBehind_12 ?_
    refine Z_iload_n dX6_rowBehind_15 rfl 1 rfl ?_
    refine Z_aload_n dX6_rowBehind_16 rfl 0 rfl ?_
    refine Z_getR (s1 := 6) (i1 := 0) zfl_X6_15 rfl (fun q => by first | exact q | decide) dX6_rowBehind_17 ?_
    refine Z_iload_n dX6_rowBehind_20 rfl 1 rfl ?_
    obtain ⟨g6, h⟩ := h
    refine Z_iald (n := 60) rfl g6 dX6_rowBehind_21 ?_
    obtain ⟨g7, h⟩ := h
    refine Z_iast (n := 60) rfl g7 dX6_rowBehind_22 ?_
    refine Z_aload_n dX6_rowBehind_23 rfl 0 rfl ?_
    refine Z_getR (s1 := 8) (i1 := 0) zfl_X6_21 rfl (fun q => by first | exact q | decide) dX6_rowBehind_24 ?_
    refine Z_iload_n dX6_rowBehind_27 rfl 1 rfl ?_
    obtain ⟨g8, h⟩ := h
    refine Z_iald (n := 60) rfl g8 dX6_rowBehind_28 ?_
    refine Z_if_le (tgt := 38) dX6_rowBehind_29 (by decide) (fun q => ?_) (fun q => ?_)
    · have h := h.1 q
      refine Z_aload_n dX6_rowBehind_38 rfl 0 rfl ?_
      refine Z_getR (s1 := 7) (i1 := 0) zfl_X6_18 rfl (fun q => by first | exact q | decide) dX6_rowBehind_39 ?_
      refine Z_iload_n dX6_rowBehind_42 rfl 1 rfl ?_
      obtain ⟨g9, h⟩ := h
      refine Z_iald (n := 60) rfl g9 dX6_rowBehind_43 ?_
      exact Z_iret rfl rfl dX6_rowBehind_44 (Nat.le_refl _) (Nat.le_refl _) ⟨_, rfl, h⟩
    · have h := h.2 q
      refine Z_iload_n dX6_rowBehind_32 rfl 1 rfl ?_
      refine Z_iconst (v := 1) (by decide) dX6_rowBehind_33 ?_
      refine Z_iadd dX6_rowBehind_34 ?_
      refine Z_goto (tgt := 44) dX6_rowBehind_35 (by decide) ?_
      exact Z_iret rfl rfl dX6_rowBehind_44 (Nat.le_refl _) (Nat.le_refl _) ⟨_, rfl, h⟩
-- X0_isAmiss
set_option maxRecDepth 100000 in
set_option maxHeartbeats 4000000 in
theorem zm_X0_isAmiss {l : Launch} {G : zG} {i0 : Nat} {p1 : Int32} {M : zM} {Kf : Int32 → zM → Prop} (h : (zCalI l G Y_X0_cell 0 0 [vr 21 i0, vi p1, vi 2] M (fun x2 M1 => ((x2 = 3 → (zCalI l G Y_X0_cell 0 0 [vr 21 i0, vi p1, vi 6] M1 (fun x4 M3 => (zCalI l G Y_X0_cell 0 0 [vr 21 i0, vi p1, vi 5] M3 (fun x6 M5 => ((x6 ≤ x4 → zAt l G Y_X0_isAmiss (zEI G Y_X0_isAmiss Kf) 33 [(0, vr 21 i0), (1, vi p1)] [vi 0] M5 0 0) ∧ (¬ x6 ≤ x4 → zAt l G Y_X0_isAmiss (zEI G Y_X0_isAmiss Kf) 33 [(0, vr 21 i0), (1, vi p1)] [vi 1] M5 0 0))))))) ∧ (¬ x2 = 3 → (Kf 0 M1)))))) : zCalI l G Y_X0_isAmiss 0 0 [vr 21 i0, vi p1] M Kf := by
  refine zCal_of (lv := [(0, vr 21 i0), (1, vi p1)]) (by decide) rfl (zle rfl) rfl (fun hv => zlv_args (lv := [(0, vr 21 i0), (1, vi p1)]) rfl hv) ?_
  refine Z_aload_n dX0_isAmiss_0 rfl 0 rfl ?_
  refine Z_iload_n dX0_isAmiss_1 rfl 1 rfl ?_
  refine Z_iconst (v := 2) (by decide) dX0_isAmiss_2 ?_
  refine Z_callVI (as := [vi p1, vi 2]) zRm_M zcv_X0_isAmiss_X0_cell_34 (ci := 4) rfl rfl rfl rfl (zle rfl) dX0_isAmiss_3 ⟨Nat.le_refl _, Nat.le_refl _⟩ h (fun x2 M1 h => ?_)
  refine Z_iconst (v := 3) (by decide) dX0_isAmiss_6 ?_
  refine Z_icmp_eq (tgt := 12) dX0_isAmiss_7 (by decide) (fun q => ?_) (fun q => ?_)
  · have h := h.1 q
    refine Z_aload_n dX0_isAmiss_12 rfl 0 rfl ?_
    refine Z_iload_n dX0_isAmiss_13 rfl 1 rfl ?_
    refine Z_bipush (v := 6) (by decide) dX0_isAmiss_14 ?_
    refine Z_callVI (as := [vi p1, vi 6]) zRm_M zcv_X0_isAmiss_X0_cell_34 (ci := 4) rfl rfl rfl rfl (zle rfl) dX0_isAmiss_16 ⟨Nat.le_refl _, Nat.le_refl _⟩ h (fun x4 M3 h => ?_)
    refine Z_aload_n dX0_isAmiss_19 rfl 0 rfl ?_
    refine Z_iload_n dX0_isAmiss_20 rfl 1 rfl ?_
    refine Z_iconst (v := 5) (by decide) dX0_isAmiss_21 ?_
    refine Z_callVI (as := [vi p1, vi 5]) zRm_M zcv_X0_isAmiss_X0_cell_34 (ci := 4) rfl rfl rfl rfl (zle rfl) dX0_isAmiss_22 ⟨Nat.le_refl _, Nat.le_refl _⟩ h (fun x6 M5 h => ?_)
    refine Z_icmp_ge (tgt := 32) dX0_isAmiss_25 (by decide) (fun q => ?_) (fun q => ?_)
    · have h := h.1 q
      refine Z_iconst (v := 0) (by decide) dX0_isAmiss_32 ?_
      exact h
    · have h := h.2 q
      refine Z_iconst (v := 1) (by decide) dX0_isAmiss_28 ?_
      refine Z_goto (tgt := 33) dX0_isAmiss_29 (by decide) ?_
      exact h
  · have h := h.2 q
    refine Z_iconst (v := 0) (by decide) dX0_isAmiss_10 ?_
    exact Z_iret rfl (by decide) dX0_isAmiss_11 (Nat.le_refl _) (Nat.le_refl _) ⟨_, rfl, h⟩
set_option maxRecDepth 100000 in
set_option maxHeartbeats 4000000 in
theorem zb_X0_isAmiss_33 {l : Launch} {G : zG} {i0 : Nat} {y1 : Int32} {s0 : Int32} {M : zM} {Kf : Int32 → zM → Prop} (h : (zCalI l G Y_X0_cell 0 0 [vr 21 i0, vi y1, vi 7] M (fun x2 M1 => ((¬ x2 = 0 → zAt l G Y_X0_isAmiss (zEI G Y_X0_isAmiss Kf) 49 [(2, vi s0)] [vi 0] M1 0 0) ∧ (x2 = 0 → zAt l G Y_X0_isAmiss (zEI G Y_X0_isAmiss Kf) 49 [(2, vi s0)] [vi 1] M1 0 0))))) : zAt l G Y_X0_isAmiss (zEI G Y_X0_isAmiss Kf) 33 [(0, vr 21 i0), (1, vi y1)] [vi s0] M 0 0 := by
  refine Z_istore_n (lv2 := [(2, vi s0), (0, vr 21 i0), (1, vi y1)]) dX0_isAmiss_33 rfl (by decide) rfl ?_
  refine Z_aload_n dX0_isAmiss_34 rfl 1 rfl ?_
  refine Z_iload_n dX0_isAmiss_35 rfl 2 rfl ?_
  refine Z_bipush (v := 7) (by decide) dX0_isAmiss_36 ?_
  refine Z_callVI (as := [vi y1, vi 7]) zRm_M zcv_X0_isAmiss_X0_cell_34 (ci := 4) rfl rfl rfl rfl (zle rfl) dX0_isAmiss_38 ⟨Nat.le_refl _, Nat.le_refl _⟩ h (fun x2 M1 h => ?_)
  refine Z_if_ne (tgt := 48) dX0_isAmiss_41 (by decide) (fun q => ?_) (fun q => ?_)
  · have h := h.1 q
    refine Z_iconst (v := 0) (by decide) dX0_isAmiss_48 ?_
    exact Z_pick [0] rfl h
  · have h := h.2 q
    refine Z_iconst (v := 1) (by decide) dX0_isAmiss_44 ?_
    refine Z_goto (tgt := 49) dX0_isAmiss_45 (by decide) ?_
    exact Z_pick [0] rfl h
set_option maxRecDepth 100000 in
set_option maxHeartbeats 4000000 in
theorem zb_X0_isAmiss_49 {l : Launch} {G : zG} {y2 : Int32} {s0 : Int32} {M : zM} {Kf : Int32 → zM → Prop} (h : ((¬ y2 = s0 → (Kf 0 M)) ∧ (y2 = s0 → (Kf 1 M)))) : zAt l G Y_X0_isAmiss (zEI G Y_X0_isAmiss Kf) 49 [(2, vi y2)] [vi s0] M 0 0 := by
  refine Z_istore_n (lv2 := [(3, vi s0), (2, vi y2)]) dX0_isAmiss_49 rfl (by decide) rfl ?_
  refine Z_iload_n dX0_isAmiss_50 rfl 1 rfl ?_
  refine Z_iload_n dX0_isAmiss_51 rfl 0 rfl ?_
  refine Z_icmp_ne (tgt := 59) dX0_isAmiss_52 (by decide) (fun q => ?_) (fun q => ?_)
  · have h := h.1 q
    refine Z_iconst (v := 0) (by decide) dX0_isAmiss_59 ?_
    exact Z_iret rfl (by decide) dX0_isAmiss_60 (Nat.le_refl _) (Nat.le_refl _) ⟨_, rfl, h⟩
  · have h := h.2 q
    refine Z_iconst (v := 1) (by decide) dX0_isAmiss_55 ?_
    refine Z_goto (tgt := 60) dX0_isAmiss_56 (by decide) ?_
    exact Z_iret rfl (by decide) dX0_isAmiss_60 (Nat.le_refl _) (Nat.le_refl _) ⟨_, rfl, h⟩
-- X1_begin
set_option maxRecDepth 100000 in
set_option maxHeartbeats 4000000 in
theorem zm_X1_begin {l : Launch} {G : zG} {i0 : Nat} {M : zM} {Kf : zM → Prop} (h : (zCalV l G Y_J7_fill_d0a16 0 0 [vr 18 i0, vl 0] (zsI (zsI (zsI (zsI M 17 i0 6 1) 17 i0 7 (zmI (zsI M 17 i0 6 1) 17 i0 3)) 17 i0 8 0) 17 i0 9 0) (fun M1 => (Kf M1)))) : zCalV l G Y_X1_begin 0 0 [vr 17 i0] M Kf := by
  refine zCal_of (lv := [(0, vr 17 i0)]) (by decide) rfl (zle rfl) rfl (fun hv => zlv_args (lv := [(0, vr 17 i0)]) rfl hv) ?_
  refine Z_aload_n dX1_begin_0 rfl 0 rfl ?_
  refine Z_iconst (v := 1) (by decide) dX1_begin_1 ?_
  refine Z_putI zfp_X1_21 (by decide) (by decide) dX1_begin_2 ?_
  refine Z_aload_n dX1_begin_5 rfl 0 rfl ?_
  refine Z_aload_n dX1_begin_6 rfl 0 rfl ?_
  refine Z_getI zfl_X1_25 dX1_begin_7 ?_
  refine Z_putI zfp_X1_29 rfl rfl dX1_begin_10 ?_
  refine Z_aload_n dX1_begin_13 rfl 0 rfl ?_
  refine Z_iconst (v := 0) (by decide) dX1_begin_14 ?_
  refine Z_putI zfp_X1_32 (by decide) (by decide) dX1_begin_15 ?_
  refine Z_aload_n dX1_begin_18 rfl 0 rfl ?_
  refine Z_iconst (v := 0) (by decide) dX1_begin_19 ?_
  refine Z_putI zfp_X1_35 rfl rfl dX1_begin_20 ?_
  refine Z_aload_n dX1_begin_23 rfl 0 rfl ?_
  refine Z_getR (s1 := 18) (i1 := i0) zfl_X1_17 rfl (fun q => by first | exact q | decide) dX1_begin_24 ?_
  refine Z_lconst (v := 0) (by decide) dX1_begin_27 ?_
  refine Z_callSV (as := [vr 18 i0, vl 0]) zRm_M zcs_X1_begin_J7_fill_d0a16_38 rfl rfl (zle rfl) dX1_begin_28 ⟨Nat.le_refl _, Nat.le_refl _⟩ h (fun M1 h => ?_)
  exact Z_vret rfl dX1_begin_31 (Nat.le_refl _) (Nat.le_refl _) ⟨rfl, h⟩
-- X3_packetsOf
set_option maxRecDepth 100000 in
set_option maxHeartbeats 4000000 in
theorem zm_X3_packetsOf {l : Launch} {G : zG} {i0 : Nat} {p1 : Int32} {M : zM} {Kf : Int32 → zM → Prop} (h : zAt l G Y_X3_packetsOf (zEI G Y_X3_packetsOf Kf) 4 [(0, vr 19 i0), (1, vi p1), (2, vi 0), (3, vi 0)] [] M 0 0) : zCalI l G Y_X3_packetsOf 0 0 [vr 19 i0, vi p1] M Kf := by
  refine zCal_of (lv := [(0, vr 19 i0), (1, vi p1)]) (by decide) rfl (zle rfl) rfl (fun hv => zlv_args (lv := [(0, vr 19 i0), (1, vi p1)]) rfl hv) ?_
  refine Z_iconst (v := 0) (by decide) dX3_packetsOf_0 ?_
  refine Z_istore_n (lv2 := [(2, vi 0), (0, vr 19 i0), (1, vi p1)]) dX3_packetsOf_1 rfl (by decide) rfl ?_
  refine Z_iconst (v := 0) (by decide) dX3_packetsOf_2 ?_
  refine Z_istore_n (lv2 := [(3, vi 0), (2, vi 0), (0, vr 19 i0), (1, vi p1)]) dX3_packetsOf_3 rfl (by decide) rfl ?_
  exact Z_pick [2, 3, 1, 0] rfl h
set_option maxRecDepth 100000 in
set_option maxHeartbeats 4000000 in
theorem zb_X3_packetsOf_4 {l : Launch} {G : zG} {i0 : Nat} {y1 : Int32} {y2 : Int32} {y3 : Int32} {M : zM} {Kf : Int32 → zM → Prop} (h : (((zmI M 19 i0 1) ≤ y3 → (Kf y2 M)) ∧ (¬ (zmI M 19 i0 1) ≤ y3 → (zCalI l G Y_X3_cell 0 0 [vr 19 i0, vi y3, vi 0] M (fun x2 M1 => ((¬ x2 = y1 → zAt l G Y_X3_packetsOf (zEI G Y_X3_packetsOf Kf) 25 [(0, vr 19 i0), (1, vi y1), (2, vi y2), (3, vi y3)] [] M1 0 0) ∧ (x2 = y1 → zAt l G Y_X3_packetsOf (zEI G Y_X3_packetsOf Kf) 25 [(0, vr 19 i0), (1, vi y1), (2, vi (y2 + 1)), (3, vi y3)] [] M1 0 0))))))) : zAt l G Y_X3_packetsOf (zEI G Y_X3_packetsOf Kf) 4 [(0, vr 19 i0), (1, vi y1), (2, vi y2), (3, vi y3)] [] M 0 0 := by
  refine Z_iload_n dX3_packetsOf_4 rfl 3 rfl ?_
  refine Z_aload_n dX3_packetsOf_5 rfl 0 rfl ?_
  refine Z_getI zfl_X3_15 dX3_packetsOf_6 ?_
  refine Z_icmp_ge (tgt := 31) dX3_packetsOf_9 (by decide) (fun q => ?_) (fun q => ?_)
  · have h := h.1 q
    refine Z_iload_n dX3_packetsOf_31 rfl 2 rfl ?_
    exact Z_iret rfl rfl dX3_packetsOf_32 (Nat.le_refl _) (Nat.le_refl _) ⟨_, rfl, h⟩
  · have h := h.2 q
    refine Z_aload_n dX3_packetsOf_12 rfl 0 rfl ?_
    refine Z_iload_n dX3_packetsOf_13 rfl 3 rfl ?_
    refine Z_iconst (v := 0) (by decide) dX3_packetsOf_14 ?_
    refine Z_callVI (as := [vi y3, vi 0]) zRm_M zcv_X3_packetsOf_X3_cell_25 (ci := 7) rfl rfl rfl rfl (zle rfl) dX3_packetsOf_15 ⟨Nat.le_refl _, Nat.le_refl _⟩ h (fun x2 M1 h => ?_)
    refine Z_iload_n dX3_packetsOf_18 rfl 1 rfl ?_
    refine Z_icmp_ne (tgt := 25) dX3_packetsOf_19 (by decide) (fun q => ?_) (fun q => ?_)
    · have h := h.1 q
      exact h
    · have h := h.2 q
      refine Z_iinc (v := (y2 + 1)) (lv2 := [(2, vi (y2 + 1)), (0, vr 19 i0), (1, vi y1), (3, vi y3)]) dX3_packetsOf_22 2 rfl rfl (by decide) rfl ?_
      exact Z_pick [1, 2, 0, 3] rfl h
set_option maxRecDepth 100000 in
set_option maxHeartbeats 4000000 in
theorem zb_X3_packetsOf_25 {l : Launch} {G : zG} {i0 : Nat} {y1 : Int32} {y2 : Int32} {y3 : Int32} {M : zM} {Kf : Int32 → zM → Prop} (h : zAt l G Y_X3_packetsOf (zEI G Y_X3_packetsOf Kf) 4 [(0, vr 19 i0), (1, vi y1), (2, vi y2), (3, vi (y3 + 1))] [] M 0 0) : zAt l G Y_X3_packetsOf (zEI G Y_X3_packetsOf Kf) 25 [(0, vr 19 i0), (1, vi y1), (2, vi y2), (3, vi y3)] [] M 0 0 := by
  refine Z_iinc (v := (y3 + 1)) (lv2 := [(3, vi (y3 + 1)), (0, vr 19 i0), (1, vi y1), (2, vi y2)]) dX3_packetsOf_25 3 rfl rfl (by decide) rfl ?_
  refine Z_goto (tgt := 4) dX3_packetsOf_28 (by decide) ?_
  exact Z_pick [1, 2, 3, 0] rfl h
-- X4_advance
set_option maxRecDepth 100000 in
set_option maxHeartbeats 4000000 in
theorem zm_X4_advance {l : Launch} {G : zG} {M : zM} {Kf : zM → Prop} (h : zAt l G Y_X4_advance (zEV G Y_X4_advance Kf) 5 [(0, vr 1 0), (1, vi (zmI M 1 0 4))] [] M 0 0) : zCalV l G Y_X4_advance 0 0 [vr 1 0] M Kf := by
  refine zCal_of (lv := [(0, vr 1 0)]) (by decide) rfl (zle rfl) rfl (fun hv => zlv_args (lv := [(0, vr 1 0)]) rfl hv) ?_
  refine Z_aload_n dX4_advance_0 rfl 0 rfl ?_
  refine Z_getI zfl_X4_25 dX4_advance_1 ?_
  refine Z_istore_n (lv2 := [(1, vi (zmI M 1 0 4)), (0, vr 1 0)]) dX4_advance_4 rfl (by decide) rfl ?_
  exact Z_pick [1, 0] rfl h
set_option maxRecDepth 100000 in
set_option maxHeartbeats 4000000 in
theorem zb_X4_advance_5 {l : Launch} {G : zG} {y1 : Int32} {M : zM} {Kf : zM → Prop} (h : (((zmI M 1 0 1) ≤ y1 → zAt l G Y_X4_advance (zEV G Y_X4_advance Kf) 30 [(0, vr 1 0), (1, vi y1)] [] M 0 0) ∧ (¬ (zmI M 1 0 1) ≤ y1 → (zCalI l G Y_X4_byteAt 0 0 [vr 1 0, vi y1] M (fun x2 M1 => (zCalI l G Y_X4_isBlank 0 0 [vi x2] M1 (fun x4 M3 => ((x4 = 0 → zAt l G Y_X4_advance (zEV G Y_X4_advance Kf) 30 [(0, vr 1 0), (1, vi y1)] [] M3 0 0) ∧ (¬ x4 = 0 → zAt l G Y_X4_advance (zEV G Y_X4_advance Kf) 5 [(0, vr 1 0), (1, vi (y1 + 1))] [] M3 0 0))))))))) : zAt l G Y_X4_advance (zEV G Y_X4_advance Kf) 5 [(0, vr 1 0), (1, vi y1)] [] M 0 0 := by
  refine Z_iload_n dX4_advance_5 rfl 1 rfl ?_
  refine Z_aload_n dX4_advance_6 rfl 0 rfl ?_
  refine Z_getI zfl_X4_19 dX4_advance_7 ?_
  refine Z_icmp_ge (tgt := 30) dX4_advance_10 (by decide) (fun q => ?_) (fun q => ?_)
  · have h := h.1 q
    exact h
  · have h := h.2 q
    refine Z_aload_n dX4_advance_13 rfl 0 rfl ?_
    refine Z_iload_n dX4_advance_14 rfl 1 rfl ?_
    refine Z_callVI (as := [vi y1]) zRm_M zcv_X4_advance_X4_byteAt_34 (ci := 8) rfl rfl rfl rfl (zle rfl) dX4_advance_15 ⟨Nat.le_refl _, Nat.le_refl _⟩ h (fun x2 M1 h => ?_)
    refine Z_callSI (as := [vi x2]) zRm_M zcs_X4_advance_X4_isBlank_38 rfl rfl (zle rfl) dX4_advance_18 ⟨Nat.le_refl _, Nat.le_refl _⟩ h (fun x4 M3 h => ?_)
    refine Z_if_eq (tgt := 30) dX4_advance_21 (by decide) (fun q => ?_) (fun q => ?_)
    · have h := h.1 q
      exact h
    · have h := h.2 q
      refine Z_iinc (v := (y1 + 1)) (lv2 := [(1, vi (y1 + 1)), (0, vr 1 0)]) dX4_advance_24 1 rfl rfl (by decide) rfl ?_
      refine Z_goto (tgt := 5) dX4_advance_27 (by decide) ?_
      exact Z_pick [1, 0] rfl h
set_option maxRecDepth 100000 in
set_option maxHeartbeats 4000000 in
theorem zb_X4_advance_30 {l : Launch} {G : zG} {y1 : Int32} {M : zM} {Kf : zM → Prop} (h : (zCalI l G Y_X4_kindAt 0 0 [vr 1 0, vi y1] (zsI M 1 0 3 y1) (fun x2 M1 => (((zmI (zsI M1 1 0 2 x2) 1 0 1) ≤ y1 → zAt l G Y_X4_advance (zEV G Y_X4_advance Kf) 55 [(0, vr 1 0), (1, vi y1)] [] (zsI M1 1 0 2 x2) 0 0) ∧ (¬ (zmI (zsI M1 1 0 2 x2) 1 0 1) ≤ y1 → zAt l G Y_X4_advance (zEV G Y_X4_advance Kf) 55 [(0, vr 1 0), (1, vi (y1 + 1))] [] (zsI M1 1 0 2 x2) 0 0))))) : zAt l G Y_X4_advance (zEV G Y_X4_advance Kf) 30 [(0, vr 1 0), (1, vi y1)] [] M 0 0 := by
  refine Z_aload_n dX4_advance_30 rfl 0 rfl ?_
  refine Z_iload_n dX4_advance_31 rfl 1 rfl ?_
  refine Z_putI zfp_X4_31 rfl rfl dX4_advance_32 ?_
  refine Z_aload_n dX4_advance_35 rfl 0 rfl ?_
  refine Z_aload_n dX4_advance_36 rfl 0 rfl ?_
  refine Z_iload_n dX4_advance_37 rfl 1 rfl ?_
  refine Z_callVI (as := [vi y1]) zRm_M zcv_X4_advance_X4_kindAt_42 (ci := 8) rfl rfl rfl rfl (zle rfl) dX4_advance_38 ⟨Nat.le_refl _, Nat.le_refl _⟩ h (fun x2 M1 h => ?_)
  refine Z_putI zfp_X4_45 rfl rfl dX4_advance_41 ?_
  refine Z_iload_n dX4_advance_44 rfl 1 rfl ?_
  refine Z_aload_n dX4_advance_45 rfl 0 rfl ?_
  refine Z_getI zfl_X4_19 dX4_advance_46 ?_
  refine Z_icmp_ge (tgt := 55) dX4_advance_49 (by decide) (fun q => ?_) (fun q => ?_)
  · have h := h.1 q
    exact h
  · have h := h.2 q
    refine Z_iinc (v := (y1 + 1)) (lv2 := [(1, vi (y1 + 1)), (0, vr 1 0)]) dX4_advance_52 1 rfl rfl (by decide) rfl ?_
    exact Z_pick [1, 0] rfl h
set_option maxRecDepth 100000 in
set_option maxHeartbeats 4000000 in
theorem zb_X4_advance_55 {l : Launch} {G : zG} {y1 : Int32} {M : zM} {Kf : zM → Prop} (h : (((zmI M 1 0 1) ≤ y1 → (Kf (zsI M 1 0 4 y1))) ∧ (¬ (zmI M 1 0 1) ≤ y1 → (((zmI M 1 0 2) = 1 → zAt l G Y_X4_advance (zEV G Y_X4_advance Kf) 79 [(0, vr 1 0), (1, vi y1)] [] M 0 0) ∧ (¬ (zmI M 1 0 2) = 1 → ((¬ (zmI M 1 0 2) = 2 → (Kf (zsI M 1 0 4 y1))) ∧ ((zmI M 1 0 2) = 2 → zAt l G Y_X4_advance (zEV G Y_X4_advance Kf) 79 [(0, vr 1 0), (1, vi y1)] [] M 0 0))))))) : zAt l G Y_X4_advance (zEV G Y_X4_advance Kf) 55 [(0, vr 1 0), (1, vi y1)] [] M 0 0 := by
  refine Z_iload_n dX4_advance_55 rfl 1 rfl ?_
  refine Z_aload_n dX4_advance_56 rfl 0 rfl ?_
  refine Z_getI zfl_X4_19 dX4_advance_57 ?_
  refine Z_icmp_ge (tgt := 97) dX4_advance_60 (by decide) (fun q => ?_) (fun q => ?_)
  · have h := h.1 q
    refine Z_aload_n dX4_advance_97 rfl 0 rfl ?_
    refine Z_iload_n dX4_advance_98 rfl 1 rfl ?_
    refine Z_putI zfp_X4_25 rfl rfl dX4_advance_99 ?_
    exact Z_vret rfl dX4_advance_102 (Nat.le_refl _) (Nat.le_refl _) ⟨rfl, h⟩
  · have h := h.2 q
    refine Z_aload_n dX4_advance_63 rfl 0 rfl ?_
    refine Z_getI zfl_X4_45 dX4_advance_64 ?_
    refine Z_iconst (v := 1) (by decide) dX4_advance_67 ?_
    refine Z_icmp_eq (tgt := 79) dX4_advance_68 (by decide) (fun q => ?_) (fun q => ?_)
    · have h := h.1 q
      exact h
    · have h := h.2 q
      refine Z_aload_n dX4_advance_71 rfl 0 rfl ?_
      refine Z_getI zfl_X4_45 dX4_advance_72 ?_
      refine Z_iconst (v := 2) (by decide) dX4_advance_75 ?_
      refine Z_icmp_ne (tgt := 97) dX4_advance_76 (by decide) (fun q => ?_) (fun q => ?_)
      · have h := h.1 q
        refine Z_aload_n dX4_advance_97 rfl 0 rfl ?_
        refine Z_iload_n dX4_advance_98 rfl 1 rfl ?_
        refine Z_putI zfp_X4_25 rfl rfl dX4_advance_99 ?_
        exact Z_vret rfl dX4_advance_102 (Nat.le_refl _) (Nat.le_refl _) ⟨rfl, h⟩
      · have h := h.2 q
        exact h
set_option maxRecDepth 100000 in
set_option maxHeartbeats 4000000 in
theorem zb_X4_advance_79 {l : Launch} {G : zG} {y1 : Int32} {M : zM} {Kf : zM → Prop} (h : (zCalI l G Y_X4_kindAt 0 0 [vr 1 0, vi y1] M (fun x2 M1 => ((¬ x2 = (zmI M1 1 0 2) → (Kf (zsI M1 1 0 4 y1))) ∧ (x2 = (zmI M1 1 0 2) → zAt l G Y_X4_advance (zEV G Y_X4_advance Kf) 55 [(0, vr 1 0), (1, vi (y1 + 1))] [] M1 0 0))))) : zAt l G Y_X4_advance (zEV G Y_X4_advance Kf) 79 [(0, vr 1 0), (1, vi y1)] [] M 0 0 := by
  refine Z_aload_n dX4_advance_79 rfl 0 rfl ?_
  refine Z_iload_n dX4_advance_80 rfl 1 rfl ?_
  refine Z_callVI (as := [vi y1]) zRm_M zcv_X4_advance_X4_kindAt_42 (ci := 8) rfl rfl rfl rfl (zle rfl) dX4_advance_81 ⟨Nat.le_refl _, Nat.le_refl _⟩ h (fun x2 M1 h => ?_)
  refine Z_aload_n dX4_advance_84 rfl 0 rfl ?_
  refine Z_getI zfl_X4_45 dX4_advance_85 ?_
  refine Z_icmp_ne (tgt := 97) dX4_advance_88 (by decide) (fun q => ?_) (fun q => ?_)
  · have h := h.1 q
    refine Z_aload_n dX4_advance_97 rfl 0 rfl ?_
    refine Z_iload_n dX4_advance_98 rfl 1 rfl ?_
    refine Z_putI zfp_X4_25 rfl rfl dX4_advance_99 ?_
    exact Z_vret rfl dX4_advance_102 (Nat.le_refl _) (Nat.le_refl _) ⟨rfl, h⟩
  · have h := h.2 q
    refine Z_iinc (v := (y1 + 1)) (lv2 := [(1, vi (y1 + 1)), (0, vr 1 0)]) dX4_advance_91 1 rfl rfl (by decide) rfl ?_
    refine Z_goto (tgt := 55) dX4_advance_94 (by decide) ?_
    exact Z_pick [1, 0] rfl h
-- X4_value
set_option maxRecDepth 100000 in
set_option maxHeartbeats 4000000 in
theorem zm_X4_value {l : Launch} {G : zG} {M : zM} {Kf : Int32 → zM → Prop} (h : ((((zmI M 1 0 4) - (zmI M 1 0 3)) ≤ 6 → zAt l G Y_X4_value (zEI G Y_X4_value Kf) 23 [(0, vr 1 0), (1, vi 0), (2, vi (zmI M 1 0 3))] [] M 0 0) ∧ (¬ ((zmI M 1 0 4) - (zmI M 1 0 3)) ≤ 6 → (Kf (-1) M)))) : zCalI l G Y_X4_value 0 0 [vr 1 0] M Kf := by
  refine zCal_of (lv := [(0, vr 1 0)]) (by decide) rfl (zle rfl) rfl (fun hv => zlv_args (lv := [(0, vr 1 0)]) rfl hv) ?_
  refine Z_aload_n dX4_value_0 rfl 0 rfl ?_
  refine Z_getI zfl_X4_25 dX4_value_1 ?_
  refine Z_aload_n dX4_value_4 rfl 0 rfl ?_
  refine Z_getI zfl_X4_31 dX4_value_5 ?_
  refine Z_isub dX4_value_8 ?_
  refine Z_bipush (v := 6) (by decide) dX4_value_9 ?_
  refine Z_icmp_le (tgt := 16) dX4_value_11 (by decide) (fun q => ?_) (fun q => ?_)
  · have h := h.1 q
    refine Z_iconst (v := 0) (by decide) dX4_value_16 ?_
    refine Z_istore_n (lv2 := [(1, vi 0), (0, vr 1 0)]) dX4_value_17 rfl (by decide) rfl ?_
    refine Z_aload_n dX4_value_18 rfl 1 rfl ?_
    refine Z_getI zfl_X4_31 dX4_value_19 ?_
    refine Z_istore_n (lv2 := [(2, vi (zmI M 1 0 3)), (1, vi 0), (0, vr 1 0)]) dX4_value_22 rfl (by decide) rfl ?_
    exact Z_pick [2, 1, 0] rfl h
  · have h := h.2 q
    refine Z_iconst (v := (-1)) (by decide) dX4_value_14 ?_
    exact Z_iret rfl rfl dX4_value_15 (Nat.le_refl _) (Nat.le_refl _) ⟨_, rfl, h⟩
set_option maxRecDepth 100000 in
set_option maxHeartbeats 4000000 in
theorem zb_X4_value_23 {l : Launch} {G : zG} {y1 : Int32} {y2 : Int32} {M : zM} {Kf : Int32 → zM → Prop} (h : (((zmI M 1 0 4) ≤ y2 → (Kf y1 M)) ∧ (¬ (zmI M 1 0 4) ≤ y2 → (zCalI l G Y_X4_byteAt 0 0 [vr 1 0, vi y2] M (fun x2 M1 => zAt l G Y_X4_value (zEI G Y_X4_value Kf) 23 [(0, vr 1 0), (1, vi (((10 * y1) + x2) - 48)), (2, vi (y2 + 1))] [] M1 0 0))))) : zAt l G Y_X4_value (zEI G Y_X4_value Kf) 23 [(0, vr 1 0), (1, vi y1), (2, vi y2)] [] M 0 0 := by
  refine Z_iload_n dX4_value_23 rfl 2 rfl ?_
  refine Z_aload_n dX4_value_24 rfl 0 rfl ?_
  refine Z_getI zfl_X4_25 dX4_value_25 ?_
  refine Z_icmp_ge (tgt := 51) dX4_value_28 (by decide) (fun q => ?_) (fun q => ?_)
  · have h := h.1 q
    refine Z_iload_n dX4_value_51 rfl 1 rfl ?_
    exact Z_iret rfl rfl dX4_value_52 (Nat.le_refl _) (Nat.le_refl _) ⟨_, rfl, h⟩
  · have h := h.2 q
    refine Z_bipush (v := 10) (by decide) dX4_value_31 ?_
    refine Z_iload_n dX4_value_33 rfl 1 rfl ?_
    refine Z_imul dX4_value_34 ?_
    refine Z_aload_n dX4_value_35 rfl 0 rfl ?_
    refine Z_iload_n dX4_value_36 rfl 2 rfl ?_
    refine Z_callVI (as := [vi y2]) zRm_M zcv_X4_value_X4_byteAt_34 (ci := 8) rfl rfl rfl rfl (zle rfl) dX4_value_37 ⟨Nat.le_refl _, Nat.le_refl _⟩ h (fun x2 M1 h => ?_)
    refine Z_iadd dX4_value_40 ?_
    refine Z_bipush (v := 48) (by decide) dX4_value_41 ?_
    refine Z_isub dX4_value_43 ?_
    refine Z_istore_n (lv2 := [(1, vi (((10 * y1) + x2) - 48)), (0, vr 1 0), (2, vi y2)]) dX4_value_44 rfl (by decide) rfl ?_
    refine Z_iinc (v := (y2 + 1)) (lv2 := [(2, vi (y2 + 1)), (1, vi (((10 * y1) + x2) - 48)), (0, vr 1 0)]) dX4_value_45 2 rfl rfl (by decide) rfl ?_
    refine Z_goto (tgt := 23) dX4_value_48 (by decide) ?_
    exact Z_pick [2, 1, 0] rfl h
-- X5_begin
set_option maxRecDepth 100000 in
set_option maxHeartbeats 4000000 in
theorem zm_X5_begin {l : Launch} {G : zG} {i0 : Nat} {M : zM} {Kf : zM → Prop} (h : (zCalV l G Y_X0_forget 0 0 [vr 21 i0] (zsI (zsI (zsI (zsI (zsI (zsI (zsI (zsI (zsI (zsI (zsI (zsI (zsI (zsI M 15 i0 0 20) 15 i0 1 1) 15 i0 2 5) 15 i0 3 15) 15 i0 4 6554) 15 i0 5 4) 15 i0 6 0) 15 i0 7 0) 15 i0 8 0) 15 i0 9 (-1)) 15 i0 10 1) 15 i0 11 1) 15 i0 12 0) 19 i0 1 0) (fun M1 => (Kf M1)))) : zCalV l G Y_X5_begin 0 0 [vr 15 i0] M Kf := by
  refine zCal_of (lv := [(0, vr 15 i0)]) (by decide) rfl (zle rfl) rfl (fun hv => zlv_args (lv := [(0, vr 15 i0)]) rfl hv) ?_
  refine Z_aload_n dX5_begin_0 rfl 0 rfl ?_
  refine Z_bipush (v := 20) (by decide) dX5_begin_1 ?_
  refine Z_putI zfp_X5_35 rfl rfl dX5_begin_3 ?_
  refine Z_aload_n dX5_begin_6 rfl 0 rfl ?_
  refine Z_iconst (v := 1) (by decide) dX5_begin_7 ?_
  refine Z_putI zfp_X5_39 rfl rfl dX5_begin_8 ?_
  refine Z_aload_n dX5_begin_11 rfl 0 rfl ?_
  refine Z_iconst (v := 5) (by decide) dX5_begin_12 ?_
  refine Z_putI zfp_X5_42 rfl rfl dX5_begin_13 ?_
  refine Z_aload_n dX5_begin_16 rfl 0 rfl ?_
  refine Z_bipush (v := 15) (by decide) dX5_begin_17 ?_
  refine Z_putI zfp_X5_45 rfl rfl dX5_begin_19 ?_
  refine Z_aload_n dX5_begin_22 rfl 0 rfl ?_
  refine Z_sipush (v := 6554) (by decide) dX5_begin_23 ?_
  refine Z_putI zfp_X5_48 rfl rfl dX5_begin_26 ?_
  refine Z_aload_n dX5_begin_29 rfl 0 rfl ?_
  refine Z_iconst (v := 4) (by decide) dX5_begin_30 ?_
  refine Z_putI zfp_X5_51 rfl rfl dX5_begin_31 ?_
  refine Z_aload_n dX5_begin_34 rfl 0 rfl ?_
  refine Z_iconst (v := 0) (by decide) dX5_begin_35 ?_
  refine Z_putI zfp_X5_54 rfl rfl dX5_begin_36 ?_
  refine Z_aload_n dX5_begin_39 rfl 0 rfl ?_
  refine Z_iconst (v := 0) (by decide) dX5_begin_40 ?_
  refine Z_putI zfp_X5_57 rfl rfl dX5_begin_41 ?_
  refine Z_aload_n dX5_begin_44 rfl 0 rfl ?_
  refine Z_iconst (v := 0) (by decide) dX5_begin_45 ?_
  refine Z_putI zfp_X5_60 rfl rfl dX5_begin_46 ?_
  refine Z_aload_n dX5_begin_49 rfl 0 rfl ?_
  refine Z_iconst (v := (-1)) (by decide) dX5_begin_50 ?_
  refine Z_putI zfp_X5_63 rfl rfl dX5_begin_51 ?_
  refine Z_aload_n dX5_begin_54 rfl 0 rfl ?_
  refine Z_iconst (v := 1) (by decide) dX5_begin_55 ?_
  refine Z_putI zfp_X5_66 rfl rfl dX5_begin_56 ?_
  refine Z_aload_n dX5_begin_59 rfl 0 rfl ?_
  refine Z_iconst (v := 1) (by decide) dX5_begin_60 ?_
  refine Z_putI zfp_X5_69 (by decide) (by decide) dX5_begin_61 ?_
  refine Z_aload_n dX5_begin_64 rfl 0 rfl ?_
  refine Z_iconst (v := 0) (by decide) dX5_begin_65 ?_
  refine Z_putI zfp_X5_73 rfl rfl dX5_begin_66 ?_
  refine Z_aload_n dX5_begin_69 rfl 0 rfl ?_
  refine Z_getR (s1 := 19) (i1 := i0) zfl_X5_20 rfl (fun q => by first | exact q | decide) dX5_begin_70 ?_
  refine Z_iconst (v := 0) (by decide) dX5_begin_73 ?_
  refine Z_putI zfp_X5_76 rfl rfl dX5_begin_74 ?_
  refine Z_aload_n dX5_begin_77 rfl 0 rfl ?_
  refine Z_getR (s1 := 21) (i1 := i0) zfl_X5_27 rfl (fun q => by first | exact q | decide) dX5_begin_78 ?_
  refine Z_callVV (as := []) zRm_M zcv_X5_begin_X0_forget_79 (ci := 4) rfl rfl rfl rfl (zle rfl) dX5_begin_81 ⟨Nat.le_refl _, Nat.le_refl _⟩ h (fun M1 h => ?_)
  exact Z_vret rfl dX5_begin_84 (Nat.le_refl _) (Nat.le_refl _) ⟨rfl, h⟩
-- X5_changeOn
set_option maxRecDepth 100000 in
set_option maxHeartbeats 4000000 in
theorem zm_X5_changeOn {l : Launch} {G : zG} {i0 : Nat} {p1 : Int32} {p2 : Int32} {M : zM} {Kf : Int32 → zM → Prop} (h : (zCalI l G Y_X5_hasFlow 0 0 [vr 15 i0, vi p1] M (fun x2 M1 => ((x2 = 0 → (Kf (-3) M1)) ∧ (¬ x2 = 0 → (vp_in p1 6 ∧ ((¬ (zmI M1 17 (6 * i0 + p1.toNatClampNeg) 6) = p2 → (vp_in p1 6 ∧ (zbit p2 ∧ (zCalI l G Y_X5_flowsOn 0 0 [vr 15 i0] (zsI M1 17 (6 * i0 + p1.toNatClampNeg) 6 p2) (fun x7 M6 => (Kf x7 M6)))))) ∧ ((zmI M1 17 (6 * i0 + p1.toNatClampNeg) 6) = p2 → (Kf (-3) M1))))))))) : zCalI l G Y_X5_changeOn 0 0 [vr 15 i0, vi p1, vi p2] M Kf := by
  refine zCal_of (lv := [(0, vr 15 i0), (1, vi p1), (2, vi p2)]) (by decide) rfl (zle rfl) rfl (fun hv => zlv_args (lv := [(0, vr 15 i0), (1, vi p1), (2, vi p2)]) rfl hv) ?_
  refine Z_aload_n dX5_changeOn_0 rfl 0 rfl ?_
  refine Z_iload_n dX5_changeOn_1 rfl 1 rfl ?_
  refine Z_callVI (as := [vi p1]) zRm_M zcv_X5_changeOn_X5_hasFlow_95 (ci := 9) rfl rfl rfl rfl (zle rfl) dX5_changeOn_2 ⟨Nat.le_refl _, Nat.le_refl _⟩ h (fun x2 M1 h => ?_)
  refine Z_if_eq (tgt := 21) dX5_changeOn_5 (by decide) (fun q => ?_) (fun q => ?_)
  · have h := h.1 q
    refine Z_bipush (v := (-3)) (by decide) dX5_changeOn_21 ?_
    exact Z_iret rfl rfl dX5_changeOn_23 (Nat.le_refl _) (Nat.le_refl _) ⟨_, rfl, h⟩
  · have h := h.2 q
    refine Z_aload_n dX5_changeOn_8 rfl 0 rfl ?_
    refine Z_getR (s1 := 16) (i1 := i0) zfl_X5_11 rfl (fun q => by first | exact q | decide) dX5_changeOn_9 ?_
    refine Z_iload_n dX5_changeOn_12 rfl 1 rfl ?_
    obtain ⟨g3, h⟩ := h
    refine Z_aald (s1 := 17) (i1 := (6 * i0 + p1.toNatClampNeg)) (n := 6) (t := 6) rfl (by decide) g3 rfl (fun z => zref_ok_16 g3 z) dX5_changeOn_13 ?_
    refine Z_getI zfl_X5_92 dX5_changeOn_14 ?_
    refine Z_iload_n dX5_changeOn_17 rfl 2 rfl ?_
    refine Z_icmp_ne (tgt := 24) dX5_changeOn_18 (by decide) (fun q => ?_) (fun q => ?_)
    · have h := h.1 q
      refine Z_aload_n dX5_changeOn_24 rfl 0 rfl ?_
      refine Z_getR (s1 := 16) (i1 := i0) zfl_X5_11 rfl (fun q => by first | exact q | decide) dX5_changeOn_25 ?_
      refine Z_iload_n dX5_changeOn_28 rfl 1 rfl ?_
      obtain ⟨g4, h⟩ := h
      refine Z_aald (s1 := 17) (i1 := (6 * i0 + p1.toNatClampNeg)) (n := 6) (t := 6) rfl (by decide) g4 rfl (fun z => zref_ok_16 g4 z) dX5_changeOn_29 ?_
      refine Z_iload_n dX5_changeOn_30 rfl 2 rfl ?_
      obtain ⟨g5, h⟩ := h
      refine Z_putI zfp_X5_92 (zbit_n g5) (zbit_f g5) dX5_changeOn_31 ?_
      refine Z_aload_n dX5_changeOn_34 rfl 0 rfl ?_
      refine Z_callVI (as := []) zRm_M zcv_X5_changeOn_X5_flowsOn_186 (ci := 9) rfl rfl rfl rfl (zle rfl) dX5_changeOn_35 ⟨Nat.le_refl _, Nat.le_refl _⟩ h (fun x7 M6 h => ?_)
      exact Z_iret rfl rfl dX5_changeOn_38 (Nat.le_refl _) (Nat.le_refl _) ⟨_, rfl, h⟩
    · have h := h.2 q
      refine Z_bipush (v := (-3)) (by decide) dX5_changeOn_21 ?_
      exact Z_iret rfl rfl dX5_changeOn_23 (Nat.le_refl _) (Nat.le_refl _) ⟨_, rfl, h⟩
-- X5_dropped
set_option maxRecDepth 100000 in
set_option maxHeartbeats 4000000 in
theorem zm_X5_dropped {l : Launch} {G : zG} {i0 : Nat} {M : zM} {Kf : Int64 → zM → Prop} (h : zAt l G Y_X5_dropped (zEL G Y_X5_dropped Kf) 4 [(0, vr 15 i0), (1, vl 0), (3, vi 0)] [] M 0 0) : zCalL l G Y_X5_dropped 0 0 [vr 15 i0] M Kf := by
  refine zCal_of (lv := [(0, vr 15 i0)]) (by decide) rfl (zle rfl) rfl (fun hv => zlv_args (lv := [(0, vr 15 i0)]) rfl hv) ?_
  refine Z_lconst (v := 0) (by decide) dX5_dropped_0 ?_
  refine Z_lstore_n (lv2 := [(1, vl 0), (0, vr 15 i0)]) dX5_dropped_1 rfl (by decide) rfl ?_
  refine Z_iconst (v := 0) (by decide) dX5_dropped_2 ?_
  refine Z_istore_n (lv2 := [(3, vi 0), (1, vl 0), (0, vr 15 i0)]) dX5_dropped_3 rfl (by decide) rfl ?_
  exact Z_pick [2, 1, 0] rfl h
set_option maxRecDepth 100000 in
set_option maxHeartbeats 4000000 in
theorem zb_X5_dropped_4 {l : Launch} {G : zG} {i0 : Nat} {y1 : Int64} {y3 : Int32} {M : zM} {Kf : Int64 → zM → Prop} (h : (((zmI M 15 i0 12) ≤ y3 → (Kf y1 M)) ∧ (¬ (zmI M 15 i0 12) ≤ y3 → ((6 ≤ y3 → (Kf y1 M)) ∧ (¬ 6 ≤ y3 → (vp_in y3 6 ∧ (zCalL l G Y_X1_drops 0 0 [vr 17 (6 * i0 + y3.toNatClampNeg)] M (fun x3 M2 => zAt l G Y_X5_dropped (zEL G Y_X5_dropped Kf) 4 [(0, vr 15 i0), (1, vl (y1 + x3)), (3, vi (y3 + 1))] [] M2 0 0)))))))) : zAt l G Y_X5_dropped (zEL G Y_X5_dropped Kf) 4 [(0, vr 15 i0), (1, vl y1), (3, vi y3)] [] M 0 0 := by
  refine Z_iload_n dX5_dropped_4 rfl 2 rfl ?_
  refine Z_aload_n dX5_dropped_5 rfl 0 rfl ?_
  refine Z_getI zfl_X5_73 dX5_dropped_6 ?_
  refine Z_icmp_ge (tgt := 36) dX5_dropped_9 (by decide) (fun q => ?_) (fun q => ?_)
  · have h := h.1 q
    refine Z_lload_n dX5_dropped_36 rfl 1 rfl ?_
    exact Z_lret rfl dX5_dropped_37 (Nat.le_refl _) (Nat.le_refl _) ⟨_, rfl, h⟩
  · have h := h.2 q
    refine Z_iload_n dX5_dropped_12 rfl 2 rfl ?_
    refine Z_bipush (v := 6) (by decide) dX5_dropped_13 ?_
    refine Z_icmp_ge (tgt := 36) dX5_dropped_15 (by decide) (fun q => ?_) (fun q => ?_)
    · have h := h.1 q
      refine Z_lload_n dX5_dropped_36 rfl 1 rfl ?_
      exact Z_lret rfl dX5_dropped_37 (Nat.le_refl _) (Nat.le_refl _) ⟨_, rfl, h⟩
    · have h := h.2 q
      refine Z_lload_n dX5_dropped_18 rfl 1 rfl ?_
      refine Z_aload_n dX5_dropped_19 rfl 0 rfl ?_
      refine Z_getR (s1 := 16) (i1 := i0) zfl_X5_11 rfl (fun q => by first | exact q | decide) dX5_dropped_20 ?_
      refine Z_iload_n dX5_dropped_23 rfl 2 rfl ?_
      obtain ⟨g1, h⟩ := h
      refine Z_aald (s1 := 17) (i1 := (6 * i0 + y3.toNatClampNeg)) (n := 6) (t := 6) rfl (by decide) g1 rfl (fun z => zref_ok_16 g1 z) dX5_dropped_24 ?_
      refine Z_callVL (as := []) zRm_M zcv_X5_dropped_X1_drops_103 (ci := 5) rfl rfl rfl rfl (zle rfl) dX5_dropped_25 ⟨Nat.le_refl _, Nat.le_refl _⟩ h (fun x3 M2 h => ?_)
      refine Z_ladd dX5_dropped_28 ?_
      refine Z_lstore_n (lv2 := [(1, vl (y1 + x3)), (0, vr 15 i0), (3, vi y3)]) dX5_dropped_29 rfl (by decide) rfl ?_
      refine Z_iinc (v := (y3 + 1)) (lv2 := [(3, vi (y3 + 1)), (1, vl (y1 + x3)), (0, vr 15 i0)]) dX5_dropped_30 2 rfl rfl (by decide) rfl ?_
      refine Z_goto (tgt := 4) dX5_dropped_33 (by decide) ?_
      exact Z_pick [2, 1, 0] rfl h
-- X5_total
set_option maxRecDepth 100000 in
set_option maxHeartbeats 4000000 in
theorem zm_X5_total {l : Launch} {G : zG} {i0 : Nat} {p1 : Int32} {p2 : Int32} {M : zM} {Kf : Int64 → zM → Prop} (h : ((p2 < 0 → (Kf 0 M)) ∧ (¬ p2 < 0 → ((p2 < 8 → (zCalI l G Y_X5_hasFlow 0 0 [vr 15 i0, vi p1] M (fun x2 M1 => ((x2 = 0 → zAt l G Y_X5_total (zEL G Y_X5_total Kf) 37 [(0, vr 15 i0), (2, vi p2), (3, vl 0), (5, vi 0)] [] M1 0 0) ∧ (¬ x2 = 0 → (vp_in p1 6 ∧ (vp_in p2 8 ∧ (Kf (zmL M1 18 (6 * i0 + p1.toNatClampNeg) p2.toNatClampNeg) M1)))))))) ∧ (¬ p2 < 8 → (Kf 0 M)))))) : zCalL l G Y_X5_total 0 0 [vr 15 i0, vi p1, vi p2] M Kf := by
  refine zCal_of (lv := [(0, vr 15 i0), (1, vi p1), (2, vi p2)]) (by decide) rfl (zle rfl) rfl (fun hv => zlv_args (lv := [(0, vr 15 i0), (1, vi p1), (2, vi p2)]) rfl hv) ?_
  refine Z_iload_n dX5_total_0 rfl 2 rfl ?_
  refine Z_if_lt (tgt := 10) dX5_total_1 (by decide) (fun q => ?_) (fun q => ?_)
  · have h := h.1 q
    refine Z_lconst (v := 0) (by decide) dX5_total_10 ?_
    exact Z_lret rfl dX5_total_11 (Nat.le_refl _) (Nat.le_refl _) ⟨_, rfl, h⟩
  · have h := h.2 q
    refine Z_iload_n dX5_total_4 rfl 2 rfl ?_
    refine Z_bipush (v := 8) (by decide) dX5_total_5 ?_
    refine Z_icmp_lt (tgt := 12) dX5_total_7 (by decide) (fun q => ?_) (fun q => ?_)
    · have h := h.1 q
      refine Z_aload_n dX5_total_12 rfl 0 rfl ?_
      refine Z_iload_n dX5_total_13 rfl 1 rfl ?_
      refine Z_callVI (as := [vi p1]) zRm_M zcv_X5_total_X5_hasFlow_95 (ci := 9) rfl rfl rfl rfl (zle rfl) dX5_total_14 ⟨Nat.le_refl _, Nat.le_refl _⟩ h (fun x2 M1 h => ?_)
      refine Z_if_eq (tgt := 32) dX5_total_17 (by decide) (fun q => ?_) (fun q => ?_)
      · have h := h.1 q
        refine Z_lconst (v := 0) (by decide) dX5_total_32 ?_
        refine Z_lstore_n (lv2 := [(3, vl 0), (0, vr 15 i0), (1, vi p1), (2, vi p2)]) dX5_total_33 rfl (by decide) rfl ?_
        refine Z_iconst (v := 0) (by decide) dX5_total_34 ?_
        refine Z_istore (lv2 := [(5, vi 0), (3, vl 0), (0, vr 15 i0), (1, vi p1), (2, vi p2)]) dX5_total_35 (by decide) rfl ?_
        exact Z_pick [2, 4, 1, 0] rfl h
      · have h := h.2 q
        refine Z_aload_n dX5_total_20 rfl 0 rfl ?_
        refine Z_getR (s1 := 16) (i1 := i0) zfl_X5_11 rfl (fun q => by first | exact q | decide) dX5_total_21 ?_
        refine Z_iload_n dX5_total_24 rfl 1 rfl ?_
        obtain ⟨g3, h⟩ := h
        refine Z_aald (s1 := 17) (i1 := (6 * i0 + p1.toNatClampNeg)) (n := 6) (t := 6) rfl (by decide) g3 rfl (fun z => zref_ok_16 g3 z) dX5_total_25 ?_
        refine Z_getR (s1 := 18) (i1 := (6 * i0 + p1.toNatClampNeg)) zfl_X5_99 rfl (fun q => by first | exact q | decide) dX5_total_26 ?_
        refine Z_iload_n dX5_total_29 rfl 2 rfl ?_
        obtain ⟨g4, h⟩ := h
        refine Z_lald (n := 8) rfl g4 dX5_total_30 ?_
        exact Z_lret rfl dX5_total_31 (Nat.le_refl _) (Nat.le_refl _) ⟨_, rfl, h⟩
    · have h := h.2 q
      refine Z_lconst (v := 0) (by decide) dX5_total_10 ?_
      exact Z_lret rfl dX5_total_11 (Nat.le_refl _) (Nat.le_refl _) ⟨_, rfl, h⟩
set_option maxRecDepth 100000 in
set_option maxHeartbeats 4000000 in
theorem zb_X5_total_37 {l : Launch} {G : zG} {i0 : Nat} {y2 : Int32} {y3 : Int64} {y5 : Int32} {M : zM} {Kf : Int64 → zM → Prop} (h : (((zmI M 15 i0 12) ≤ y5 → (Kf y3 M)) ∧ (¬ (zmI M 15 i0 12) ≤ y5 → ((6 ≤ y5 → (Kf y3 M)) ∧ (¬ 6 ≤ y5 → (vp_in y5 6 ∧ (vp_in y2 8 ∧ zAt l G Y_X5_total (zEL G Y_X5_total Kf) 37 [(0, vr 15 i0), (2, vi y2), (3, vl (y3 + (zmL M 18 (6 * i0 + y5.toNatClampNeg) y2.toNatClampNeg))), (5, vi (y5 + 1))] [] M 0 0))))))) : zAt l G Y_X5_total (zEL G Y_X5_total Kf) 37 [(0, vr 15 i0), (2, vi y2), (3, vl y3), (5, vi y5)] [] M 0 0 := by
  refine Z_iload dX5_total_37 3 rfl ?_
  refine Z_aload_n dX5_total_39 rfl 0 rfl ?_
  refine Z_getI zfl_X5_73 dX5_total_40 ?_
  refine Z_icmp_ge (tgt := 74) dX5_total_43 (by decide) (fun q => ?_) (fun q => ?_)
  · have h := h.1 q
    refine Z_lload_n dX5_total_74 rfl 2 rfl ?_
    exact Z_lret rfl dX5_total_75 (Nat.le_refl _) (Nat.le_refl _) ⟨_, rfl, h⟩
  · have h := h.2 q
    refine Z_iload dX5_total_46 3 rfl ?_
    refine Z_bipush (v := 6) (by decide) dX5_total_48 ?_
    refine Z_icmp_ge (tgt := 74) dX5_total_50 (by decide) (fun q => ?_) (fun q => ?_)
    · have h := h.1 q
      refine Z_lload_n dX5_total_74 rfl 2 rfl ?_
      exact Z_lret rfl dX5_total_75 (Nat.le_refl _) (Nat.le_refl _) ⟨_, rfl, h⟩
    · have h := h.2 q
      refine Z_lload_n dX5_total_53 rfl 2 rfl ?_
      refine Z_aload_n dX5_total_54 rfl 0 rfl ?_
      refine Z_getR (s1 := 16) (i1 := i0) zfl_X5_11 rfl (fun q => by first | exact q | decide) dX5_total_55 ?_
      refine Z_iload dX5_total_58 3 rfl ?_
      obtain ⟨g1, h⟩ := h
      refine Z_aald (s1 := 17) (i1 := (6 * i0 + y5.toNatClampNeg)) (n := 6) (t := 6) rfl (by decide) g1 rfl (fun z => zref_ok_16 g1 z) dX5_total_60 ?_
      refine Z_getR (s1 := 18) (i1 := (6 * i0 + y5.toNatClampNeg)) zfl_X5_99 rfl (fun q => by first | exact q | decide) dX5_total_61 ?_
      refine Z_iload_n dX5_total_64 rfl 1 rfl ?_
      obtain ⟨g2, h⟩ := h
      refine Z_lald (n := 8) rfl g2 dX5_total_65 ?_
      refine Z_ladd dX5_total_66 ?_
      refine Z_lstore_n (lv2 := [(3, vl (y3 + (zmL M 18 (6 * i0 + y5.toNatClampNeg) y2.toNatClampNeg))), (0, vr 15 i0), (2, vi y2), (5, vi y5)]) dX5_total_67 rfl (by decide) rfl ?_
      refine Z_iinc (v := (y5 + 1)) (lv2 := [(5, vi (y5 + 1)), (3, vl (y3 + (zmL M 18 (6 * i0 + y5.toNatClampNeg) y2.toNatClampNeg))), (0, vr 15 i0), (2, vi y2)]) dX5_total_68 3 rfl rfl (by decide) rfl ?_
      refine Z_goto (tgt := 37) dX5_total_71 (by decide) ?_
      exact Z_pick [2, 3, 1, 0] rfl h
-- X0_copyFrom
set_option maxRecDepth 100000 in
set_option maxHeartbeats 4000000 in
theorem zm_X0_copyFrom {l : Launch} {G : zG} {i0 : Nat} {p1 : Nat} {M : zM} {Kf : zM → Prop} (h : (zcp (0 : Int32) (0 : Int32) (192 : Int32) 192 192 ∧ (Kf (zsIr (zsI (zsI M 21 i0 1 (zmI M 21 p1 1)) 21 i0 2 (zmI (zsI M 21 i0 1 (zmI M 21 p1 1)) 21 p1 2)) 22 i0 (va_cpy (zmI (zsI (zsI M 21 i0 1 (zmI M 21 p1 1)) 21 i0 2 (zmI (zsI M 21 i0 1 (zmI M 21 p1 1)) 21 p1 2)) 22 p1) (zmI (zsI (zsI M 21 i0 1 (zmI M 21 p1 1)) 21 i0 2 (zmI (zsI M 21 i0 1 (zmI M 21 p1 1)) 21 p1 2)) 22 i0) (0 : Int32).toNatClampNeg (0 : Int32).toNatClampNeg (192 : Int32).toNatClampNeg))))) : zCalV l G Y_X0_copyFrom 0 0 [vr 21 i0, vr 21 p1] M Kf := by
  refine zCal_of (lv := [(0, vr 21 i0), (1, vr 21 p1)]) (by decide) rfl (zle rfl) rfl (fun hv => zlv_args (lv := [(0, vr 21 i0), (1, vr 21 p1)]) rfl hv) ?_
  refine Z_aload_n dX0_copyFrom_0 rfl 0 rfl ?_
  refine Z_aload_n dX0_copyFrom_1 rfl 1 rfl ?_
  refine Z_getI zfl_X0_15 dX0_copyFrom_2 ?_
  refine Z_putI zfp_X0_15 rfl rfl dX0_copyFrom_5 ?_
  refine Z_aload_n dX0_copyFrom_8 rfl 0 rfl ?_
  refine Z_aload_n dX0_copyFrom_9 rfl 1 rfl ?_
  refine Z_getI zfl_X0_19 dX0_copyFrom_10 ?_
  refine Z_putI zfp_X0_19 rfl rfl dX0_copyFrom_13 ?_
  refine Z_aload_n dX0_copyFrom_16 rfl 1 rfl ?_
  refine Z_getR (s1 := 22) (i1 := p1) zfl_X0_11 rfl (fun q => by first | exact q | decide) dX0_copyFrom_17 ?_
  refine Z_iconst (v := 0) (by decide) dX0_copyFrom_20 ?_
  refine Z_aload_n dX0_copyFrom_21 rfl 0 rfl ?_
  refine Z_getR (s1 := 22) (i1 := i0) zfl_X0_11 rfl (fun q => by first | exact q | decide) dX0_copyFrom_22 ?_
  refine Z_iconst (v := 0) (by decide) dX0_copyFrom_25 ?_
  refine Z_aload_n dX0_copyFrom_26 rfl 0 rfl ?_
  refine Z_getR (s1 := 22) (i1 := i0) zfl_X0_11 rfl (fun q => by first | exact q | decide) dX0_copyFrom_27 ?_
  refine Z_alen (n := 192) (v := 192) rfl (by decide) (by decide) dX0_copyFrom_30 ?_
  obtain ⟨g1, h⟩ := h
  refine Z_copyI zw_737 zw_727 zw_726 zw_128 (n0 := 192) (n1 := 192) rfl rfl g1 zRm_M (by decide) (zle rfl) dX0_copyFrom_31 ?_
  exact Z_vret rfl dX0_copyFrom_34 (Nat.le_refl _) (Nat.le_refl _) ⟨rfl, h⟩
-- X1_copyFrom
set_option maxRecDepth 100000 in
set_option maxHeartbeats 4000000 in
theorem zm_X1_copyFrom {l : Launch} {G : zG} {i0 : Nat} {p1 : Nat} {M : zM} {Kf : zM → Prop} (h : (zbit (zmI (zsI (zsI (zsI (zsI (zsN M 17 i0 0 (zmN M 17 p1 0)) 17 i0 1 (zmI (zsN M 17 i0 0 (zmN M 17 p1 0)) 17 p1 1)) 17 i0 2 (zmI (zsI (zsN M 17 i0 0 (zmN M 17 p1 0)) 17 i0 1 (zmI (zsN M 17 i0 0 (zmN M 17 p1 0)) 17 p1 1)) 17 p1 2)) 17 i0 3 (zmI (zsI (zsI (zsN M 17 i0 0 (zmN M 17 p1 0)) 17 i0 1 (zmI (zsN M 17 i0 0 (zmN M 17 p1 0)) 17 p1 1)) 17 i0 2 (zmI (zsI (zsN M 17 i0 0 (zmN M 17 p1 0)) 17 i0 1 (zmI (zsN M 17 i0 0 (zmN M 17 p1 0)) 17 p1 1)) 17 p1 2)) 17 p1 3)) 17 i0 4 (zmI (zsI (zsI (zsI (zsN M 17 i0 0 (zmN M 17 p1 0)) 17 i0 1 (zmI (zsN M 17 i0 0 (zmN M 17 p1 0)) 17 p1 1)) 17 i0 2 (zmI (zsI (zsN M 17 i0 0 (zmN M 17 p1 0)) 17 i0 1 (zmI (zsN M 17 i0 0 (zmN M 17 p1 0)) 17 p1 1)) 17 p1 2)) 17 i0 3 (zmI (zsI (zsI (zsN M 17 i0 0 (zmN M 17 p1 0)) 17 i0 1 (zmI (zsN M 17 i0 0 (zmN M 17 p1 0)) 17 p1 1)) 17 i0 2 (zmI (zsI (zsN M 17 i0 0 (zmN M 17 p1 0)) 17 i0 1 (zmI (zsN M 17 i0 0 (zmN M 17 p1 0)) 17 p1 1)) 17 p1 2)) 17 p1 3)) 17 p1 4)) 17 p1 5) ∧ (zbit (zmI (zsI (zsI (zsI (zsI (zsI (zsN M 17 i0 0 (zmN M 17 p1 0)) 17 i0 1 (zmI (zsN M 17 i0 0 (zmN M 17 p1 0)) 17 p1 1)) 17 i0 2 (zmI (zsI (zsN M 17 i0 0 (zmN M 17 p1 0)) 17 i0 1 (zmI (zsN M 17 i0 0 (zmN M 17 p1 0)) 17 p1 1)) 17 p1 2)) 17 i0 3 (zmI (zsI (zsI (zsN M 17 i0 0 (zmN M 17 p1 0)) 17 i0 1 (zmI (zsN M 17 i0 0 (zmN M 17 p1 0)) 17 p1 1)) 17 i0 2 (zmI (zsI (zsN M 17 i0 0 (zmN M 17 p1 0)) 17 i0 1 (zmI (zsN M 17 i0 0 (zmN M 17 p1 0)) 17 p1 1)) 17 p1 2)) 17 p1 3)) 17 i0 4 (zmI (zsI (zsI (zsI (zsN M 17 i0 0 (zmN M 17 p1 0)) 17 i0 1 (zmI (zsN M 17 i0 0 (zmN M 17 p1 0)) 17 p1 1)) 17 i0 2 (zmI (zsI (zsN M 17 i0 0 (zmN M 17 p1 0)) 17 i0 1 (zmI (zsN M 17 i0 0 (zmN M 17 p1 0)) 17 p1 1)) 17 p1 2)) 17 i0 3 (zmI (zsI (zsI (zsN M 17 i0 0 (zmN M 17 p1 0)) 17 i0 1 (zmI (zsN M 17 i0 0 (zmN M 17 p1 0)) 17 p1 1)) 17 i0 2 (zmI (zsI (zsN M 17 i0 0 (zmN M 17 p1 0)) 17 i0 1 (zmI (zsN M 17 i0 0 (zmN M 17 p1 0)) 17 p1 1)) 17 p1 2)) 17 p1 3)) 17 p1 4)) 17 i0 5 (zmI (zsI (zsI (zsI (zsI (zsN M 17 i0 0 (zmN M 17 p1 0)) 17 i0 1 (zmI (zsN M 17 i0 0 (zmN M 17 p1 0)) 17 p1 1)) 17 i0 2 (zmI (zsI (zsN M 17 i0 0 (zmN M 17 p1 0)) 17 i0 1 (zmI (zsN M 17 i0 0 (zmN M 17 p1 0)) 17 p1 1)) 17 p1 2)) 17 i0 3 (zmI (zsI (zsI (zsN M 17 i0 0 (zmN M 17 p1 0)) 17 i0 1 (zmI (zsN M 17 i0 0 (zmN M 17 p1 0)) 17 p1 1)) 17 i0 2 (zmI (zsI (zsN M 17 i0 0 (zmN M 17 p1 0)) 17 i0 1 (zmI (zsN M 17 i0 0 (zmN M 17 p1 0)) 17 p1 1)) 17 p1 2)) 17 p1 3)) 17 i0 4 (zmI (zsI (zsI (zsI (zsN M 17 i0 0 (zmN M 17 p1 0)) 17 i0 1 (zmI (zsN M 17 i0 0 (zmN M 17 p1 0)) 17 p1 1)) 17 i0 2 (zmI (zsI (zsN M 17 i0 0 (zmN M 17 p1 0)) 17 i0 1 (zmI (zsN M 17 i0 0 (zmN M 17 p1 0)) 17 p1 1)) 17 p1 2)) 17 i0 3 (zmI (zsI (zsI (zsN M 17 i0 0 (zmN M 17 p1 0)) 17 i0 1 (zmI (zsN M 17 i0 0 (zmN M 17 p1 0)) 17 p1 1)) 17 i0 2 (zmI (zsI (zsN M 17 i0 0 (zmN M 17 p1 0)) 17 i0 1 (zmI (zsN M 17 i0 0 (zmN M 17 p1 0)) 17 p1 1)) 17 p1 2)) 17 p1 3)) 17 p1 4)) 17 p1 5)) 17 p1 6) ∧ (zbit (zmI (zsI (zsI (zsI (zsI (zsI (zsI (zsI (zsN M 17 i0 0 (zmN M 17 p1 0)) 17 i0 1 (zmI (zsN M 17 i0 0 (zmN M 17 p1 0)) 17 p1 1)) 17 i0 2 (zmI (zsI (zsN M 17 i0 0 (zmN M 17 p1 0)) 17 i0 1 (zmI (zsN M 17 i0 0 (zmN M 17 p1 0)) 17 p1 1)) 17 p1 2)) 17 i0 3 (zmI (zsI (zsI (zsN M 17 i0 0 (zmN M 17 p1 0)) 17 i0 1 (zmI (zsN M 17 i0 0 (zmN M 17 p1 0)) 17 p1 1)) 17 i0 2 (zmI (zsI (zsN M 17 i0 0 (zmN M 17 p1 0)) 17 i0 1 (zmI (zsN M 17 i0 0 (zmN M 17 p1 0)) 17 p1 1)) 17 p1 2)) 17 p1 3)) 17 i0 4 (zmI (zsI (zsI (zsI (zsN M 17 i0 0 (zmN M 17 p1 0)) 17 i0 1 (zmI (zsN M 17 i0 0 (zmN M 17 p1 0)) 17 p1 1)) 17 i0 2 (zmI (zsI (zsN M 17 i0 0 (zmN M 17 p1 0)) 17 i0 1 (zmI (zsN M 17 i0 0 (zmN M 17 p1 0)) 17 p1 1)) 17 p1 2)) 17 i0 3 (zmI (zsI (zsI (zsN M 17 i0 0 (zmN M 17 p1 0)) 17 i0 1 (zmI (zsN M 17 i0 0 (zmN M 17 p1 0)) 17 p1 1)) 17 i0 2 (zmI (zsI (zsN M 17 i0 0 (zmN M 17 p1 0)) 17 i0 1 (zmI (zsN M 17 i0 0 (zmN M 17 p1 0)) 17 p1 1)) 17 p1 2)) 17 p1 3)) 17 p1 4)) 17 i0 5 (zmI (zsI (zsI (zsI (zsI (zsN M 17 i0 0 (zmN M 17 p1 0)) 17 i0 1 (zmI (zsN M 17 i0 0 (zmN M 17 p1 0)) 17 p1 1)) 17 i0 2 (zmI (zsI (zsN M 17 i0 0 (zmN M 17 p1 0)) 17 i0 1 (zmI (zsN M 17 i0 0 (zmN M 17 p1 0)) 17 p1 1)) 17 p1 2)) 17 i0 3 (zmI (zsI (zsI (zsN M 17 i0 0 (zmN M 17 p1 0)) 17 i0 1 (zmI (zsN M 17 i0 0 (zmN M 17 p1 0)) 17 p1 1)) 17 i0 2 (zmI (zsI (zsN M 17 i0 0 (zmN M 17 p1 0)) 17 i0 1 (zmI (zsN M 17 i0 0 (zmN M 17 p1 0)) 17 p1 1)) 17 p1 2)) 17 p1 3)) 17 i0 4 (zmI (zsI (zsI (zsI (zsN M 17 i0 0 (zmN M 17 p1 0)) 17 i0 1 (zmI (zsN M 17 i0 0 (zmN M 17 p1 0)) 17 p1 1)) 17 i0 2 (zmI (zsI (zsN M 17 i0 0 (zmN M 17 p1 0)) 17 i0 1 (zmI (zsN M 17 i0 0 (zmN M 17 p1 0)) 17 p1 1)) 17 p1 2)) 17 i0 3 (zmI (zsI (zsI (zsN M 17 i0 0 (zmN M 17 p1 0)) 17 i0 1 (zmI (zsN M 17 i0 0 (zmN M 17 p1 0)) 17 p1 1)) 17 i0 2 (zmI (zsI (zsN M 17 i0 0 (zmN M 17 p1 0)) 17 i0 1 (zmI (zsN M 17 i0 0 (zmN M 17 p1 0)) 17 p1 1)) 17 p1 2)) 17 p1 3)) 17 p1 4)) 17 p1 5)) 17 i0 6 (zmI (zsI (zsI (zsI (zsI (zsI (zsN M 17 i0 0 (zmN M 17 p1 0)) 17 i0 1 (zmI (zsN M 17 i0 0 (zmN M 17 p1 0)) 17 p1 1)) 17 i0 2 (zmI (zsI (zsN M 17 i0 0 (zmN M 17 p1 0)) 17 i0 1 (zmI (zsN M 17 i0 0 (zmN M 17 p1 0)) 17 p1 1)) 17 p1 2)) 17 i0 3 (zmI (zsI (zsI (zsN M 17 i0 0 (zmN M 17 p1 0)) 17 i0 1 (zmI (zsN M 17 i0 0 (zmN M 17 p1 0)) 17 p1 1)) 17 i0 2 (zmI (zsI (zsN M 17 i0 0 (zmN M 17 p1 0)) 17 i0 1 (zmI (zsN M 17 i0 0 (zmN M 17 p1 0)) 17 p1 1)) 17 p1 2)) 17 p1 3)) 17 i0 4 (zmI (zsI (zsI (zsI (zsN M 17 i0 0 (zmN M 17 p1 0)) 17 i0 1 (zmI (zsN M 17 i0 0 (zmN M 17 p1 0)) 17 p1 1)) 17 i0 2 (zmI (zsI (zsN M 17 i0 0 (zmN M 17 p1 0)) 17 i0 1 (zmI (zsN M 17 i0 0 (zmN M 17 p1 0)) 17 p1 1)) 17 p1 2)) 17 i0 3 (zmI (zsI (zsI (zsN M 17 i0 0 (zmN M 17 p1 0)) 17 i0 1 (zmI (zsN M 17 i0 0 (zmN M 17 p1 0)) 17 p1 1)) 17 i0 2 (zmI (zsI (zsN M 17 i0 0 (zmN M 17 p1 0)) 17 i0 1 (zmI (zsN M 17 i0 0 (zmN M 17 p1 0)) 17 p1 1)) 17 p1 2)) 17 p1 3)) 17 p1 4)) 17 i0 5 (zmI (zsI (zsI (zsI (zsI (zsN M 17 i0 0 (zmN M 17 p1 0)) 17 i0 1 (zmI (zsN M 17 i0 0 (zmN M 17 p1 0)) 17 p1 1)) 17 i0 2 (zmI (zsI (zsN M 17 i0 0 (zmN M 17 p1 0)) 17 i0 1 (zmI (zsN M 17 i0 0 (zmN M 17 p1 0)) 17 p1 1)) 17 p1 2)) 17 i0 3 (zmI (zsI (zsI (zsN M 17 i0 0 (zmN M 17 p1 0)) 17 i0 1 (zmI (zsN M 17 i0 0 (zmN M 17 p1 0)) 17 p1 1)) 17 i0 2 (zmI (zsI (zsN M 17 i0 0 (zmN M 17 p1 0)) 17 i0 1 (zmI (zsN M 17 i0 0 (zmN M 17 p1 0)) 17 p1 1)) 17 p1 2)) 17 p1 3)) 17 i0 4 (zmI (zsI (zsI (zsI (zsN M 17 i0 0 (zmN M 17 p1 0)) 17 i0 1 (zmI (zsN M 17 i0 0 (zmN M 17 p1 0)) 17 p1 1)) 17 i0 2 (zmI (zsI (zsN M 17 i0 0 (zmN M 17 p1 0)) 17 i0 1 (zmI (zsN M 17 i0 0 (zmN M 17 p1 0)) 17 p1 1)) 17 p1 2)) 17 i0 3 (zmI (zsI (zsI (zsN M 17 i0 0 (zmN M 17 p1 0)) 17 i0 1 (zmI (zsN M 17 i0 0 (zmN M 17 p1 0)) 17 p1 1)) 17 i0 2 (zmI (zsI (zsN M 17 i0 0 (zmN M 17 p1 0)) 17 i0 1 (zmI (zsN M 17 i0 0 (zmN M 17 p1 0)) 17 p1 1)) 17 p1 2)) 17 p1 3)) 17 p1 4)) 17 p1 5)) 17 p1 6)) 17 i0 7 (zmI (zsI (zsI (zsI (zsI (zsI (zsI (zsN M 17 i0 0 (zmN M 17 p1 0)) 17 i0 1 (zmI (zsN M 17 i0 0 (zmN M 17 p1 0)) 17 p1 1)) 17 i0 2 (zmI (zsI (zsN M 17 i0 0 (zmN M 17 p1 0)) 17 i0 1 (zmI (zsN M 17 i0 0 (zmN M 17 p1 0)) 17 p1 1)) 17 p1 2)) 17 i0 3 (zmI (zsI (zsI (zsN M 17 i0 0 (zmN M 17 p1 0)) 17 i0 1 (zmI (zsN M 17 i0 0 (zmN M 17 p1 0)) 17 p1 1)) 17 i0 2 (zmI (zsI (zsN M 17 i0 0 (zmN M 17 p1 0)) 17 i0 1 (zmI (zsN M 17 i0 0 (zmN M 17 p1 0)) 17 p1 1)) 17 p1 2)) 17 p1 3)) 17 i0 4 (zmI (zsI (zsI (zsI (zsN M 17 i0 0 (zmN M 17 p1 0)) 17 i0 1 (zmI (zsN M 17 i0 0 (zmN M 17 p1 0)) 17 p1 1)) 17 i0 2 (zmI (zsI (zsN M 17 i0 0 (zmN M 17 p1 0)) 17 i0 1 (zmI (zsN M 17 i0 0 (zmN M 17 p1 0)) 17 p1 1)) 17 p1 2)) 17 i0 3 (zmI (zsI (zsI (zsN M 17 i0 0 (zmN M 17 p1 0)) 17 i0 1 (zmI (zsN M 17 i0 0 (zmN M 17 p1 0)) 17 p1 1)) 17 i0 2 (zmI (zsI (zsN M 17 i0 0 (zmN M 17 p1 0)) 17 i0 1 (zmI (zsN M 17 i0 0 (zmN M 17 p1 0)) 17 p1 1)) 17 p1 2)) 17 p1 3)) 17 p1 4)) 17 i0 5 (zmI (zsI (zsI (zsI (zsI (zsN M 17 i0 0 (zmN M 17 p1 0)) 17 i0 1 (zmI (zsN M 17 i0 0 (zmN M 17 p1 0)) 17 p1 1)) 17 i0 2 (zmI (zsI (zsN M 17 i0 0 (zmN M 17 p1 0)) 17 i0 1 (zmI (zsN M 17 i0 0 (zmN M 17 p1 0)) 17 p1 1)) 17 p1 2)) 17 i0 3 (zmI (zsI (zsI (zsN M 17 i0 0 (zmN M 17 p1 0)) 17 i0 1 (zmI (zsN M 17 i0 0 (zmN M 17 p1 0)) 17 p1 1)) 17 i0 2 (zmI (zsI (zsN M 17 i0 0 (zmN M 17 p1 0)) 17 i0 1 (zmI (zsN M 17 i0 0 (zmN M 17 p1 0)) 17 p1 1)) 17 p1 2)) 17 p1 3)) 17 i0 4 (zmI (zsI (zsI (zsI (zsN M 17 i0 0 (zmN M 17 p1 0)) 17 i0 1 (zmI (zsN M 17 i0 0 (zmN M 17 p1 0)) 17 p1 1)) 17 i0 2 (zmI (zsI (zsN M 17 i0 0 (zmN M 17 p1 0)) 17 i0 1 (zmI (zsN M 17 i0 0 (zmN M 17 p1 0)) 17 p1 1)) 17 p1 2)) 17 i0 3 (zmI (zsI (zsI (zsN M 17 i0 0 (zmN M 17 p1 0)) 17 i0 1 (zmI (zsN M 17 i0 0 (zmN M 17 p1 0)) 17 p1 1)) 17 i0 2 (zmI (zsI (zsN M 17 i0 0 (zmN M 17 p1 0)) 17 i0 1 (zmI (zsN M 17 i0 0 (zmN M 17 p1 0)) 17 p1 1)) 17 p1 2)) 17 p1 3)) 17 p1 4)) 17 p1 5)) 17 i0 6 (zmI (zsI (zsI (zsI (zsI (zsI (zsN M 17 i0 0 (zmN M 17 p1 0)) 17 i0 1 (zmI (zsN M 17 i0 0 (zmN M 17 p1 0)) 17 p1 1)) 17 i0 2 (zmI (zsI (zsN M 17 i0 0 (zmN M 17 p1 0)) 17 i0 1 (zmI (zsN M 17 i0 0 (zmN M 17 p1 0)) 17 p1 1)) 17 p1 2)) 17 i0 3 (zmI (zsI (zsI (zsN M 17 i0 0 (zmN M 17 p1 0)) 17 i0 1 (zmI (zsN M 17 i0 0 (zmN M 17 p1 0)) 17 p1 1)) 17 i0 2 (zmI (zsI (zsN M 17 i0 0 (zmN M 17 p1 0)) 17 i0 1 (zmI (zsN M 17 i0 0 (zmN M 17 p1 0)) 17 p1 1)) 17 p1 2)) 17 p1 3)) 17 i0 4 (zmI (zsI (zsI (zsI (zsN M 17 i0 0 (zmN M 17 p1 0)) 17 i0 1 (zmI (zsN M 17 i0 0 (zmN M 17 p1 0)) 17 p1 1)) 17 i0 2 (zmI (zsI (zsN M 17 i0 0 (zmN M 17 p1 0)) 17 i0 1 (zmI (zsN M 17 i0 0 (zmN M 17 p1 0)) 17 p1 1)) 17 p1 2)) 17 i0 3 (zmI (zsI (zsI (zsN M 17 i0 0 (zmN M 17 p1 0)) 17 i0 1 (zmI (zsN M 17 i0 0 (zmN M 17 p1 0)) 17 p1 1)) 17 i0 2 (zmI (zsI (zsN M 17 i0 0 (zmN M 17 p1 0)) 17 i0 1 (zmI (zsN M 17 i0 0 (zmN M 17 p1 0)) 17 p1 1)) 17 p1 2)) 17 p1 3)) 17 p1 4)) 17 i0 5 (zmI (zsI (zsI (zsI (zsI (zsN M 17 i0 0 (zmN M 17 p1 0)) 17 i0 1 (zmI (zsN M 17 i0 0 (zmN M 17 p1 0)) 17 p1 1)) 17 i0 2 (zmI (zsI (zsN M 17 i0 0 (zmN M 17 p1 0)) 17 i0 1 (zmI (zsN M 17 i0 0 (zmN M 17 p1 0)) 17 p1 1)) 17 p1 2)) 17 i0 3 (zmI (zsI (zsI (zsN M 17 i0 0 (zmN M 17 p1 0)) 17 i0 1 (zmI (zsN M 17 i0 0 (zmN M 17 p1 0)) 17 p1 1)) 17 i0 2 (zmI (zsI (zsN M 17 i0 0 (zmN M 17 p1 0)) 17 i0 1 (zmI (zsN M 17 i0 0 (zmN M 17 p1 0)) 17 p1 1)) 17 p1 2)) 17 p1 3)) 17 i0 4 (zmI (zsI (zsI (zsI (zsN M 17 i0 0 (zmN M 17 p1 0)) 17 i0 1 (zmI (zsN M 17 i0 0 (zmN M 17 p1 0)) 17 p1 1)) 17 i0 2 (zmI (zsI (zsN M 17 i0 0 (zmN M 17 p1 0)) 17 i0 1 (zmI (zsN M 17 i0 0 (zmN M 17 p1 0)) 17 p1 1)) 17 p1 2)) 17 i0 3 (zmI (zsI (zsI (zsN M 17 i0 0 (zmN M 17 p1 0)) 17 i0 1 (zmI (zsN M 17 i0 0 (zmN M 17 p1 0)) 17 p1 1)) 17 i0 2 (zmI (zsI (zsN M 17 i0 0 (zmN M 17 p1 0)) 17 i0 1 (zmI (zsN M 17 i0 0 (zmN M 17 p1 0)) 17 p1 1)) 17 p1 2)) 17 p1 3)) 17 p1 4)) 17 p1 5)) 17 p1 6)) 17 p1 7)) 17 p1 8) ∧ (zcp (0 : Int32) (0 : Int32) (8 : Int32) 8 8 ∧ (Kf (zsLr (zsI (zsI (zsI (zsI (zsI (zsI (zsI (zsI (zsI (zsN M 17 i0 0 (zmN M 17 p1 0)) 17 i0 1 (zmI (zsN M 17 i0 0 (zmN M 17 p1 0)) 17 p1 1)) 17 i0 2 (zmI (zsI (zsN M 17 i0 0 (zmN M 17 p1 0)) 17 i0 1 (zmI (zsN M 17 i0 0 (zmN M 17 p1 0)) 17 p1 1)) 17 p1 2)) 17 i0 3 (zmI (zsI (zsI (zsN M 17 i0 0 (zmN M 17 p1 0)) 17 i0 1 (zmI (zsN M 17 i0 0 (zmN M 17 p1 0)) 17 p1 1)) 17 i0 2 (zmI (zsI (zsN M 17 i0 0 (zmN M 17 p1 0)) 17 i0 1 (zmI (zsN M 17 i0 0 (zmN M 17 p1 0)) 17 p1 1)) 17 p1 2)) 17 p1 3)) 17 i0 4 (zmI (zsI (zsI (zsI (zsN M 17 i0 0 (zmN M 17 p1 0)) 17 i0 1 (zmI (zsN M 17 i0 0 (zmN M 17 p1 0)) 17 p1 1)) 17 i0 2 (zmI (zsI (zsN M 17 i0 0 (zmN M 17 p1 0)) 17 i0 1 (zmI (zsN M 17 i0 0 (zmN M 17 p1 0)) 17 p1 1)) 17 p1 2)) 17 i0 3 (zmI (zsI (zsI (zsN M 17 i0 0 (zmN M 17 p1 0)) 17 i0 1 (zmI (zsN M 17 i0 0 (zmN M 17 p1 0)) 17 p1 1)) 17 i0 2 (zmI (zsI (zsN M 17 i0 0 (zmN M 17 p1 0)) 17 i0 1 (zmI (zsN M 17 i0 0 (zmN M 17 p1 0)) 17 p1 1)) 17 p1 2)) 17 p1 3)) 17 p1 4)) 17 i0 5 (zmI (zsI (zsI (zsI (zsI (zsN M 17 i0 0 (zmN M 17 p1 0)) 17 i0 1 (zmI (zsN M 17 i0 0 (zmN M 17 p1 0)) 17 p1 1)) 17 i0 2 (zmI (zsI (zsN M 17 i0 0 (zmN M 17 p1 0)) 17 i0 1 (zmI (zsN M 17 i0 0 (zmN M 17 p1 0)) 17 p1 1)) 17 p1 2)) 17 i0 3 (zmI (zsI (zsI (zsN M 17 i0 0 (zmN M 17 p1 0)) 17 i0 1 (zmI (zsN M 17 i0 0 (zmN M 17 p1 0)) 17 p1 1)) 17 i0 2 (zmI (zsI (zsN M 17 i0 0 (zmN M 17 p1 0)) 17 i0 1 (zmI (zsN M 17 i0 0 (zmN M 17 p1 0)) 17 p1 1)) 17 p1 2)) 17 p1 3)) 17 i0 4 (zmI (zsI (zsI (zsI (zsN M 17 i0 0 (zmN M 17 p1 0)) 17 i0 1 (zmI (zsN M 17 i0 0 (zmN M 17 p1 0)) 17 p1 1)) 17 i0 2 (zmI (zsI (zsN M 17 i0 0 (zmN M 17 p1 0)) 17 i0 1 (zmI (zsN M 17 i0 0 (zmN M 17 p1 0)) 17 p1 1)) 17 p1 2)) 17 i0 3 (zmI (zsI (zsI (zsN M 17 i0 0 (zmN M 17 p1 0)) 17 i0 1 (zmI (zsN M 17 i0 0 (zmN M 17 p1 0)) 17 p1 1)) 17 i0 2 (zmI (zsI (zsN M 17 i0 0 (zmN M 17 p1 0)) 17 i0 1 (zmI (zsN M 17 i0 0 (zmN M 17 p1 0)) 17 p1 1)) 17 p1 2)) 17 p1 3)) 17 p1 4)) 17 p1 5)) 17 i0 6 (zmI (zsI (zsI (zsI (zsI (zsI (zsN M 17 i0 0 (zmN M 17 p1 0)) 17 i0 1 (zmI (zsN M 17 i0 0 (zmN M 17 p1 0)) 17 p1 1)) 17 i0 2 (zmI (zsI (zsN M 17 i0 0 (zmN M 17 p1 0)) 17 i0 1 (zmI (zsN M 17 i0 0 (zmN M 17 p1 0)) 17 p1 1)) 17 p1 2)) 17 i0 3 (zmI (zsI (zsI (zsN M 17 i0 0 (zmN M 17 p1 0)) 17 i0 1 (zmI (zsN M 17 i0 0 (zmN M 17 p1 0)) 17 p1 1)) 17 i0 2 (zmI (zsI (zsN M 17 i0 0 (zmN M 17 p1 0)) 17 i0 1 (zmI (zsN M 17 i0 0 (zmN M 17 p1 0)) 17 p1 1)) 17 p1 2)) 17 p1 3)) 17 i0 4 (zmI (zsI (zsI (zsI (zsN M 17 i0 0 (zmN M 17 p1 0)) 17 i0 1 (zmI (zsN M 17 i0 0 (zmN M 17 p1 0)) 17 p1 1)) 17 i0 2 (zmI (zsI (zsN M 17 i0 0 (zmN M 17 p1 0)) 17 i0 1 (zmI (zsN M 17 i0 0 (zmN M 17 p1 0)) 17 p1 1)) 17 p1 2)) 17 i0 3 (zmI (zsI (zsI (zsN M 17 i0 0 (zmN M 17 p1 0)) 17 i0 1 (zmI (zsN M 17 i0 0 (zmN M 17 p1 0)) 17 p1 1)) 17 i0 2 (zmI (zsI (zsN M 17 i0 0 (zmN M 17 p1 0)) 17 i0 1 (zmI (zsN M 17 i0 0 (zmN M 17 p1 0)) 17 p1 1)) 17 p1 2)) 17 p1 3)) 17 p1 4)) 17 i0 5 (zmI (zsI (zsI (zsI (zsI (zsN M 17 i0 0 (zmN M 17 p1 0)) 17 i0 1 (zmI (zsN M 17 i0 0 (zmN M 17 p1 0)) 17 p1 1)) 17 i0 2 (zmI (zsI (zsN M 17 i0 0 (zmN M 17 p1 0)) 17 i0 1 (zmI (zsN M 17 i0 0 (zmN M 17 p1 0)) 17 p1 1)) 17 p1 2)) 17 i0 3 (zmI (zsI (zsI (zsN M 17 i0 0 (zmN M 17 p1 0)) 17 i0 1 (zmI (zsN M 17 i0 0 (zmN M 17 p1 0)) 17 p1 1)) 17 i0 2 (zmI (zsI (zsN M 17 i0 0 (zmN M 17 p1 0)) 17 i0 1 (zmI (zsN M 17 i0 0 (zmN M 17 p1 0)) 17 p1 1)) 17 p1 2)) 17 p1 3)) 17 i0 4 (zmI (zsI (zsI (zsI (zsN M 17 i0 0 (zmN M 17 p1 0)) 17 i0 1 (zmI (zsN M 17 i0 0 (zmN M 17 p1 0)) 17 p1 1)) 17 i0 2 (zmI (zsI (zsN M 17 i0 0 (zmN M 17 p1 0)) 17 i0 1 (zmI (zsN M 17 i0 0 (zmN M 17 p1 0)) 17 p1 1)) 17 p1 2)) 17 i0 3 (zmI (zsI (zsI (zsN M 17 i0 0 (zmN M 17 p1 0)) 17 i0 1 (zmI (zsN M 17 i0 0 (zmN M 17 p1 0)) 17 p1 1)) 17 i0 2 (zmI (zsI (zsN M 17 i0 0 (zmN M 17 p1 0)) 17 i0 1 (zmI (zsN M 17 i0 0 (zmN M 17 p1 0)) 17 p1 1)) 17 p1 2)) 17 p1 3)) 17 p1 4)) 17 p1 5)) 17 p1 6)) 17 i0 7 (zmI (zsI (zsI (zsI (zsI (zsI (zsI (zsN M 17 i0 0 (zmN M 17 p1 0)) 17 i0 1 (zmI (zsN M 17 i0 0 (zmN M 17 p1 0)) 17 p1 1)) 17 i0 2 (zmI (zsI (zsN M 17 i0 0 (zmN M 17 p1 0)) 17 i0 1 (zmI (zsN M 17 i0 0 (zmN M 17 p1 0)) 17 p1 1)) 17 p1 2)) 17 i0 3 (zmI (zsI (zsI (zsN M 17 i0 0 (zmN M 17 p1 0)) 17 i0 1 (zmI (zsN M 17 i0 0 (zmN M 17 p1 0)) 17 p1 1)) 17 i0 2 (zmI (zsI (zsN M 17 i0 0 (zmN M 17 p1 0)) 17 i0 1 (zmI (zsN M 17 i0 0 (zmN M 17 p1 0)) 17 p1 1)) 17 p1 2)) 17 p1 3)) 17 i0 4 (zmI (zsI (zsI (zsI (zsN M 17 i0 0 (zmN M 17 p1 0)) 17 i0 1 (zmI (zsN M 17 i0 0 (zmN M 17 p1 0)) 17 p1 1)) 17 i0 2 (zmI (zsI (zsN M 17 i0 0 (zmN M 17 p1 0)) 17 i0 1 (zmI (zsN M 17 i0 0 (zmN M 17 p1 0)) 17 p1 1)) 17 p1 2)) 17 i0 3 (zmI (zsI (zsI (zsN M 17 i0 0 (zmN M 17 p1 0)) 17 i0 1 (zmI (zsN M 17 i0 0 (zmN M 17 p1 0)) 17 p1 1)) 17 i0 2 (zmI (zsI (zsN M 17 i0 0 (zmN M 17 p1 0)) 17 i0 1 (zmI (zsN M 17 i0 0 (zmN M 17 p1 0)) 17 p1 1)) 17 p1 2)) 17 p1 3)) 17 p1 4)) 17 i0 5 (zmI (zsI (zsI (zsI (zsI (zsN M 17 i0 0 (zmN M 17 p1 0)) 17 i0 1 (zmI (zsN M 17 i0 0 (zmN M 17 p1 0)) 17 p1 1)) 17 i0 2 (zmI (zsI (zsN M 17 i0 0 (zmN M 17 p1 0)) 17 i0 1 (zmI (zsN M 17 i0 0 (zmN M 17 p1 0)) 17 p1 1)) 17 p1 2)) 17 i0 3 (zmI (zsI (zsI (zsN M 17 i0 0 (zmN M 17 p1 0)) 17 i0 1 (zmI (zsN M 17 i0 0 (zmN M 17 p1 0)) 17 p1 1)) 17 i0 2 (zmI (zsI (zsN M 17 i0 0 (zmN M 17 p1 0)) 17 i0 1 (zmI (zsN M 17 i0 0 (zmN M 17 p1 0)) 17 p1 1)) 17 p1 2)) 17 p1 3)) 17 i0 4 (zmI (zsI (zsI (zsI (zsN M 17 i0 0 (zmN M 17 p1 0)) 17 i0 1 (zmI (zsN M 17 i0 0 (zmN M 17 p1 0)) 17 p1 1)) 17 i0 2 (zmI (zsI (zsN M 17 i0 0 (zmN M 17 p1 0)) 17 i0 1 (zmI (zsN M 17 i0 0 (zmN M 17 p1 0)) 17 p1 1)) 17 p1 2)) 17 i0 3 (zmI (zsI (zsI (zsN M 17 i0 0 (zmN M 17 p1 0)) 17 i0 1 (zmI (zsN M 17 i0 0 (zmN M 17 p1 0)) 17 p1 1)) 17 i0 2 (zmI (zsI (zsN M 17 i0 0 (zmN M 17 p1 0)) 17 i0 1 (zmI (zsN M 17 i0 0 (zmN M 17 p1 0)) 17 p1 1)) 17 p1 2)) 17 p1 3)) 17 p1 4)) 17 p1 5)) 17 i0 6 (zmI (zsI (zsI (zsI (zsI (zsI (zsN M 17 i0 0 (zmN M 17 p1 0)) 17 i0 1 (zmI (zsN M 17 i0 0 (zmN M 17 p1 0)) 17 p1 1)) 17 i0 2 (zmI (zsI (zsN M 17 i0 0 (zmN M 17 p1 0)) 17 i0 1 (zmI (zsN M 17 i0 0 (zmN M 17 p1 0)) 17 p1 1)) 17 p1 2)) 17 i0 3 (zmI (zsI (zsI (zsN M 17 i0 0 (zmN M 17 p1 0)) 17 i0 1 (zmI (zsN M 17 i0 0 (zmN M 17 p1 0)) 17 p1 1)) 17 i0 2 (zmI (zsI (zsN M 17 i0 0 (zmN M 17 p1 0)) 17 i0 1 (zmI (zsN M 17 i0 0 (zmN M 17 p1 0)) 17 p1 1)) 17 p1 2)) 17 p1 3)) 17 i0 4 (zmI (zsI (zsI (zsI (zsN M 17 i0 0 (zmN M 17 p1 0)) 17 i0 1 (zmI (zsN M 17 i0 0 (zmN M 17 p1 0)) 17 p1 1)) 17 i0 2 (zmI (zsI (zsN M 17 i0 0 (zmN M 17 p1 0)) 17 i0 1 (zmI (zsN M 17 i0 0 (zmN M 17 p1 0)) 17 p1 1)) 17 p1 2)) 17 i0 3 (zmI (zsI (zsI (zsN M 17 i0 0 (zmN M 17 p1 0)) 17 i0 1 (zmI (zsN M 17 i0 0 (zmN M 17 p1 0)) 17 p1 1)) 17 i0 2 (zmI (zsI (zsN M 17 i0 0 (zmN M 17 p1 0)) 17 i0 1 (zmI (zsN M 17 i0 0 (zmN M 17 p1 0)) 17 p1 1)) 17 p1 2)) 17 p1 3)) 17 p1 4)) 17 i0 5 (zmI (zsI (zsI (zsI (zsI (zsN M 17 i0 0 (zmN M 17 p1 0)) 17 i0 1 (zmI (zsN M 17 i0 0 (zmN M 17 p1 0)) 17 p1 1)) 17 i0 2 (zmI (zsI (zsN M 17 i0 0 (zmN M 17 p1 0)) 17 i0 1 (zmI (zsN M 17 i0 0 (zmN M 17 p1 0)) 17 p1 1)) 17 p1 2)) 17 i0 3 (zmI (zsI (zsI (zsN M 17 i0 0 (zmN M 17 p1 0)) 17 i0 1 (zmI (zsN M 17 i0 0 (zmN M 17 p1 0)) 17 p1 1)) 17 i0 2 (zmI (zsI (zsN M 17 i0 0 (zmN M 17 p1 0)) 17 i0 1 (zmI (zsN M 17 i0 0 (zmN M 17 p1 0)) 17 p1 1)) 17 p1 2)) 17 p1 3)) 17 i0 4 (zmI (zsI (zsI (zsI (zsN M 17 i0 0 (zmN M 17 p1 0)) 17 i0 1 (zmI (zsN M 17 i0 0 (zmN M 17 p1 0)) 17 p1 1)) 17 i0 2 (zmI (zsI (zsN M 17 i0 0 (zmN M 17 p1 0)) 17 i0 1 (zmI (zsN M 17 i0 0 (zmN M 17 p1 0)) 17 p1 1)) 17 p1 2)) 17 i0 3 (zmI (zsI (zsI (zsN M 17 i0 0 (zmN M 17 p1 0)) 17 i0 1 (zmI (zsN M 17 i0 0 (zmN M 17 p1 0)) 17 p1 1)) 17 i0 2 (zmI (zsI (zsN M 17 i0 0 (zmN M 17 p1 0)) 17 i0 1 (zmI (zsN M 17 i0 0 (zmN M 17 p1 0)) 17 p1 1)) 17 p1 2)) 17 p1 3)) 17 p1 4)) 17 p1 5)) 17 p1 6)) 17 p1 7)) 17 i0 8 (zmI (zsI (zsI (zsI (zsI (zsI (zsI (zsI (zsN M 17 i0 0 (zmN M 17 p1 0)) 17 i0 1 (zmI (zsN M 17 i0 0 (zmN M 17 p1 0)) 17 p1 1)) 17 i0 2 (zmI (zsI (zsN M 17 i0 0 (zmN M 17 p1 0)) 17 i0 1 (zmI (zsN M 17 i0 0 (zmN M 17 p1 0)) 17 p1 1)) 17 p1 2)) 17 i0 3 (zmI (zsI (zsI (zsN M 17 i0 0 (zmN M 17 p1 0)) 17 i0 1 (zmI (zsN M 17 i0 0 (zmN M 17 p1 0)) 17 p1 1)) 17 i0 2 (zmI (zsI (zsN M 17 i0 0 (zmN M 17 p1 0)) 17 i0 1 (zmI (zsN M 17 i0 0 (zmN M 17 p1 0)) 17 p1 1)) 17 p1 2)) 17 p1 3)) 17 i0 4 (zmI (zsI (zsI (zsI (zsN M 17 i0 0 (zmN M 17 p1 0)) 17 i0 1 (zmI (zsN M 17 i0 0 (zmN M 17 p1 0)) 17 p1 1)) 17 i0 2 (zmI (zsI (zsN M 17 i0 0 (zmN M 17 p1 0)) 17 i0 1 (zmI (zsN M 17 i0 0 (zmN M 17 p1 0)) 17 p1 1)) 17 p1 2)) 17 i0 3 (zmI (zsI (zsI (zsN M 17 i0 0 (zmN M 17 p1 0)) 17 i0 1 (zmI (zsN M 17 i0 0 (zmN M 17 p1 0)) 17 p1 1)) 17 i0 2 (zmI (zsI (zsN M 17 i0 0 (zmN M 17 p1 0)) 17 i0 1 (zmI (zsN M 17 i0 0 (zmN M 17 p1 0)) 17 p1 1)) 17 p1 2)) 17 p1 3)) 17 p1 4)) 17 i0 5 (zmI (zsI (zsI (zsI (zsI (zsN M 17 i0 0 (zmN M 17 p1 0)) 17 i0 1 (zmI (zsN M 17 i0 0 (zmN M 17 p1 0)) 17 p1 1)) 17 i0 2 (zmI (zsI (zsN M 17 i0 0 (zmN M 17 p1 0)) 17 i0 1 (zmI (zsN M 17 i0 0 (zmN M 17 p1 0)) 17 p1 1)) 17 p1 2)) 17 i0 3 (zmI (zsI (zsI (zsN M 17 i0 0 (zmN M 17 p1 0)) 17 i0 1 (zmI (zsN M 17 i0 0 (zmN M 17 p1 0)) 17 p1 1)) 17 i0 2 (zmI (zsI (zsN M 17 i0 0 (zmN M 17 p1 0)) 17 i0 1 (zmI (zsN M 17 i0 0 (zmN M 17 p1 0)) 17 p1 1)) 17 p1 2)) 17 p1 3)) 17 i0 4 (zmI (zsI (zsI (zsI (zsN M 17 i0 0 (zmN M 17 p1 0)) 17 i0 1 (zmI (zsN M 17 i0 0 (zmN M 17 p1 0)) 17 p1 1)) 17 i0 2 (zmI (zsI (zsN M 17 i0 0 (zmN M 17 p1 0)) 17 i0 1 (zmI (zsN M 17 i0 0 (zmN M 17 p1 0)) 17 p1 1)) 17 p1 2)) 17 i0 3 (zmI (zsI (zsI (zsN M 17 i0 0 (zmN M 17 p1 0)) 17 i0 1 (zmI (zsN M 17 i0 0 (zmN M 17 p1 0)) 17 p1 1)) 17 i0 2 (zmI (zsI (zsN M 17 i0 0 (zmN M 17 p1 0)) 17 i0 1 (zmI (zsN M 17 i0 0 (zmN M 17 p1 0)) 17 p1 1)) 17 p1 2)) 17 p1 3)) 17 p1 4)) 17 p1 5)) 17 i0 6 (zmI (zsI (zsI (zsI (zsI (zsI (zsN M 17 i0 0 (zmN M 17 p1 0)) 17 i0 1 (zmI (zsN M 17 i0 0 (zmN M 17 p1 0)) 17 p1 1)) 17 i0 2 (zmI (zsI (zsN M 17 i0 0 (zmN M 17 p1 0)) 17 i0 1 (zmI (zsN M 17 i0 0 (zmN M 17 p1 0)) 17 p1 1)) 17 p1 2)) 17 i0 3 (zmI (zsI (zsI (zsN M 17 i0 0 (zmN M 17 p1 0)) 17 i0 1 (zmI (zsN M 17 i0 0 (zmN M 17 p1 0)) 17 p1 1)) 17 i0 2 (zmI (zsI (zsN M 17 i0 0 (zmN M 17 p1 0)) 17 i0 1 (zmI (zsN M 17 i0 0 (zmN M 17 p1 0)) 17 p1 1)) 17 p1 2)) 17 p1 3)) 17 i0 4 (zmI (zsI (zsI (zsI (zsN M 17 i0 0 (zmN M 17 p1 0)) 17 i0 1 (zmI (zsN M 17 i0 0 (zmN M 17 p1 0)) 17 p1 1)) 17 i0 2 (zmI (zsI (zsN M 17 i0 0 (zmN M 17 p1 0)) 17 i0 1 (zmI (zsN M 17 i0 0 (zmN M 17 p1 0)) 17 p1 1)) 17 p1 2)) 17 i0 3 (zmI (zsI (zsI (zsN M 17 i0 0 (zmN M 17 p1 0)) 17 i0 1 (zmI (zsN M 17 i0 0 (zmN M 17 p1 0)) 17 p1 1)) 17 i0 2 (zmI (zsI (zsN M 17 i0 0 (zmN M 17 p1 0)) 17 i0 1 (zmI (zsN M 17 i0 0 (zmN M 17 p1 0)) 17 p1 1)) 17 p1 2)) 17 p1 3)) 17 p1 4)) 17 i0 5 (zmI (zsI (zsI (zsI (zsI (zsN M 17 i0 0 (zmN M 17 p1 0)) 17 i0 1 (zmI (zsN M 17 i0 0 (zmN M 17 p1 0)) 17 p1 1)) 17 i0 2 (zmI (zsI (zsN M 17 i0 0 (zmN M 17 p1 0)) 17 i0 1 (zmI (zsN M 17 i0 0 (zmN M 17 p1 0)) 17 p1 1)) 17 p1 2)) 17 i0 3 (zmI (zsI (zsI (zsN M 17 i0 0 (zmN M 17 p1 0)) 17 i0 1 (zmI (zsN M 17 i0 0 (zmN M 17 p1 0)) 17 p1 1)) 17 i0 2 (zmI (zsI (zsN M 17 i0 0 (zmN M 17 p1 0)) 17 i0 1 (zmI (zsN M 17 i0 0 (zmN M 17 p1 0)) 17 p1 1)) 17 p1 2)) 17 p1 3)) 17 i0 4 (zmI (zsI (zsI (zsI (zsN M 17 i0 0 (zmN M 17 p1 0)) 17 i0 1 (zmI (zsN M 17 i0 0 (zmN M 17 p1 0)) 17 p1 1)) 17 i0 2 (zmI (zsI (zsN M 17 i0 0 (zmN M 17 p1 0)) 17 i0 1 (zmI (zsN M 17 i0 0 (zmN M 17 p1 0)) 17 p1 1)) 17 p1 2)) 17 i0 3 (zmI (zsI (zsI (zsN M 17 i0 0 (zmN M 17 p1 0)) 17 i0 1 (zmI (zsN M 17 i0 0 (zmN M 17 p1 0)) 17 p1 1)) 17 i0 2 (zmI (zsI (zsN M 17 i0 0 (zmN M 17 p1 0)) 17 i0 1 (zmI (zsN M 17 i0 0 (zmN M 17 p1 0)) 17 p1 1)) 17 p1 2)) 17 p1 3)) 17 p1 4)) 17 p1 5)) 17 p1 6)) 17 i0 7 (zmI (zsI (zsI (zsI (zsI (zsI (zsI (zsN M 17 i0 0 (zmN M 17 p1 0)) 17 i0 1 (zmI (zsN M 17 i0 0 (zmN M 17 p1 0)) 17 p1 1)) 17 i0 2 (zmI (zsI (zsN M 17 i0 0 (zmN M 17 p1 0)) 17 i0 1 (zmI (zsN M 17 i0 0 (zmN M 17 p1 0)) 17 p1 1)) 17 p1 2)) 17 i0 3 (zmI (zsI (zsI (zsN M 17 i0 0 (zmN M 17 p1 0)) 17 i0 1 (zmI (zsN M 17 i0 0 (zmN M 17 p1 0)) 17 p1 1)) 17 i0 2 (zmI (zsI (zsN M 17 i0 0 (zmN M 17 p1 0)) 17 i0 1 (zmI (zsN M 17 i0 0 (zmN M 17 p1 0)) 17 p1 1)) 17 p1 2)) 17 p1 3)) 17 i0 4 (zmI (zsI (zsI (zsI (zsN M 17 i0 0 (zmN M 17 p1 0)) 17 i0 1 (zmI (zsN M 17 i0 0 (zmN M 17 p1 0)) 17 p1 1)) 17 i0 2 (zmI (zsI (zsN M 17 i0 0 (zmN M 17 p1 0)) 17 i0 1 (zmI (zsN M 17 i0 0 (zmN M 17 p1 0)) 17 p1 1)) 17 p1 2)) 17 i0 3 (zmI (zsI (zsI (zsN M 17 i0 0 (zmN M 17 p1 0)) 17 i0 1 (zmI (zsN M 17 i0 0 (zmN M 17 p1 0)) 17 p1 1)) 17 i0 2 (zmI (zsI (zsN M 17 i0 0 (zmN M 17 p1 0)) 17 i0 1 (zmI (zsN M 17 i0 0 (zmN M 17 p1 0)) 17 p1 1)) 17 p1 2)) 17 p1 3)) 17 p1 4)) 17 i0 5 (zmI (zsI (zsI (zsI (zsI (zsN M 17 i0 0 (zmN M 17 p1 0)) 17 i0 1 (zmI (zsN M 17 i0 0 (zmN M 17 p1 0)) 17 p1 1)) 17 i0 2 (zmI (zsI (zsN M 17 i0 0 (zmN M 17 p1 0)) 17 i0 1 (zmI (zsN M 17 i0 0 (zmN M 17 p1 0)) 17 p1 1)) 17 p1 2)) 17 i0 3 (zmI (zsI (zsI (zsN M 17 i0 0 (zmN M 17 p1 0)) 17 i0 1 (zmI (zsN M 17 i0 0 (zmN M 17 p1 0)) 17 p1 1)) 17 i0 2 (zmI (zsI (zsN M 17 i0 0 (zmN M 17 p1 0)) 17 i0 1 (zmI (zsN M 17 i0 0 (zmN M 17 p1 0)) 17 p1 1)) 17 p1 2)) 17 p1 3)) 17 i0 4 (zmI (zsI (zsI (zsI (zsN M 17 i0 0 (zmN M 17 p1 0)) 17 i0 1 (zmI (zsN M 17 i0 0 (zmN M 17 p1 0)) 17 p1 1)) 17 i0 2 (zmI (zsI (zsN M 17 i0 0 (zmN M 17 p1 0)) 17 i0 1 (zmI (zsN M 17 i0 0 (zmN M 17 p1 0)) 17 p1 1)) 17 p1 2)) 17 i0 3 (zmI (zsI (zsI (zsN M 17 i0 0 (zmN M 17 p1 0)) 17 i0 1 (zmI (zsN M 17 i0 0 (zmN M 17 p1 0)) 17 p1 1)) 17 i0 2 (zmI (zsI (zsN M 17 i0 0 (zmN M 17 p1 0)) 17 i0 1 (zmI (zsN M 17 i0 0 (zmN M 17 p1 0)) 17 p1 1)) 17 p1 2)) 17 p1 3)) 17 p1 4)) 17 p1 5)) 17 i0 6 (zmI (zsI (zsI (zsI (zsI (zsI (zsN M 17 i0 0 (zmN M 17 p1 0)) 17 i0 1 (zmI (zsN M 17 i0 0 (zmN M 17 p1 0)) 17 p1 1)) 17 i0 2 (zmI (zsI (zsN M 17 i0 0 (zmN M 17 p1 0)) 17 i0 1 (zmI (zsN M 17 i0 0 (zmN M 17 p1 0)) 17 p1 1)) 17 p1 2)) 17 i0 3 (zmI (zsI (zsI (zsN M 17 i0 0 (zmN M 17 p1 0)) 17 i0 1 (zmI (zsN M 17 i0 0 (zmN M 17 p1 0)) 17 p1 1)) 17 i0 2 (zmI (zsI (zsN M 17 i0 0 (zmN M 17 p1 0)) 17 i0 1 (zmI (zsN M 17 i0 0 (zmN M 17 p1 0)) 17 p1 1)) 17 p1 2)) 17 p1 3)) 17 i0 4 (zmI (zsI (zsI (zsI (zsN M 17 i0 0 (zmN M 17 p1 0)) 17 i0 1 (zmI (zsN M 17 i0 0 (zmN M 17 p1 0)) 17 p1 1)) 17 i0 2 (zmI (zsI (zsN M 17 i0 0 (zmN M 17 p1 0)) 17 i0 1 (zmI (zsN M 17 i0 0 (zmN M 17 p1 0)) 17 p1 1)) 17 p1 2)) 17 i0 3 (zmI (zsI (zsI (zsN M 17 i0 0 (zmN M 17 p1 0)) 17 i0 1 (zmI (zsN M 17 i0 0 (zmN M 17 p1 0)) 17 p1 1)) 17 i0 2 (zmI (zsI (zsN M 17 i0 0 (zmN M 17 p1 0)) 17 i0 1 (zmI (zsN M 17 i0 0 (zmN M 17 p1 0)) 17 p1 1)) 17 p1 2)) 17 p1 3)) 17 p1 4)) 17 i0 5 (zmI (zsI (zsI (zsI (zsI (zsN M 17 i0 0 (zmN M 17 p1 0)) 17 i0 1 (zmI (zsN M 17 i0 0 (zmN M 17 p1 0)) 17 p1 1)) 17 i0 2 (zmI (zsI (zsN M 17 i0 0 (zmN M 17 p1 0)) 17 i0 1 (zmI (zsN M 17 i0 0 (zmN M 17 p1 0)) 17 p1 1)) 17 p1 2)) 17 i0 3 (zmI (zsI (zsI (zsN M 17 i0 0 (zmN M 17 p1 0)) 17 i0 1 (zmI (zsN M 17 i0 0 (zmN M 17 p1 0)) 17 p1 1)) 17 i0 2 (zmI (zsI (zsN M 17 i0 0 (zmN M 17 p1 0)) 17 i0 1 (zmI (zsN M 17 i0 0 (zmN M 17 p1 0)) 17 p1 1)) 17 p1 2)) 17 p1 3)) 17 i0 4 (zmI (zsI (zsI (zsI (zsN M 17 i0 0 (zmN M 17 p1 0)) 17 i0 1 (zmI (zsN M 17 i0 0 (zmN M 17 p1 0)) 17 p1 1)) 17 i0 2 (zmI (zsI (zsN M 17 i0 0 (zmN M 17 p1 0)) 17 i0 1 (zmI (zsN M 17 i0 0 (zmN M 17 p1 0)) 17 p1 1)) 17 p1 2)) 17 i0 3 (zmI (zsI (zsI (zsN M 17 i0 0 (zmN M 17 p1 0)) 17 i0 1 (zmI (zsN M 17 i0 0 (zmN M 17 p1 0)) 17 p1 1)) 17 i0 2 (zmI (zsI (zsN M 17 i0 0 (zmN M 17 p1 0)) 17 i0 1 (zmI (zsN M 17 i0 0 (zmN M 17 p1 0)) 17 p1 1)) 17 p1 2)) 17 p1 3)) 17 p1 4)) 17 p1 5)) 17 p1 6)) 17 p1 7)) 17 p1 8)) 17 i0 9 (zmI (zsI (zsI (zsI (zsI (zsI (zsI (zsI (zsI (zsN M 17 i0 0 (zmN M 17 p1 0)) 17 i0 1 (zmI (zsN M 17 i0 0 (zmN M 17 p1 0)) 17 p1 1)) 17 i0 2 (zmI (zsI (zsN M 17 i0 0 (zmN M 17 p1 0)) 17 i0 1 (zmI (zsN M 17 i0 0 (zmN M 17 p1 0)) 17 p1 1)) 17 p1 2)) 17 i0 3 (zmI (zsI (zsI (zsN M 17 i0 0 (zmN M 17 p1 0)) 17 i0 1 (zmI (zsN M 17 i0 0 (zmN M 17 p1 0)) 17 p1 1)) 17 i0 2 (zmI (zsI (zsN M 17 i0 0 (zmN M 17 p1 0)) 17 i0 1 (zmI (zsN M 17 i0 0 (zmN M 17 p1 0)) 17 p1 1)) 17 p1 2)) 17 p1 3)) 17 i0 4 (zmI (zsI (zsI (zsI (zsN M 17 i0 0 (zmN M 17 p1 0)) 17 i0 1 (zmI (zsN M 17 i0 0 (zmN M 17 p1 0)) 17 p1 1)) 17 i0 2 (zmI (zsI (zsN M 17 i0 0 (zmN M 17 p1 0)) 17 i0 1 (zmI (zsN M 17 i0 0 (zmN M 17 p1 0)) 17 p1 1)) 17 p1 2)) 17 i0 3 (zmI (zsI (zsI (zsN M 17 i0 0 (zmN M 17 p1 0)) 17 i0 1 (zmI (zsN M 17 i0 0 (zmN M 17 p1 0)) 17 p1 1)) 17 i0 2 (zmI (zsI (zsN M 17 i0 0 (zmN M 17 p1 0)) 17 i0 1 (zmI (zsN M 17 i0 0 (zmN M 17 p1 0)) 17 p1 1)) 17 p1 2)) 17 p1 3)) 17 p1 4)) 17 i0 5 (zmI (zsI (zsI (zsI (zsI (zsN M 17 i0 0 (zmN M 17 p1 0)) 17 i0 1 (zmI (zsN M 17 i0 0 (zmN M 17 p1 0)) 17 p1 1)) 17 i0 2 (zmI (zsI (zsN M 17 i0 0 (zmN M 17 p1 0)) 17 i0 1 (zmI (zsN M 17 i0 0 (zmN M 17 p1 0)) 17 p1 1)) 17 p1 2)) 17 i0 3 (zmI (zsI (zsI (zsN M 17 i0 0 (zmN M 17 p1 0)) 17 i0 1 (zmI (zsN M 17 i0 0 (zmN M 17 p1 0)) 17 p1 1)) 17 i0 2 (zmI (zsI (zsN M 17 i0 0 (zmN M 17 p1 0)) 17 i0 1 (zmI (zsN M 17 i0 0 (zmN M 17 p1 0)) 17 p1 1)) 17 p1 2)) 17 p1 3)) 17 i0 4 (zmI (zsI (zsI (zsI (zsN M 17 i0 0 (zmN M 17 p1 0)) 17 i0 1 (zmI (zsN M 17 i0 0 (zmN M 17 p1 0)) 17 p1 1)) 17 i0 2 (zmI (zsI (zsN M 17 i0 0 (zmN M 17 p1 0)) 17 i0 1 (zmI (zsN M 17 i0 0 (zmN M 17 p1 0)) 17 p1 1)) 17 p1 2)) 17 i0 3 (zmI (zsI (zsI (zsN M 17 i0 0 (zmN M 17 p1 0)) 17 i0 1 (zmI (zsN M 17 i0 0 (zmN M 17 p1 0)) 17 p1 1)) 17 i0 2 (zmI (zsI (zsN M 17 i0 0 (zmN M 17 p1 0)) 17 i0 1 (zmI (zsN M 17 i0 0 (zmN M 17 p1 0)) 17 p1 1)) 17 p1 2)) 17 p1 3)) 17 p1 4)) 17 p1 5)) 17 i0 6 (zmI (zsI (zsI (zsI (zsI (zsI (zsN M 17 i0 0 (zmN M 17 p1 0)) 17 i0 1 (zmI (zsN M 17 i0 0 (zmN M 17 p1 0)) 17 p1 1)) 17 i0 2 (zmI (zsI (zsN M 17 i0 0 (zmN M 17 p1 0)) 17 i0 1 (zmI (zsN M 17 i0 0 (zmN M 17 p1 0)) 17 p1 1)) 17 p1 2)) 17 i0 3 (zmI (zsI (zsI (zsN M 17 i0 0 (zmN M 17 p1 0)) 17 i0 1 (zmI (zsN M 17 i0 0 (zmN M 17 p1 0)) 17 p1 1)) 17 i0 2 (zmI (zsI (zsN M 17 i0 0 (zmN M 17 p1 0)) 17 i0 1 (zmI (zsN M 17 i0 0 (zmN M 17 p1 0)) 17 p1 1)) 17 p1 2)) 17 p1 3)) 17 i0 4 (zmI (zsI (zsI (zsI (zsN M 17 i0 0 (zmN M 17 p1 0)) 17 i0 1 (zmI (zsN M 17 i0 0 (zmN M 17 p1 0)) 17 p1 1)) 17 i0 2 (zmI (zsI (zsN M 17 i0 0 (zmN M 17 p1 0)) 17 i0 1 (zmI (zsN M 17 i0 0 (zmN M 17 p1 0)) 17 p1 1)) 17 p1 2)) 17 i0 3 (zmI (zsI (zsI (zsN M 17 i0 0 (zmN M 17 p1 0)) 17 i0 1 (zmI (zsN M 17 i0 0 (zmN M 17 p1 0)) 17 p1 1)) 17 i0 2 (zmI (zsI (zsN M 17 i0 0 (zmN M 17 p1 0)) 17 i0 1 (zmI (zsN M 17 i0 0 (zmN M 17 p1 0)) 17 p1 1)) 17 p1 2)) 17 p1 3)) 17 p1 4)) 17 i0 5 (zmI (zsI (zsI (zsI (zsI (zsN M 17 i0 0 (zmN M 17 p1 0)) 17 i0 1 (zmI (zsN M 17 i0 0 (zmN M 17 p1 0)) 17 p1 1)) 17 i0 2 (zmI (zsI (zsN M 17 i0 0 (zmN M 17 p1 0)) 17 i0 1 (zmI (zsN M 17 i0 0 (zmN M 17 p1 0)) 17 p1 1)) 17 p1 2)) 17 i0 3 (zmI (zsI (zsI (zsN M 17 i0 0 (zmN M 17 p1 0)) 17 i0 1 (zmI (zsN M 17 i0 0 (zmN M 17 p1 0)) 17 p1 1)) 17 i0 2 (zmI (zsI (zsN M 17 i0 0 (zmN M 17 p1 0)) 17 i0 1 (zmI (zsN M 17 i0 0 (zmN M 17 p1 0)) 17 p1 1)) 17 p1 2)) 17 p1 3)) 17 i0 4 (zmI (zsI (zsI (zsI (zsN M 17 i0 0 (zmN M 17 p1 0)) 17 i0 1 (zmI (zsN M 17 i0 0 (zmN M 17 p1 0)) 17 p1 1)) 17 i0 2 (zmI (zsI (zsN M 17 i0 0 (zmN M 17 p1 0)) 17 i0 1 (zmI (zsN M 17 i0 0 (zmN M 17 p1 0)) 17 p1 1)) 17 p1 2)) 17 i0 3 (zmI (zsI (zsI (zsN M 17 i0 0 (zmN M 17 p1 0)) 17 i0 1 (zmI (zsN M 17 i0 0 (zmN M 17 p1 0)) 17 p1 1)) 17 i0 2 (zmI (zsI (zsN M 17 i0 0 (zmN M 17 p1 0)) 17 i0 1 (zmI (zsN M 17 i0 0 (zmN M 17 p1 0)) 17 p1 1)) 17 p1 2)) 17 p1 3)) 17 p1 4)) 17 p1 5)) 17 p1 6)) 17 i0 7 (zmI (zsI (zsI (zsI (zsI (zsI (zsI (zsN M 17 i0 0 (zmN M 17 p1 0)) 17 i0 1 (zmI (zsN M 17 i0 0 (zmN M 17 p1 0)) 17 p1 1)) 17 i0 2 (zmI (zsI (zsN M 17 i0 0 (zmN M 17 p1 0)) 17 i0 1 (zmI (zsN M 17 i0 0 (zmN M 17 p1 0)) 17 p1 1)) 17 p1 2)) 17 i0 3 (zmI (zsI (zsI (zsN M 17 i0 0 (zmN M 17 p1 0)) 17 i0 1 (zmI (zsN M 17 i0 0 (zmN M 17 p1 0)) 17 p1 1)) 17 i0 2 (zmI (zsI (zsN M 17 i0 0 (zmN M 17 p1 0)) 17 i0 1 (zmI (zsN M 17 i0 0 (zmN M 17 p1 0)) 17 p1 1)) 17 p1 2)) 17 p1 3)) 17 i0 4 (zmI (zsI (zsI (zsI (zsN M 17 i0 0 (zmN M 17 p1 0)) 17 i0 1 (zmI (zsN M 17 i0 0 (zmN M 17 p1 0)) 17 p1 1)) 17 i0 2 (zmI (zsI (zsN M 17 i0 0 (zmN M 17 p1 0)) 17 i0 1 (zmI (zsN M 17 i0 0 (zmN M 17 p1 0)) 17 p1 1)) 17 p1 2)) 17 i0 3 (zmI (zsI (zsI (zsN M 17 i0 0 (zmN M 17 p1 0)) 17 i0 1 (zmI (zsN M 17 i0 0 (zmN M 17 p1 0)) 17 p1 1)) 17 i0 2 (zmI (zsI (zsN M 17 i0 0 (zmN M 17 p1 0)) 17 i0 1 (zmI (zsN M 17 i0 0 (zmN M 17 p1 0)) 17 p1 1)) 17 p1 2)) 17 p1 3)) 17 p1 4)) 17 i0 5 (zmI (zsI (zsI (zsI (zsI (zsN M 17 i0 0 (zmN M 17 p1 0)) 17 i0 1 (zmI (zsN M 17 i0 0 (zmN M 17 p1 0)) 17 p1 1)) 17 i0 2 (zmI (zsI (zsN M 17 i0 0 (zmN M 17 p1 0)) 17 i0 1 (zmI (zsN M 17 i0 0 (zmN M 17 p1 0)) 17 p1 1)) 17 p1 2)) 17 i0 3 (zmI (zsI (zsI (zsN M 17 i0 0 (zmN M 17 p1 0)) 17 i0 1 (zmI (zsN M 17 i0 0 (zmN M 17 p1 0)) 17 p1 1)) 17 i0 2 (zmI (zsI (zsN M 17 i0 0 (zmN M 17 p1 0)) 17 i0 1 (zmI (zsN M 17 i0 0 (zmN M 17 p1 0)) 17 p1 1)) 17 p1 2)) 17 p1 3)) 17 i0 4 (zmI (zsI (zsI (zsI (zsN M 17 i0 0 (zmN M 17 p1 0)) 17 i0 1 (zmI (zsN M 17 i0 0 (zmN M 17 p1 0)) 17 p1 1)) 17 i0 2 (zmI (zsI (zsN M 17 i0 0 (zmN M 17 p1 0)) 17 i0 1 (zmI (zsN M 17 i0 0 (zmN M 17 p1 0)) 17 p1 1)) 17 p1 2)) 17 i0 3 (zmI (zsI (zsI (zsN M 17 i0 0 (zmN M 17 p1 0)) 17 i0 1 (zmI (zsN M 17 i0 0 (zmN M 17 p1 0)) 17 p1 1)) 17 i0 2 (zmI (zsI (zsN M 17 i0 0 (zmN M 17 p1 0)) 17 i0 1 (zmI (zsN M 17 i0 0 (zmN M 17 p1 0)) 17 p1 1)) 17 p1 2)) 17 p1 3)) 17 p1 4)) 17 p1 5)) 17 i0 6 (zmI (zsI (zsI (zsI (zsI (zsI (zsN M 17 i0 0 (zmN M 17 p1 0)) 17 i0 1 (zmI (zsN M 17 i0 0 (zmN M 17 p1 0)) 17 p1 1)) 17 i0 2 (zmI (zsI (zsN M 17 i0 0 (zmN M 17 p1 0)) 17 i0 1 (zmI (zsN M 17 i0 0 (zmN M 17 p1 0)) 17 p1 1)) 17 p1 2)) 17 i0 3 (zmI (zsI (zsI (zsN M 17 i0 0 (zmN M 17 p1 0)) 17 i0 1 (zmI (zsN M 17 i0 0 (zmN M 17 p1 0)) 17 p1 1)) 17 i0 2 (zmI (zsI (zsN M 17 i0 0 (zmN M 17 p1 0)) 17 i0 1 (zmI (zsN M 17 i0 0 (zmN M 17 p1 0)) 17 p1 1)) 17 p1 2)) 17 p1 3)) 17 i0 4 (zmI (zsI (zsI (zsI (zsN M 17 i0 0 (zmN M 17 p1 0)) 17 i0 1 (zmI (zsN M 17 i0 0 (zmN M 17 p1 0)) 17 p1 1)) 17 i0 2 (zmI (zsI (zsN M 17 i0 0 (zmN M 17 p1 0)) 17 i0 1 (zmI (zsN M 17 i0 0 (zmN M 17 p1 0)) 17 p1 1)) 17 p1 2)) 17 i0 3 (zmI (zsI (zsI (zsN M 17 i0 0 (zmN M 17 p1 0)) 17 i0 1 (zmI (zsN M 17 i0 0 (zmN M 17 p1 0)) 17 p1 1)) 17 i0 2 (zmI (zsI (zsN M 17 i0 0 (zmN M 17 p1 0)) 17 i0 1 (zmI (zsN M 17 i0 0 (zmN M 17 p1 0)) 17 p1 1)) 17 p1 2)) 17 p1 3)) 17 p1 4)) 17 i0 5 (zmI (zsI (zsI (zsI (zsI (zsN M 17 i0 0 (zmN M 17 p1 0)) 17 i0 1 (zmI (zsN M 17 i0 0 (zmN M 17 p1 0)) 17 p1 1)) 17 i0 2 (zmI (zsI (zsN M 17 i0 0 (zmN M 17 p1 0)) 17 i0 1 (zmI (zsN M 17 i0 0 (zmN M 17 p1 0)) 17 p1 1)) 17 p1 2)) 17 i0 3 (zmI (zsI (zsI (zsN M 17 i0 0 (zmN M 17 p1 0)) 17 i0 1 (zmI (zsN M 17 i0 0 (zmN M 17 p1 0)) 17 p1 1)) 17 i0 2 (zmI (zsI (zsN M 17 i0 0 (zmN M 17 p1 0)) 17 i0 1 (zmI (zsN M 17 i0 0 (zmN M 17 p1 0)) 17 p1 1)) 17 p1 2)) 17 p1 3)) 17 i0 4 (zmI (zsI (zsI (zsI (zsN M 17 i0 0 (zmN M 17 p1 0)) 17 i0 1 (zmI (zsN M 17 i0 0 (zmN M 17 p1 0)) 17 p1 1)) 17 i0 2 (zmI (zsI (zsN M 17 i0 0 (zmN M 17 p1 0)) 17 i0 1 (zmI (zsN M 17 i0 0 (zmN M 17 p1 0)) 17 p1 1)) 17 p1 2)) 17 i0 3 (zmI (zsI (zsI (zsN M 17 i0 0 (zmN M 17 p1 0)) 17 i0 1 (zmI (zsN M 17 i0 0 (zmN M 17 p1 0)) 17 p1 1)) 17 i0 2 (zmI (zsI (zsN M 17 i0 0 (zmN M 17 p1 0)) 17 i0 1 (zmI (zsN M 17 i0 0 (zmN M 17 p1 0)) 17 p1 1)) 17 p1 2)) 17 p1 3)) 17 p1 4)) 17 p1 5)) 17 p1 6)) 17 p1 7)) 17 i0 8 (zmI (zsI (zsI (zsI (zsI (zsI (zsI (zsI (zsN M 17 i0 0 (zmN M 17 p1 0)) 17 i0 1 (zmI (zsN M 17 i0 0 (zmN M 17 p1 0)) 17 p1 1)) 17 i0 2 (zmI (zsI (zsN M 17 i0 0 (zmN M 17 p1 0)) 17 i0 1 (zmI (zsN M 17 i0 0 (zmN M 17 p1 0)) 17 p1 1)) 17 p1 2)) 17 i0 3 (zmI (zsI (zsI (zsN M 17 i0 0 (zmN M 17 p1 0)) 17 i0 1 (zmI (zsN M 17 i0 0 (zmN M 17 p1 0)) 17 p1 1)) 17 i0 2 (zmI (zsI (zsN M 17 i0 0 (zmN M 17 p1 0)) 17 i0 1 (zmI (zsN M 17 i0 0 (zmN M 17 p1 0)) 17 p1 1)) 17 p1 2)) 17 p1 3)) 17 i0 4 (zmI (zsI (zsI (zsI (zsN M 17 i0 0 (zmN M 17 p1 0)) 17 i0 1 (zmI (zsN M 17 i0 0 (zmN M 17 p1 0)) 17 p1 1)) 17 i0 2 (zmI (zsI (zsN M 17 i0 0 (zmN M 17 p1 0)) 17 i0 1 (zmI (zsN M 17 i0 0 (zmN M 17 p1 0)) 17 p1 1)) 17 p1 2)) 17 i0 3 (zmI (zsI (zsI (zsN M 17 i0 0 (zmN M 17 p1 0)) 17 i0 1 (zmI (zsN M 17 i0 0 (zmN M 17 p1 0)) 17 p1 1)) 17 i0 2 (zmI (zsI (zsN M 17 i0 0 (zmN M 17 p1 0)) 17 i0 1 (zmI (zsN M 17 i0 0 (zmN M 17 p1 0)) 17 p1 1)) 17 p1 2)) 17 p1 3)) 17 p1 4)) 17 i0 5 (zmI (zsI (zsI (zsI (zsI (zsN M 17 i0 0 (zmN M 17 p1 0)) 17 i0 1 (zmI (zsN M 17 i0 0 (zmN M 17 p1 0)) 17 p1 1)) 17 i0 2 (zmI (zsI (zsN M 17 i0 0 (zmN M 17 p1 0)) 17 i0 1 (zmI (zsN M 17 i0 0 (zmN M 17 p1 0)) 17 p1 1)) 17 p1 2)) 17 i0 3 (zmI (zsI (zsI (zsN M 17 i0 0 (zmN M 17 p1 0)) 17 i0 1 (zmI (zsN M 17 i0 0 (zmN M 17 p1 0)) 17 p1 1)) 17 i0 2 (zmI (zsI (zsN M 17 i0 0 (zmN M 17 p1 0)) 17 i0 1 (zmI (zsN M 17 i0 0 (zmN M 17 p1 0)) 17 p1 1)) 17 p1 2)) 17 p1 3)) 17 i0 4 (zmI (zsI (zsI (zsI (zsN M 17 i0 0 (zmN M 17 p1 0)) 17 i0 1 (zmI (zsN M 17 i0 0 (zmN M 17 p1 0)) 17 p1 1)) 17 i0 2 (zmI (zsI (zsN M 17 i0 0 (zmN M 17 p1 0)) 17 i0 1 (zmI (zsN M 17 i0 0 (zmN M 17 p1 0)) 17 p1 1)) 17 p1 2)) 17 i0 3 (zmI (zsI (zsI (zsN M 17 i0 0 (zmN M 17 p1 0)) 17 i0 1 (zmI (zsN M 17 i0 0 (zmN M 17 p1 0)) 17 p1 1)) 17 i0 2 (zmI (zsI (zsN M 17 i0 0 (zmN M 17 p1 0)) 17 i0 1 (zmI (zsN M 17 i0 0 (zmN M 17 p1 0)) 17 p1 1)) 17 p1 2)) 17 p1 3)) 17 p1 4)) 17 p1 5)) 17 i0 6 (zmI (zsI (zsI (zsI (zsI (zsI (zsN M 17 i0 0 (zmN M 17 p1 0)) 17 i0 1 (zmI (zsN M 17 i0 0 (zmN M 17 p1 0)) 17 p1 1)) 17 i0 2 (zmI (zsI (zsN M 17 i0 0 (zmN M 17 p1 0)) 17 i0 1 (zmI (zsN M 17 i0 0 (zmN M 17 p1 0)) 17 p1 1)) 17 p1 2)) 17 i0 3 (zmI (zsI (zsI (zsN M 17 i0 0 (zmN M 17 p1 0)) 17 i0 1 (zmI (zsN M 17 i0 0 (zmN M 17 p1 0)) 17 p1 1)) 17 i0 2 (zmI (zsI (zsN M 17 i0 0 (zmN M 17 p1 0)) 17 i0 1 (zmI (zsN M 17 i0 0 (zmN M 17 p1 0)) 17 p1 1)) 17 p1 2)) 17 p1 3)) 17 i0 4 (zmI (zsI (zsI (zsI (zsN M 17 i0 0 (zmN M 17 p1 0)) 17 i0 1 (zmI (zsN M 17 i0 0 (zmN M 17 p1 0)) 17 p1 1)) 17 i0 2 (zmI (zsI (zsN M 17 i0 0 (zmN M 17 p1 0)) 17 i0 1 (zmI (zsN M 17 i0 0 (zmN M 17 p1 0)) 17 p1 1)) 17 p1 2)) 17 i0 3 (zmI (zsI (zsI (zsN M 17 i0 0 (zmN M 17 p1 0)) 17 i0 1 (zmI (zsN M 17 i0 0 (zmN M 17 p1 0)) 17 p1 1)) 17 i0 2 (zmI (zsI (zsN M 17 i0 0 (zmN M 17 p1 0)) 17 i0 1 (zmI (zsN M 17 i0 0 (zmN M 17 p1 0)) 17 p1 1)) 17 p1 2)) 17 p1 3)) 17 p1 4)) 17 i0 5 (zmI (zsI (zsI (zsI (zsI (zsN M 17 i0 0 (zmN M 17 p1 0)) 17 i0 1 (zmI (zsN M 17 i0 0 (zmN M 17 p1 0)) 17 p1 1)) 17 i0 2 (zmI (zsI (zsN M 17 i0 0 (zmN M 17 p1 0)) 17 i0 1 (zmI (zsN M 17 i0 0 (zmN M 17 p1 0)) 17 p1 1)) 17 p1 2)) 17 i0 3 (zmI (zsI (zsI (zsN M 17 i0 0 (zmN M 17 p1 0)) 17 i0 1 (zmI (zsN M 17 i0 0 (zmN M 17 p1 0)) 17 p1 1)) 17 i0 2 (zmI (zsI (zsN M 17 i0 0 (zmN M 17 p1 0)) 17 i0 1 (zmI (zsN M 17 i0 0 (zmN M 17 p1 0)) 17 p1 1)) 17 p1 2)) 17 p1 3)) 17 i0 4 (zmI (zsI (zsI (zsI (zsN M 17 i0 0 (zmN M 17 p1 0)) 17 i0 1 (zmI (zsN M 17 i0 0 (zmN M 17 p1 0)) 17 p1 1)) 17 i0 2 (zmI (zsI (zsN M 17 i0 0 (zmN M 17 p1 0)) 17 i0 1 (zmI (zsN M 17 i0 0 (zmN M 17 p1 0)) 17 p1 1)) 17 p1 2)) 17 i0 3 (zmI (zsI (zsI (zsN M 17 i0 0 (zmN M 17 p1 0)) 17 i0 1 (zmI (zsN M 17 i0 0 (zmN M 17 p1 0)) 17 p1 1)) 17 i0 2 (zmI (zsI (zsN M 17 i0 0 (zmN M 17 p1 0)) 17 i0 1 (zmI (zsN M 17 i0 0 (zmN M 17 p1 0)) 17 p1 1)) 17 p1 2)) 17 p1 3)) 17 p1 4)) 17 p1 5)) 17 p1 6)) 17 i0 7 (zmI (zsI (zsI (zsI (zsI (zsI (zsI (zsN M 17 i0 0 (zmN M 17 p1 0)) 17 i0 1 (zmI (zsN M 17 i0 0 (zmN M 17 p1 0)) 17 p1 1)) 17 i0 2 (zmI (zsI (zsN M 17 i0 0 (zmN M 17 p1 0)) 17 i0 1 (zmI (zsN M 17 i0 0 (zmN M 17 p1 0)) 17 p1 1)) 17 p1 2)) 17 i0 3 (zmI (zsI (zsI (zsN M 17 i0 0 (zmN M 17 p1 0)) 17 i0 1 (zmI (zsN M 17 i0 0 (zmN M 17 p1 0)) 17 p1 1)) 17 i0 2 (zmI (zsI (zsN M 17 i0 0 (zmN M 17 p1 0)) 17 i0 1 (zmI (zsN M 17 i0 0 (zmN M 17 p1 0)) 17 p1 1)) 17 p1 2)) 17 p1 3)) 17 i0 4 (zmI (zsI (zsI (zsI (zsN M 17 i0 0 (zmN M 17 p1 0)) 17 i0 1 (zmI (zsN M 17 i0 0 (zmN M 17 p1 0)) 17 p1 1)) 17 i0 2 (zmI (zsI (zsN M 17 i0 0 (zmN M 17 p1 0)) 17 i0 1 (zmI (zsN M 17 i0 0 (zmN M 17 p1 0)) 17 p1 1)) 17 p1 2)) 17 i0 3 (zmI (zsI (zsI (zsN M 17 i0 0 (zmN M 17 p1 0)) 17 i0 1 (zmI (zsN M 17 i0 0 (zmN M 17 p1 0)) 17 p1 1)) 17 i0 2 (zmI (zsI (zsN M 17 i0 0 (zmN M 17 p1 0)) 17 i0 1 (zmI (zsN M 17 i0 0 (zmN M 17 p1 0)) 17 p1 1)) 17 p1 2)) 17 p1 3)) 17 p1 4)) 17 i0 5 (zmI (zsI (zsI (zsI (zsI (zsN M 17 i0 0 (zmN M 17 p1 0)) 17 i0 1 (zmI (zsN M 17 i0 0 (zmN M 17 p1 0)) 17 p1 1)) 17 i0 2 (zmI (zsI (zsN M 17 i0 0 (zmN M 17 p1 0)) 17 i0 1 (zmI (zsN M 17 i0 0 (zmN M 17 p1 0)) 17 p1 1)) 17 p1 2)) 17 i0 3 (zmI (zsI (zsI (zsN M 17 i0 0 (zmN M 17 p1 0)) 17 i0 1 (zmI (zsN M 17 i0 0 (zmN M 17 p1 0)) 17 p1 1)) 17 i0 2 (zmI (zsI (zsN M 17 i0 0 (zmN M 17 p1 0)) 17 i0 1 (zmI (zsN M 17 i0 0 (zmN M 17 p1 0)) 17 p1 1)) 17 p1 2)) 17 p1 3)) 17 i0 4 (zmI (zsI (zsI (zsI (zsN M 17 i0 0 (zmN M 17 p1 0)) 17 i0 1 (zmI (zsN M 17 i0 0 (zmN M 17 p1 0)) 17 p1 1)) 17 i0 2 (zmI (zsI (zsN M 17 i0 0 (zmN M 17 p1 0)) 17 i0 1 (zmI (zsN M 17 i0 0 (zmN M 17 p1 0)) 17 p1 1)) 17 p1 2)) 17 i0 3 (zmI (zsI (zsI (zsN M 17 i0 0 (zmN M 17 p1 0)) 17 i0 1 (zmI (zsN M 17 i0 0 (zmN M 17 p1 0)) 17 p1 1)) 17 i0 2 (zmI (zsI (zsN M 17 i0 0 (zmN M 17 p1 0)) 17 i0 1 (zmI (zsN M 17 i0 0 (zmN M 17 p1 0)) 17 p1 1)) 17 p1 2)) 17 p1 3)) 17 p1 4)) 17 p1 5)) 17 i0 6 (zmI (zsI (zsI (zsI (zsI (zsI (zsN M 17 i0 0 (zmN M 17 p1 0)) 17 i0 1 (zmI (zsN M 17 i0 0 (zmN M 17 p1 0)) 17 p1 1)) 17 i0 2 (zmI (zsI (zsN M 17 i0 0 (zmN M 17 p1 0)) 17 i0 1 (zmI (zsN M 17 i0 0 (zmN M 17 p1 0)) 17 p1 1)) 17 p1 2)) 17 i0 3 (zmI (zsI (zsI (zsN M 17 i0 0 (zmN M 17 p1 0)) 17 i0 1 (zmI (zsN M 17 i0 0 (zmN M 17 p1 0)) 17 p1 1)) 17 i0 2 (zmI (zsI (zsN M 17 i0 0 (zmN M 17 p1 0)) 17 i0 1 (zmI (zsN M 17 i0 0 (zmN M 17 p1 0)) 17 p1 1)) 17 p1 2)) 17 p1 3)) 17 i0 4 (zmI (zsI (zsI (zsI (zsN M 17 i0 0 (zmN M 17 p1 0)) 17 i0 1 (zmI (zsN M 17 i0 0 (zmN M 17 p1 0)) 17 p1 1)) 17 i0 2 (zmI (zsI (zsN M 17 i0 0 (zmN M 17 p1 0)) 17 i0 1 (zmI (zsN M 17 i0 0 (zmN M 17 p1 0)) 17 p1 1)) 17 p1 2)) 17 i0 3 (zmI (zsI (zsI (zsN M 17 i0 0 (zmN M 17 p1 0)) 17 i0 1 (zmI (zsN M 17 i0 0 (zmN M 17 p1 0)) 17 p1 1)) 17 i0 2 (zmI (zsI (zsN M 17 i0 0 (zmN M 17 p1 0)) 17 i0 1 (zmI (zsN M 17 i0 0 (zmN M 17 p1 0)) 17 p1 1)) 17 p1 2)) 17 p1 3)) 17 p1 4)) 17 i0 5 (zmI (zsI (zsI (zsI (zsI (zsN M 17 i0 0 (zmN M 17 p1 0)) 17 i0 1 (zmI (zsN M 17 i0 0 (zmN M 17 p1 0)) 17 p1 1)) 17 i0 2 (zmI (zsI (zsN M 17 i0 0 (zmN M 17 p1 0)) 17 i0 1 (zmI (zsN M 17 i0 0 (zmN M 17 p1 0)) 17 p1 1)) 17 p1 2)) 17 i0 3 (zmI (zsI (zsI (zsN M 17 i0 0 (zmN M 17 p1 0)) 17 i0 1 (zmI (zsN M 17 i0 0 (zmN M 17 p1 0)) 17 p1 1)) 17 i0 2 (zmI (zsI (zsN M 17 i0 0 (zmN M 17 p1 0)) 17 i0 1 (zmI (zsN M 17 i0 0 (zmN M 17 p1 0)) 17 p1 1)) 17 p1 2)) 17 p1 3)) 17 i0 4 (zmI (zsI (zsI (zsI (zsN M 17 i0 0 (zmN M 17 p1 0)) 17 i0 1 (zmI (zsN M 17 i0 0 (zmN M 17 p1 0)) 17 p1 1)) 17 i0 2 (zmI (zsI (zsN M 17 i0 0 (zmN M 17 p1 0)) 17 i0 1 (zmI (zsN M 17 i0 0 (zmN M 17 p1 0)) 17 p1 1)) 17 p1 2)) 17 i0 3 (zmI (zsI (zsI (zsN M 17 i0 0 (zmN M 17 p1 0)) 17 i0 1 (zmI (zsN M 17 i0 0 (zmN M 17 p1 0)) 17 p1 1)) 17 i0 2 (zmI (zsI (zsN M 17 i0 0 (zmN M 17 p1 0)) 17 i0 1 (zmI (zsN M 17 i0 0 (zmN M 17 p1 0)) 17 p1 1)) 17 p1 2)) 17 p1 3)) 17 p1 4)) 17 p1 5)) 17 p1 6)) 17 p1 7)) 17 p1 8)) 17 p1 9)) 18 i0 (va_cpy (zmL (zsI (zsI (zsI (zsI (zsI (zsI (zsI (zsI (zsI (zsN M 17 i0 0 (zmN M 17 p1 0)) 17 i0 1 (zmI (zsN M 17 i0 0 (zmN M 17 p1 0)) 17 p1 1)) 17 i0 2 (zmI (zsI (zsN M 17 i0 0 (zmN M 17 p1 0)) 17 i0 1 (zmI (zsN M 17 i0 0 (zmN M 17 p1 0)) 17 p1 1)) 17 p1 2)) 17 i0 3 (zmI (zsI (zsI (zsN M 17 i0 0 (zmN M 17 p1 0)) 17 i0 1 (zmI (zsN M 17 i0 0 (zmN M 17 p1 0)) 17 p1 1)) 17 i0 2 (zmI (zsI (zsN M 17 i0 0 (zmN M 17 p1 0)) 17 i0 1 (zmI (zsN M 17 i0 0 (zmN M 17 p1 0)) 17 p1 1)) 17 p1 2)) 17 p1 3)) 17 i0 4 (zmI (zsI (zsI (zsI (zsN M 17 i0 0 (zmN M 17 p1 0)) 17 i0 1 (zmI (zsN M 17 i0 0 (zmN M 17 p1 0)) 17 p1 1)) 17 i0 2 (zmI (zsI (zsN M 17 i0 0 (zmN M 17 p1 0)) 17 i0 1 (zmI (zsN M 17 i0 0 (zmN M 17 p1 0)) 17 p1 1)) 17 p1 2)) 17 i0 3 (zmI (zsI (zsI (zsN M 17 i0 0 (zmN M 17 p1 0)) 17 i0 1 (zmI (zsN M 17 i0 0 (zmN M 17 p1 0)) 17 p1 1)) 17 i0 2 (zmI (zsI (zsN M 17 i0 0 (zmN M 17 p1 0)) 17 i0 1 (zmI (zsN M 17 i0 0 (zmN M 17 p1 0)) 17 p1 1)) 17 p1 2)) 17 p1 3)) 17 p1 4)) 17 i0 5 (zmI (zsI (zsI (zsI (zsI (zsN M 17 i0 0 (zmN M 17 p1 0)) 17 i0 1 (zmI (zsN M 17 i0 0 (zmN M 17 p1 0)) 17 p1 1)) 17 i0 2 (zmI (zsI (zsN M 17 i0 0 (zmN M 17 p1 0)) 17 i0 1 (zmI (zsN M 17 i0 0 (zmN M 17 p1 0)) 17 p1 1)) 17 p1 2)) 17 i0 3 (zmI (zsI (zsI (zsN M 17 i0 0 (zmN M 17 p1 0)) 17 i0 1 (zmI (zsN M 17 i0 0 (zmN M 17 p1 0)) 17 p1 1)) 17 i0 2 (zmI (zsI (zsN M 17 i0 0 (zmN M 17 p1 0)) 17 i0 1 (zmI (zsN M 17 i0 0 (zmN M 17 p1 0)) 17 p1 1)) 17 p1 2)) 17 p1 3)) 17 i0 4 (zmI (zsI (zsI (zsI (zsN M 17 i0 0 (zmN M 17 p1 0)) 17 i0 1 (zmI (zsN M 17 i0 0 (zmN M 17 p1 0)) 17 p1 1)) 17 i0 2 (zmI (zsI (zsN M 17 i0 0 (zmN M 17 p1 0)) 17 i0 1 (zmI (zsN M 17 i0 0 (zmN M 17 p1 0)) 17 p1 1)) 17 p1 2)) 17 i0 3 (zmI (zsI (zsI (zsN M 17 i0 0 (zmN M 17 p1 0)) 17 i0 1 (zmI (zsN M 17 i0 0 (zmN M 17 p1 0)) 17 p1 1)) 17 i0 2 (zmI (zsI (zsN M 17 i0 0 (zmN M 17 p1 0)) 17 i0 1 (zmI (zsN M 17 i0 0 (zmN M 17 p1 0)) 17 p1 1)) 17 p1 2)) 17 p1 3)) 17 p1 4)) 17 p1 5)) 17 i0 6 (zmI (zsI (zsI (zsI (zsI (zsI (zsN M 17 i0 0 (zmN M 17 p1 0)) 17 i0 1 (zmI (zsN M 17 i0 0 (zmN M 17 p1 0)) 17 p1 1)) 17 i0 2 (zmI (zsI (zsN M 17 i0 0 (zmN M 17 p1 0)) 17 i0 1 (zmI (zsN M 17 i0 0 (zmN M 17 p1 0)) 17 p1 1)) 17 p1 2)) 17 i0 3 (zmI (zsI (zsI (zsN M 17 i0 0 (zmN M 17 p1 0)) 17 i0 1 (zmI (zsN M 17 i0 0 (zmN M 17 p1 0)) 17 p1 1)) 17 i0 2 (zmI (zsI (zsN M 17 i0 0 (zmN M 17 p1 0)) 17 i0 1 (zmI (zsN M 17 i0 0 (zmN M 17 p1 0)) 17 p1 1)) 17 p1 2)) 17 p1 3)) 17 i0 4 (zmI (zsI (zsI (zsI (zsN M 17 i0 0 (zmN M 17 p1 0)) 17 i0 1 (zmI (zsN M 17 i0 0 (zmN M 17 p1 0)) 17 p1 1)) 17 i0 2 (zmI (zsI (zsN M 17 i0 0 (zmN M 17 p1 0)) 17 i0 1 (zmI (zsN M 17 i0 0 (zmN M 17 p1 0)) 17 p1 1)) 17 p1 2)) 17 i0 3 (zmI (zsI (zsI (zsN M 17 i0 0 (zmN M 17 p1 0)) 17 i0 1 (zmI (zsN M 17 i0 0 (zmN M 17 p1 0)) 17 p1 1)) 17 i0 2 (zmI (zsI (zsN M 17 i0 0 (zmN M 17 p1 0)) 17 i0 1 (zmI (zsN M 17 i0 0 (zmN M 17 p1 0)) 17 p1 1)) 17 p1 2)) 17 p1 3)) 17 p1 4)) 17 i0 5 (zmI (zsI (zsI (zsI (zsI (zsN M 17 i0 0 (zmN M 17 p1 0)) 17 i0 1 (zmI (zsN M 17 i0 0 (zmN M 17 p1 0)) 17 p1 1)) 17 i0 2 (zmI (zsI (zsN M 17 i0 0 (zmN M 17 p1 0)) 17 i0 1 (zmI (zsN M 17 i0 0 (zmN M 17 p1 0)) 17 p1 1)) 17 p1 2)) 17 i0 3 (zmI (zsI (zsI (zsN M 17 i0 0 (zmN M 17 p1 0)) 17 i0 1 (zmI (zsN M 17 i0 0 (zmN M 17 p1 0)) 17 p1 1)) 17 i0 2 (zmI (zsI (zsN M 17 i0 0 (zmN M 17 p1 0)) 17 i0 1 (zmI (zsN M 17 i0 0 (zmN M 17 p1 0)) 17 p1 1)) 17 p1 2)) 17 p1 3)) 17 i0 4 (zmI (zsI (zsI (zsI (zsN M 17 i0 0 (zmN M 17 p1 0)) 17 i0 1 (zmI (zsN M 17 i0 0 (zmN M 17 p1 0)) 17 p1 1)) 17 i0 2 (zmI (zsI (zsN M 17 i0 0 (zmN M 17 p1 0)) 17 i0 1 (zmI (zsN M 17 i0 0 (zmN M 17 p1 0)) 17 p1 1)) 17 p1 2)) 17 i0 3 (zmI (zsI (zsI (zsN M 17 i0 0 (zmN M 17 p1 0)) 17 i0 1 (zmI (zsN M 17 i0 0 (zmN M 17 p1 0)) 17 p1 1)) 17 i0 2 (zmI (zsI (zsN M 17 i0 0 (zmN M 17 p1 0)) 17 i0 1 (zmI (zsN M 17 i0 0 (zmN M 17 p1 0)) 17 p1 1)) 17 p1 2)) 17 p1 3)) 17 p1 4)) 17 p1 5)) 17 p1 6)) 17 i0 7 (zmI (zsI (zsI (zsI (zsI (zsI (zsI (zsN M 17 i0 0 (zmN M 17 p1 0)) 17 i0 1 (zmI (zsN M 17 i0 0 (zmN M 17 p1 0)) 17 p1 1)) 17 i0 2 (zmI (zsI (zsN M 17 i0 0 (zmN M 17 p1 0)) 17 i0 1 (zmI (zsN M 17 i0 0 (zmN M 17 p1 0)) 17 p1 1)) 17 p1 2)) 17 i0 3 (zmI (zsI (zsI (zsN M 17 i0 0 (zmN M 17 p1 0)) 17 i0 1 (zmI (zsN M 17 i0 0 (zmN M 17 p1 0)) 17 p1 1)) 17 i0 2 (zmI (zsI (zsN M 17 i0 0 (zmN M 17 p1 0)) 17 i0 1 (zmI (zsN M 17 i0 0 (zmN M 17 p1 0)) 17 p1 1)) 17 p1 2)) 17 p1 3)) 17 i0 4 (zmI (zsI (zsI (zsI (zsN M 17 i0 0 (zmN M 17 p1 0)) 17 i0 1 (zmI (zsN M 17 i0 0 (zmN M 17 p1 0)) 17 p1 1)) 17 i0 2 (zmI (zsI (zsN M 17 i0 0 (zmN M 17 p1 0)) 17 i0 1 (zmI (zsN M 17 i0 0 (zmN M 17 p1 0)) 17 p1 1)) 17 p1 2)) 17 i0 3 (zmI (zsI (zsI (zsN M 17 i0 0 (zmN M 17 p1 0)) 17 i0 1 (zmI (zsN M 17 i0 0 (zmN M 17 p1 0)) 17 p1 1)) 17 i0 2 (zmI (zsI (zsN M 17 i0 0 (zmN M 17 p1 0)) 17 i0 1 (zmI (zsN M 17 i0 0 (zmN M 17 p1 0)) 17 p1 1)) 17 p1 2)) 17 p1 3)) 17 p1 4)) 17 i0 5 (zmI (zsI (zsI (zsI (zsI (zsN M 17 i0 0 (zmN M 17 p1 0)) 17 i0 1 (zmI (zsN M 17 i0 0 (zmN M 17 p1 0)) 17 p1 1)) 17 i0 2 (zmI (zsI (zsN M 17 i0 0 (zmN M 17 p1 0)) 17 i0 1 (zmI (zsN M 17 i0 0 (zmN M 17 p1 0)) 17 p1 1)) 17 p1 2)) 17 i0 3 (zmI (zsI (zsI (zsN M 17 i0 0 (zmN M 17 p1 0)) 17 i0 1 (zmI (zsN M 17 i0 0 (zmN M 17 p1 0)) 17 p1 1)) 17 i0 2 (zmI (zsI (zsN M 17 i0 0 (zmN M 17 p1 0)) 17 i0 1 (zmI (zsN M 17 i0 0 (zmN M 17 p1 0)) 17 p1 1)) 17 p1 2)) 17 p1 3)) 17 i0 4 (zmI (zsI (zsI (zsI (zsN M 17 i0 0 (zmN M 17 p1 0)) 17 i0 1 (zmI (zsN M 17 i0 0 (zmN M 17 p1 0)) 17 p1 1)) 17 i0 2 (zmI (zsI (zsN M 17 i0 0 (zmN M 17 p1 0)) 17 i0 1 (zmI (zsN M 17 i0 0 (zmN M 17 p1 0)) 17 p1 1)) 17 p1 2)) 17 i0 3 (zmI (zsI (zsI (zsN M 17 i0 0 (zmN M 17 p1 0)) 17 i0 1 (zmI (zsN M 17 i0 0 (zmN M 17 p1 0)) 17 p1 1)) 17 i0 2 (zmI (zsI (zsN M 17 i0 0 (zmN M 17 p1 0)) 17 i0 1 (zmI (zsN M 17 i0 0 (zmN M 17 p1 0)) 17 p1 1)) 17 p1 2)) 17 p1 3)) 17 p1 4)) 17 p1 5)) 17 i0 6 (zmI (zsI (zsI (zsI (zsI (zsI (zsN M 17 i0 0 (zmN M 17 p1 0)) 17 i0 1 (zmI (zsN M 17 i0 0 (zmN M 17 p1 0)) 17 p1 1)) 17 i0 2 (zmI (zsI (zsN M 17 i0 0 (zmN M 17 p1 0)) 17 i0 1 (zmI (zsN M 17 i0 0 (zmN M 17 p1 0)) 17 p1 1)) 17 p1 2)) 17 i0 3 (zmI (zsI (zsI (zsN M 17 i0 0 (zmN M 17 p1 0)) 17 i0 1 (zmI (zsN M 17 i0 0 (zmN M 17 p1 0)) 17 p1 1)) 17 i0 2 (zmI (zsI (zsN M 17 i0 0 (zmN M 17 p1 0)) 17 i0 1 (zmI (zsN M 17 i0 0 (zmN M 17 p1 0)) 17 p1 1)) 17 p1 2)) 17 p1 3)) 17 i0 4 (zmI (zsI (zsI (zsI (zsN M 17 i0 0 (zmN M 17 p1 0)) 17 i0 1 (zmI (zsN M 17 i0 0 (zmN M 17 p1 0)) 17 p1 1)) 17 i0 2 (zmI (zsI (zsN M 17 i0 0 (zmN M 17 p1 0)) 17 i0 1 (zmI (zsN M 17 i0 0 (zmN M 17 p1 0)) 17 p1 1)) 17 p1 2)) 17 i0 3 (zmI (zsI (zsI (zsN M 17 i0 0 (zmN M 17 p1 0)) 17 i0 1 (zmI (zsN M 17 i0 0 (zmN M 17 p1 0)) 17 p1 1)) 17 i0 2 (zmI (zsI (zsN M 17 i0 0 (zmN M 17 p1 0)) 17 i0 1 (zmI (zsN M 17 i0 0 (zmN M 17 p1 0)) 17 p1 1)) 17 p1 2)) 17 p1 3)) 17 p1 4)) 17 i0 5 (zmI (zsI (zsI (zsI (zsI (zsN M 17 i0 0 (zmN M 17 p1 0)) 17 i0 1 (zmI (zsN M 17 i0 0 (zmN M 17 p1 0)) 17 p1 1)) 17 i0 2 (zmI (zsI (zsN M 17 i0 0 (zmN M 17 p1 0)) 17 i0 1 (zmI (zsN M 17 i0 0 (zmN M 17 p1 0)) 17 p1 1)) 17 p1 2)) 17 i0 3 (zmI (zsI (zsI (zsN M 17 i0 0 (zmN M 17 p1 0)) 17 i0 1 (zmI (zsN M 17 i0 0 (zmN M 17 p1 0)) 17 p1 1)) 17 i0 2 (zmI (zsI (zsN M 17 i0 0 (zmN M 17 p1 0)) 17 i0 1 (zmI (zsN M 17 i0 0 (zmN M 17 p1 0)) 17 p1 1)) 17 p1 2)) 17 p1 3)) 17 i0 4 (zmI (zsI (zsI (zsI (zsN M 17 i0 0 (zmN M 17 p1 0)) 17 i0 1 (zmI (zsN M 17 i0 0 (zmN M 17 p1 0)) 17 p1 1)) 17 i0 2 (zmI (zsI (zsN M 17 i0 0 (zmN M 17 p1 0)) 17 i0 1 (zmI (zsN M 17 i0 0 (zmN M 17 p1 0)) 17 p1 1)) 17 p1 2)) 17 i0 3 (zmI (zsI (zsI (zsN M 17 i0 0 (zmN M 17 p1 0)) 17 i0 1 (zmI (zsN M 17 i0 0 (zmN M 17 p1 0)) 17 p1 1)) 17 i0 2 (zmI (zsI (zsN M 17 i0 0 (zmN M 17 p1 0)) 17 i0 1 (zmI (zsN M 17 i0 0 (zmN M 17 p1 0)) 17 p1 1)) 17 p1 2)) 17 p1 3)) 17 p1 4)) 17 p1 5)) 17 p1 6)) 17 p1 7)) 17 i0 8 (zmI (zsI (zsI (zsI (zsI (zsI (zsI (zsI (zsN M 17 i0 0 (zmN M 17 p1 0)) 17 i0 1 (zmI (zsN M 17 i0 0 (zmN M 17 p1 0)) 17 p1 1)) 17 i0 2 (zmI (zsI (zsN M 17 i0 0 (zmN M 17 p1 0)) 17 i0 1 (zmI (zsN M 17 i0 0 (zmN M 17 p1 0)) 17 p1 1)) 17 p1 2)) 17 i0 3 (zmI (zsI (zsI (zsN M 17 i0 0 (zmN M 17 p1 0)) 17 i0 1 (zmI (zsN M 17 i0 0 (zmN M 17 p1 0)) 17 p1 1)) 17 i0 2 (zmI (zsI (zsN M 17 i0 0 (zmN M 17 p1 0)) 17 i0 1 (zmI (zsN M 17 i0 0 (zmN M 17 p1 0)) 17 p1 1)) 17 p1 2)) 17 p1 3)) 17 i0 4 (zmI (zsI (zsI (zsI (zsN M 17 i0 0 (zmN M 17 p1 0)) 17 i0 1 (zmI (zsN M 17 i0 0 (zmN M 17 p1 0)) 17 p1 1)) 17 i0 2 (zmI (zsI (zsN M 17 i0 0 (zmN M 17 p1 0)) 17 i0 1 (zmI (zsN M 17 i0 0 (zmN M 17 p1 0)) 17 p1 1)) 17 p1 2)) 17 i0 3 (zmI (zsI (zsI (zsN M 17 i0 0 (zmN M 17 p1 0)) 17 i0 1 (zmI (zsN M 17 i0 0 (zmN M 17 p1 0)) 17 p1 1)) 17 i0 2 (zmI (zsI (zsN M 17 i0 0 (zmN M 17 p1 0)) 17 i0 1 (zmI (zsN M 17 i0 0 (zmN M 17 p1 0)) 17 p1 1)) 17 p1 2)) 17 p1 3)) 17 p1 4)) 17 i0 5 (zmI (zsI (zsI (zsI (zsI (zsN M 17 i0 0 (zmN M 17 p1 0)) 17 i0 1 (zmI (zsN M 17 i0 0 (zmN M 17 p1 0)) 17 p1 1)) 17 i0 2 (zmI (zsI (zsN M 17 i0 0 (zmN M 17 p1 0)) 17 i0 1 (zmI (zsN M 17 i0 0 (zmN M 17 p1 0)) 17 p1 1)) 17 p1 2)) 17 i0 3 (zmI (zsI (zsI (zsN M 17 i0 0 (zmN M 17 p1 0)) 17 i0 1 (zmI (zsN M 17 i0 0 (zmN M 17 p1 0)) 17 p1 1)) 17 i0 2 (zmI (zsI (zsN M 17 i0 0 (zmN M 17 p1 0)) 17 i0 1 (zmI (zsN M 17 i0 0 (zmN M 17 p1 0)) 17 p1 1)) 17 p1 2)) 17 p1 3)) 17 i0 4 (zmI (zsI (zsI (zsI (zsN M 17 i0 0 (zmN M 17 p1 0)) 17 i0 1 (zmI (zsN M 17 i0 0 (zmN M 17 p1 0)) 17 p1 1)) 17 i0 2 (zmI (zsI (zsN M 17 i0 0 (zmN M 17 p1 0)) 17 i0 1 (zmI (zsN M 17 i0 0 (zmN M 17 p1 0)) 17 p1 1)) 17 p1 2)) 17 i0 3 (zmI (zsI (zsI (zsN M 17 i0 0 (zmN M 17 p1 0)) 17 i0 1 (zmI (zsN M 17 i0 0 (zmN M 17 p1 0)) 17 p1 1)) 17 i0 2 (zmI (zsI (zsN M 17 i0 0 (zmN M 17 p1 0)) 17 i0 1 (zmI (zsN M 17 i0 0 (zmN M 17 p1 0)) 17 p1 1)) 17 p1 2)) 17 p1 3)) 17 p1 4)) 17 p1 5)) 17 i0 6 (zmI (zsI (zsI (zsI (zsI (zsI (zsN M 17 i0 0 (zmN M 17 p1 0)) 17 i0 1 (zmI (zsN M 17 i0 0 (zmN M 17 p1 0)) 17 p1 1)) 17 i0 2 (zmI (zsI (zsN M 17 i0 0 (zmN M 17 p1 0)) 17 i0 1 (zmI (zsN M 17 i0 0 (zmN M 17 p1 0)) 17 p1 1)) 17 p1 2)) 17 i0 3 (zmI (zsI (zsI (zsN M 17 i0 0 (zmN M 17 p1 0)) 17 i0 1 (zmI (zsN M 17 i0 0 (zmN M 17 p1 0)) 17 p1 1)) 17 i0 2 (zmI (zsI (zsN M 17 i0 0 (zmN M 17 p1 0)) 17 i0 1 (zmI (zsN M 17 i0 0 (zmN M 17 p1 0)) 17 p1 1)) 17 p1 2)) 17 p1 3)) 17 i0 4 (zmI (zsI (zsI (zsI (zsN M 17 i0 0 (zmN M 17 p1 0)) 17 i0 1 (zmI (zsN M 17 i0 0 (zmN M 17 p1 0)) 17 p1 1)) 17 i0 2 (zmI (zsI (zsN M 17 i0 0 (zmN M 17 p1 0)) 17 i0 1 (zmI (zsN M 17 i0 0 (zmN M 17 p1 0)) 17 p1 1)) 17 p1 2)) 17 i0 3 (zmI (zsI (zsI (zsN M 17 i0 0 (zmN M 17 p1 0)) 17 i0 1 (zmI (zsN M 17 i0 0 (zmN M 17 p1 0)) 17 p1 1)) 17 i0 2 (zmI (zsI (zsN M 17 i0 0 (zmN M 17 p1 0)) 17 i0 1 (zmI (zsN M 17 i0 0 (zmN M 17 p1 0)) 17 p1 1)) 17 p1 2)) 17 p1 3)) 17 p1 4)) 17 i0 5 (zmI (zsI (zsI (zsI (zsI (zsN M 17 i0 0 (zmN M 17 p1 0)) 17 i0 1 (zmI (zsN M 17 i0 0 (zmN M 17 p1 0)) 17 p1 1)) 17 i0 2 (zmI (zsI (zsN M 17 i0 0 (zmN M 17 p1 0)) 17 i0 1 (zmI (zsN M 17 i0 0 (zmN M 17 p1 0)) 17 p1 1)) 17 p1 2)) 17 i0 3 (zmI (zsI (zsI (zsN M 17 i0 0 (zmN M 17 p1 0)) 17 i0 1 (zmI (zsN M 17 i0 0 (zmN M 17 p1 0)) 17 p1 1)) 17 i0 2 (zmI (zsI (zsN M 17 i0 0 (zmN M 17 p1 0)) 17 i0 1 (zmI (zsN M 17 i0 0 (zmN M 17 p1 0)) 17 p1 1)) 17 p1 2)) 17 p1 3)) 17 i0 4 (zmI (zsI (zsI (zsI (zsN M 17 i0 0 (zmN M 17 p1 0)) 17 i0 1 (zmI (zsN M 17 i0 0 (zmN M 17 p1 0)) 17 p1 1)) 17 i0 2 (zmI (zsI (zsN M 17 i0 0 (zmN M 17 p1 0)) 17 i0 1 (zmI (zsN M 17 i0 0 (zmN M 17 p1 0)) 17 p1 1)) 17 p1 2)) 17 i0 3 (zmI (zsI (zsI (zsN M 17 i0 0 (zmN M 17 p1 0)) 17 i0 1 (zmI (zsN M 17 i0 0 (zmN M 17 p1 0)) 17 p1 1)) 17 i0 2 (zmI (zsI (zsN M 17 i0 0 (zmN M 17 p1 0)) 17 i0 1 (zmI (zsN M 17 i0 0 (zmN M 17 p1 0)) 17 p1 1)) 17 p1 2)) 17 p1 3)) 17 p1 4)) 17 p1 5)) 17 p1 6)) 17 i0 7 (zmI (zsI (zsI (zsI (zsI (zsI (zsI (zsN M 17 i0 0 (zmN M 17 p1 0)) 17 i0 1 (zmI (zsN M 17 i0 0 (zmN M 17 p1 0)) 17 p1 1)) 17 i0 2 (zmI (zsI (zsN M 17 i0 0 (zmN M 17 p1 0)) 17 i0 1 (zmI (zsN M 17 i0 0 (zmN M 17 p1 0)) 17 p1 1)) 17 p1 2)) 17 i0 3 (zmI (zsI (zsI (zsN M 17 i0 0 (zmN M 17 p1 0)) 17 i0 1 (zmI (zsN M 17 i0 0 (zmN M 17 p1 0)) 17 p1 1)) 17 i0 2 (zmI (zsI (zsN M 17 i0 0 (zmN M 17 p1 0)) 17 i0 1 (zmI (zsN M 17 i0 0 (zmN M 17 p1 0)) 17 p1 1)) 17 p1 2)) 17 p1 3)) 17 i0 4 (zmI (zsI (zsI (zsI (zsN M 17 i0 0 (zmN M 17 p1 0)) 17 i0 1 (zmI (zsN M 17 i0 0 (zmN M 17 p1 0)) 17 p1 1)) 17 i0 2 (zmI (zsI (zsN M 17 i0 0 (zmN M 17 p1 0)) 17 i0 1 (zmI (zsN M 17 i0 0 (zmN M 17 p1 0)) 17 p1 1)) 17 p1 2)) 17 i0 3 (zmI (zsI (zsI (zsN M 17 i0 0 (zmN M 17 p1 0)) 17 i0 1 (zmI (zsN M 17 i0 0 (zmN M 17 p1 0)) 17 p1 1)) 17 i0 2 (zmI (zsI (zsN M 17 i0 0 (zmN M 17 p1 0)) 17 i0 1 (zmI (zsN M 17 i0 0 (zmN M 17 p1 0)) 17 p1 1)) 17 p1 2)) 17 p1 3)) 17 p1 4)) 17 i0 5 (zmI (zsI (zsI (zsI (zsI (zsN M 17 i0 0 (zmN M 17 p1 0)) 17 i0 1 (zmI (zsN M 17 i0 0 (zmN M 17 p1 0)) 17 p1 1)) 17 i0 2 (zmI (zsI (zsN M 17 i0 0 (zmN M 17 p1 0)) 17 i0 1 (zmI (zsN M 17 i0 0 (zmN M 17 p1 0)) 17 p1 1)) 17 p1 2)) 17 i0 3 (zmI (zsI (zsI (zsN M 17 i0 0 (zmN M 17 p1 0)) 17 i0 1 (zmI (zsN M 17 i0 0 (zmN M 17 p1 0)) 17 p1 1)) 17 i0 2 (zmI (zsI (zsN M 17 i0 0 (zmN M 17 p1 0)) 17 i0 1 (zmI (zsN M 17 i0 0 (zmN M 17 p1 0)) 17 p1 1)) 17 p1 2)) 17 p1 3)) 17 i0 4 (zmI (zsI (zsI (zsI (zsN M 17 i0 0 (zmN M 17 p1 0)) 17 i0 1 (zmI (zsN M 17 i0 0 (zmN M 17 p1 0)) 17 p1 1)) 17 i0 2 (zmI (zsI (zsN M 17 i0 0 (zmN M 17 p1 0)) 17 i0 1 (zmI (zsN M 17 i0 0 (zmN M 17 p1 0)) 17 p1 1)) 17 p1 2)) 17 i0 3 (zmI (zsI (zsI (zsN M 17 i0 0 (zmN M 17 p1 0)) 17 i0 1 (zmI (zsN M 17 i0 0 (zmN M 17 p1 0)) 17 p1 1)) 17 i0 2 (zmI (zsI (zsN M 17 i0 0 (zmN M 17 p1 0)) 17 i0 1 (zmI (zsN M 17 i0 0 (zmN M 17 p1 0)) 17 p1 1)) 17 p1 2)) 17 p1 3)) 17 p1 4)) 17 p1 5)) 17 i0 6 (zmI (zsI (zsI (zsI (zsI (zsI (zsN M 17 i0 0 (zmN M 17 p1 0)) 17 i0 1 (zmI (zsN M 17 i0 0 (zmN M 17 p1 0)) 17 p1 1)) 17 i0 2 (zmI (zsI (zsN M 17 i0 0 (zmN M 17 p1 0)) 17 i0 1 (zmI (zsN M 17 i0 0 (zmN M 17 p1 0)) 17 p1 1)) 17 p1 2)) 17 i0 3 (zmI (zsI (zsI (zsN M 17 i0 0 (zmN M 17 p1 0)) 17 i0 1 (zmI (zsN M 17 i0 0 (zmN M 17 p1 0)) 17 p1 1)) 17 i0 2 (zmI (zsI (zsN M 17 i0 0 (zmN M 17 p1 0)) 17 i0 1 (zmI (zsN M 17 i0 0 (zmN M 17 p1 0)) 17 p1 1)) 17 p1 2)) 17 p1 3)) 17 i0 4 (zmI (zsI (zsI (zsI (zsN M 17 i0 0 (zmN M 17 p1 0)) 17 i0 1 (zmI (zsN M 17 i0 0 (zmN M 17 p1 0)) 17 p1 1)) 17 i0 2 (zmI (zsI (zsN M 17 i0 0 (zmN M 17 p1 0)) 17 i0 1 (zmI (zsN M 17 i0 0 (zmN M 17 p1 0)) 17 p1 1)) 17 p1 2)) 17 i0 3 (zmI (zsI (zsI (zsN M 17 i0 0 (zmN M 17 p1 0)) 17 i0 1 (zmI (zsN M 17 i0 0 (zmN M 17 p1 0)) 17 p1 1)) 17 i0 2 (zmI (zsI (zsN M 17 i0 0 (zmN M 17 p1 0)) 17 i0 1 (zmI (zsN M 17 i0 0 (zmN M 17 p1 0)) 17 p1 1)) 17 p1 2)) 17 p1 3)) 17 p1 4)) 17 i0 5 (zmI (zsI (zsI (zsI (zsI (zsN M 17 i0 0 (zmN M 17 p1 0)) 17 i0 1 (zmI (zsN M 17 i0 0 (zmN M 17 p1 0)) 17 p1 1)) 17 i0 2 (zmI (zsI (zsN M 17 i0 0 (zmN M 17 p1 0)) 17 i0 1 (zmI (zsN M 17 i0 0 (zmN M 17 p1 0)) 17 p1 1)) 17 p1 2)) 17 i0 3 (zmI (zsI (zsI (zsN M 17 i0 0 (zmN M 17 p1 0)) 17 i0 1 (zmI (zsN M 17 i0 0 (zmN M 17 p1 0)) 17 p1 1)) 17 i0 2 (zmI (zsI (zsN M 17 i0 0 (zmN M 17 p1 0)) 17 i0 1 (zmI (zsN M 17 i0 0 (zmN M 17 p1 0)) 17 p1 1)) 17 p1 2)) 17 p1 3)) 17 i0 4 (zmI (zsI (zsI (zsI (zsN M 17 i0 0 (zmN M 17 p1 0)) 17 i0 1 (zmI (zsN M 17 i0 0 (zmN M 17 p1 0)) 17 p1 1)) 17 i0 2 (zmI (zsI (zsN M 17 i0 0 (zmN M 17 p1 0)) 17 i0 1 (zmI (zsN M 17 i0 0 (zmN M 17 p1 0)) 17 p1 1)) 17 p1 2)) 17 i0 3 (zmI (zsI (zsI (zsN M 17 i0 0 (zmN M 17 p1 0)) 17 i0 1 (zmI (zsN M 17 i0 0 (zmN M 17 p1 0)) 17 p1 1)) 17 i0 2 (zmI (zsI (zsN M 17 i0 0 (zmN M 17 p1 0)) 17 i0 1 (zmI (zsN M 17 i0 0 (zmN M 17 p1 0)) 17 p1 1)) 17 p1 2)) 17 p1 3)) 17 p1 4)) 17 p1 5)) 17 p1 6)) 17 p1 7)) 17 p1 8)) 17 i0 9 (zmI (zsI (zsI (zsI (zsI (zsI (zsI (zsI (zsI (zsN M 17 i0 0 (zmN M 17 p1 0)) 17 i0 1 (zmI (zsN M 17 i0 0 (zmN M 17 p1 0)) 17 p1 1)) 17 i0 2 (zmI (zsI (zsN M 17 i0 0 (zmN M 17 p1 0)) 17 i0 1 (zmI (zsN M 17 i0 0 (zmN M 17 p1 0)) 17 p1 1)) 17 p1 2)) 17 i0 3 (zmI (zsI (zsI (zsN M 17 i0 0 (zmN M 17 p1 0)) 17 i0 1 (zmI (zsN M 17 i0 0 (zmN M 17 p1 0)) 17 p1 1)) 17 i0 2 (zmI (zsI (zsN M 17 i0 0 (zmN M 17 p1 0)) 17 i0 1 (zmI (zsN M 17 i0 0 (zmN M 17 p1 0)) 17 p1 1)) 17 p1 2)) 17 p1 3)) 17 i0 4 (zmI (zsI (zsI (zsI (zsN M 17 i0 0 (zmN M 17 p1 0)) 17 i0 1 (zmI (zsN M 17 i0 0 (zmN M 17 p1 0)) 17 p1 1)) 17 i0 2 (zmI (zsI (zsN M 17 i0 0 (zmN M 17 p1 0)) 17 i0 1 (zmI (zsN M 17 i0 0 (zmN M 17 p1 0)) 17 p1 1)) 17 p1 2)) 17 i0 3 (zmI (zsI (zsI (zsN M 17 i0 0 (zmN M 17 p1 0)) 17 i0 1 (zmI (zsN M 17 i0 0 (zmN M 17 p1 0)) 17 p1 1)) 17 i0 2 (zmI (zsI (zsN M 17 i0 0 (zmN M 17 p1 0)) 17 i0 1 (zmI (zsN M 17 i0 0 (zmN M 17 p1 0)) 17 p1 1)) 17 p1 2)) 17 p1 3)) 17 p1 4)) 17 i0 5 (zmI (zsI (zsI (zsI (zsI (zsN M 17 i0 0 (zmN M 17 p1 0)) 17 i0 1 (zmI (zsN M 17 i0 0 (zmN M 17 p1 0)) 17 p1 1)) 17 i0 2 (zmI (zsI (zsN M 17 i0 0 (zmN M 17 p1 0)) 17 i0 1 (zmI (zsN M 17 i0 0 (zmN M 17 p1 0)) 17 p1 1)) 17 p1 2)) 17 i0 3 (zmI (zsI (zsI (zsN M 17 i0 0 (zmN M 17 p1 0)) 17 i0 1 (zmI (zsN M 17 i0 0 (zmN M 17 p1 0)) 17 p1 1)) 17 i0 2 (zmI (zsI (zsN M 17 i0 0 (zmN M 17 p1 0)) 17 i0 1 (zmI (zsN M 17 i0 0 (zmN M 17 p1 0)) 17 p1 1)) 17 p1 2)) 17 p1 3)) 17 i0 4 (zmI (zsI (zsI (zsI (zsN M 17 i0 0 (zmN M 17 p1 0)) 17 i0 1 (zmI (zsN M 17 i0 0 (zmN M 17 p1 0)) 17 p1 1)) 17 i0 2 (zmI (zsI (zsN M 17 i0 0 (zmN M 17 p1 0)) 17 i0 1 (zmI (zsN M 17 i0 0 (zmN M 17 p1 0)) 17 p1 1)) 17 p1 2)) 17 i0 3 (zmI (zsI (zsI (zsN M 17 i0 0 (zmN M 17 p1 0)) 17 i0 1 (zmI (zsN M 17 i0 0 (zmN M 17 p1 0)) 17 p1 1)) 17 i0 2 (zmI (zsI (zsN M 17 i0 0 (zmN M 17 p1 0)) 17 i0 1 (zmI (zsN M 17 i0 0 (zmN M 17 p1 0)) 17 p1 1)) 17 p1 2)) 17 p1 3)) 17 p1 4)) 17 p1 5)) 17 i0 6 (zmI (zsI (zsI (zsI (zsI (zsI (zsN M 17 i0 0 (zmN M 17 p1 0)) 17 i0 1 (zmI (zsN M 17 i0 0 (zmN M 17 p1 0)) 17 p1 1)) 17 i0 2 (zmI (zsI (zsN M 17 i0 0 (zmN M 17 p1 0)) 17 i0 1 (zmI (zsN M 17 i0 0 (zmN M 17 p1 0)) 17 p1 1)) 17 p1 2)) 17 i0 3 (zmI (zsI (zsI (zsN M 17 i0 0 (zmN M 17 p1 0)) 17 i0 1 (zmI (zsN M 17 i0 0 (zmN M 17 p1 0)) 17 p1 1)) 17 i0 2 (zmI (zsI (zsN M 17 i0 0 (zmN M 17 p1 0)) 17 i0 1 (zmI (zsN M 17 i0 0 (zmN M 17 p1 0)) 17 p1 1)) 17 p1 2)) 17 p1 3)) 17 i0 4 (zmI (zsI (zsI (zsI (zsN M 17 i0 0 (zmN M 17 p1 0)) 17 i0 1 (zmI (zsN M 17 i0 0 (zmN M 17 p1 0)) 17 p1 1)) 17 i0 2 (zmI (zsI (zsN M 17 i0 0 (zmN M 17 p1 0)) 17 i0 1 (zmI (zsN M 17 i0 0 (zmN M 17 p1 0)) 17 p1 1)) 17 p1 2)) 17 i0 3 (zmI (zsI (zsI (zsN M 17 i0 0 (zmN M 17 p1 0)) 17 i0 1 (zmI (zsN M 17 i0 0 (zmN M 17 p1 0)) 17 p1 1)) 17 i0 2 (zmI (zsI (zsN M 17 i0 0 (zmN M 17 p1 0)) 17 i0 1 (zmI (zsN M 17 i0 0 (zmN M 17 p1 0)) 17 p1 1)) 17 p1 2)) 17 p1 3)) 17 p1 4)) 17 i0 5 (zmI (zsI (zsI (zsI (zsI (zsN M 17 i0 0 (zmN M 17 p1 0)) 17 i0 1 (zmI (zsN M 17 i0 0 (zmN M 17 p1 0)) 17 p1 1)) 17 i0 2 (zmI (zsI (zsN M 17 i0 0 (zmN M 17 p1 0)) 17 i0 1 (zmI (zsN M 17 i0 0 (zmN M 17 p1 0)) 17 p1 1)) 17 p1 2)) 17 i0 3 (zmI (zsI (zsI (zsN M 17 i0 0 (zmN M 17 p1 0)) 17 i0 1 (zmI (zsN M 17 i0 0 (zmN M 17 p1 0)) 17 p1 1)) 17 i0 2 (zmI (zsI (zsN M 17 i0 0 (zmN M 17 p1 0)) 17 i0 1 (zmI (zsN M 17 i0 0 (zmN M 17 p1 0)) 17 p1 1)) 17 p1 2)) 17 p1 3)) 17 i0 4 (zmI (zsI (zsI (zsI (zsN M 17 i0 0 (zmN M 17 p1 0)) 17 i0 1 (zmI (zsN M 17 i0 0 (zmN M 17 p1 0)) 17 p1 1)) 17 i0 2 (zmI (zsI (zsN M 17 i0 0 (zmN M 17 p1 0)) 17 i0 1 (zmI (zsN M 17 i0 0 (zmN M 17 p1 0)) 17 p1 1)) 17 p1 2)) 17 i0 3 (zmI (zsI (zsI (zsN M 17 i0 0 (zmN M 17 p1 0)) 17 i0 1 (zmI (zsN M 17 i0 0 (zmN M 17 p1 0)) 17 p1 1)) 17 i0 2 (zmI (zsI (zsN M 17 i0 0 (zmN M 17 p1 0)) 17 i0 1 (zmI (zsN M 17 i0 0 (zmN M 17 p1 0)) 17 p1 1)) 17 p1 2)) 17 p1 3)) 17 p1 4)) 17 p1 5)) 17 p1 6)) 17 i0 7 (zmI (zsI (zsI (zsI (zsI (zsI (zsI (zsN M 17 i0 0 (zmN M 17 p1 0)) 17 i0 1 (zmI (zsN M 17 i0 0 (zmN M 17 p1 0)) 17 p1 1)) 17 i0 2 (zmI (zsI (zsN M 17 i0 0 (zmN M 17 p1 0)) 17 i0 1 (zmI (zsN M 17 i0 0 (zmN M 17 p1 0)) 17 p1 1)) 17 p1 2)) 17 i0 3 (zmI (zsI (zsI (zsN M 17 i0 0 (zmN M 17 p1 0)) 17 i0 1 (zmI (zsN M 17 i0 0 (zmN M 17 p1 0)) 17 p1 1)) 17 i0 2 (zmI (zsI (zsN M 17 i0 0 (zmN M 17 p1 0)) 17 i0 1 (zmI (zsN M 17 i0 0 (zmN M 17 p1 0)) 17 p1 1)) 17 p1 2)) 17 p1 3)) 17 i0 4 (zmI (zsI (zsI (zsI (zsN M 17 i0 0 (zmN M 17 p1 0)) 17 i0 1 (zmI (zsN M 17 i0 0 (zmN M 17 p1 0)) 17 p1 1)) 17 i0 2 (zmI (zsI (zsN M 17 i0 0 (zmN M 17 p1 0)) 17 i0 1 (zmI (zsN M 17 i0 0 (zmN M 17 p1 0)) 17 p1 1)) 17 p1 2)) 17 i0 3 (zmI (zsI (zsI (zsN M 17 i0 0 (zmN M 17 p1 0)) 17 i0 1 (zmI (zsN M 17 i0 0 (zmN M 17 p1 0)) 17 p1 1)) 17 i0 2 (zmI (zsI (zsN M 17 i0 0 (zmN M 17 p1 0)) 17 i0 1 (zmI (zsN M 17 i0 0 (zmN M 17 p1 0)) 17 p1 1)) 17 p1 2)) 17 p1 3)) 17 p1 4)) 17 i0 5 (zmI (zsI (zsI (zsI (zsI (zsN M 17 i0 0 (zmN M 17 p1 0)) 17 i0 1 (zmI (zsN M 17 i0 0 (zmN M 17 p1 0)) 17 p1 1)) 17 i0 2 (zmI (zsI (zsN M 17 i0 0 (zmN M 17 p1 0)) 17 i0 1 (zmI (zsN M 17 i0 0 (zmN M 17 p1 0)) 17 p1 1)) 17 p1 2)) 17 i0 3 (zmI (zsI (zsI (zsN M 17 i0 0 (zmN M 17 p1 0)) 17 i0 1 (zmI (zsN M 17 i0 0 (zmN M 17 p1 0)) 17 p1 1)) 17 i0 2 (zmI (zsI (zsN M 17 i0 0 (zmN M 17 p1 0)) 17 i0 1 (zmI (zsN M 17 i0 0 (zmN M 17 p1 0)) 17 p1 1)) 17 p1 2)) 17 p1 3)) 17 i0 4 (zmI (zsI (zsI (zsI (zsN M 17 i0 0 (zmN M 17 p1 0)) 17 i0 1 (zmI (zsN M 17 i0 0 (zmN M 17 p1 0)) 17 p1 1)) 17 i0 2 (zmI (zsI (zsN M 17 i0 0 (zmN M 17 p1 0)) 17 i0 1 (zmI (zsN M 17 i0 0 (zmN M 17 p1 0)) 17 p1 1)) 17 p1 2)) 17 i0 3 (zmI (zsI (zsI (zsN M 17 i0 0 (zmN M 17 p1 0)) 17 i0 1 (zmI (zsN M 17 i0 0 (zmN M 17 p1 0)) 17 p1 1)) 17 i0 2 (zmI (zsI (zsN M 17 i0 0 (zmN M 17 p1 0)) 17 i0 1 (zmI (zsN M 17 i0 0 (zmN M 17 p1 0)) 17 p1 1)) 17 p1 2)) 17 p1 3)) 17 p1 4)) 17 p1 5)) 17 i0 6 (zmI (zsI (zsI (zsI (zsI (zsI (zsN M 17 i0 0 (zmN M 17 p1 0)) 17 i0 1 (zmI (zsN M 17 i0 0 (zmN M 17 p1 0)) 17 p1 1)) 17 i0 2 (zmI (zsI (zsN M 17 i0 0 (zmN M 17 p1 0)) 17 i0 1 (zmI (zsN M 17 i0 0 (zmN M 17 p1 0)) 17 p1 1)) 17 p1 2)) 17 i0 3 (zmI (zsI (zsI (zsN M 17 i0 0 (zmN M 17 p1 0)) 17 i0 1 (zmI (zsN M 17 i0 0 (zmN M 17 p1 0)) 17 p1 1)) 17 i0 2 (zmI (zsI (zsN M 17 i0 0 (zmN M 17 p1 0)) 17 i0 1 (zmI (zsN M 17 i0 0 (zmN M 17 p1 0)) 17 p1 1)) 17 p1 2)) 17 p1 3)) 17 i0 4 (zmI (zsI (zsI (zsI (zsN M 17 i0 0 (zmN M 17 p1 0)) 17 i0 1 (zmI (zsN M 17 i0 0 (zmN M 17 p1 0)) 17 p1 1)) 17 i0 2 (zmI (zsI (zsN M 17 i0 0 (zmN M 17 p1 0)) 17 i0 1 (zmI (zsN M 17 i0 0 (zmN M 17 p1 0)) 17 p1 1)) 17 p1 2)) 17 i0 3 (zmI (zsI (zsI (zsN M 17 i0 0 (zmN M 17 p1 0)) 17 i0 1 (zmI (zsN M 17 i0 0 (zmN M 17 p1 0)) 17 p1 1)) 17 i0 2 (zmI (zsI (zsN M 17 i0 0 (zmN M 17 p1 0)) 17 i0 1 (zmI (zsN M 17 i0 0 (zmN M 17 p1 0)) 17 p1 1)) 17 p1 2)) 17 p1 3)) 17 p1 4)) 17 i0 5 (zmI (zsI (zsI (zsI (zsI (zsN M 17 i0 0 (zmN M 17 p1 0)) 17 i0 1 (zmI (zsN M 17 i0 0 (zmN M 17 p1 0)) 17 p1 1)) 17 i0 2 (zmI (zsI (zsN M 17 i0 0 (zmN M 17 p1 0)) 17 i0 1 (zmI (zsN M 17 i0 0 (zmN M 17 p1 0)) 17 p1 1)) 17 p1 2)) 17 i0 3 (zmI (zsI (zsI (zsN M 17 i0 0 (zmN M 17 p1 0)) 17 i0 1 (zmI (zsN M 17 i0 0 (zmN M 17 p1 0)) 17 p1 1)) 17 i0 2 (zmI (zsI (zsN M 17 i0 0 (zmN M 17 p1 0)) 17 i0 1 (zmI (zsN M 17 i0 0 (zmN M 17 p1 0)) 17 p1 1)) 17 p1 2)) 17 p1 3)) 17 i0 4 (zmI (zsI (zsI (zsI (zsN M 17 i0 0 (zmN M 17 p1 0)) 17 i0 1 (zmI (zsN M 17 i0 0 (zmN M 17 p1 0)) 17 p1 1)) 17 i0 2 (zmI (zsI (zsN M 17 i0 0 (zmN M 17 p1 0)) 17 i0 1 (zmI (zsN M 17 i0 0 (zmN M 17 p1 0)) 17 p1 1)) 17 p1 2)) 17 i0 3 (zmI (zsI (zsI (zsN M 17 i0 0 (zmN M 17 p1 0)) 17 i0 1 (zmI (zsN M 17 i0 0 (zmN M 17 p1 0)) 17 p1 1)) 17 i0 2 (zmI (zsI (zsN M 17 i0 0 (zmN M 17 p1 0)) 17 i0 1 (zmI (zsN M 17 i0 0 (zmN M 17 p1 0)) 17 p1 1)) 17 p1 2)) 17 p1 3)) 17 p1 4)) 17 p1 5)) 17 p1 6)) 17 p1 7)) 17 i0 8 (zmI (zsI (zsI (zsI (zsI (zsI (zsI (zsI (zsN M 17 i0 0 (zmN M 17 p1 0)) 17 i0 1 (zmI (zsN M 17 i0 0 (zmN M 17 p1 0)) 17 p1 1)) 17 i0 2 (zmI (zsI (zsN M 17 i0 0 (zmN M 17 p1 0)) 17 i0 1 (zmI (zsN M 17 i0 0 (zmN M 17 p1 0)) 17 p1 1)) 17 p1 2)) 17 i0 3 (zmI (zsI (zsI (zsN M 17 i0 0 (zmN M 17 p1 0)) 17 i0 1 (zmI (zsN M 17 i0 0 (zmN M 17 p1 0)) 17 p1 1)) 17 i0 2 (zmI (zsI (zsN M 17 i0 0 (zmN M 17 p1 0)) 17 i0 1 (zmI (zsN M 17 i0 0 (zmN M 17 p1 0)) 17 p1 1)) 17 p1 2)) 17 p1 3)) 17 i0 4 (zmI (zsI (zsI (zsI (zsN M 17 i0 0 (zmN M 17 p1 0)) 17 i0 1 (zmI (zsN M 17 i0 0 (zmN M 17 p1 0)) 17 p1 1)) 17 i0 2 (zmI (zsI (zsN M 17 i0 0 (zmN M 17 p1 0)) 17 i0 1 (zmI (zsN M 17 i0 0 (zmN M 17 p1 0)) 17 p1 1)) 17 p1 2)) 17 i0 3 (zmI (zsI (zsI (zsN M 17 i0 0 (zmN M 17 p1 0)) 17 i0 1 (zmI (zsN M 17 i0 0 (zmN M 17 p1 0)) 17 p1 1)) 17 i0 2 (zmI (zsI (zsN M 17 i0 0 (zmN M 17 p1 0)) 17 i0 1 (zmI (zsN M 17 i0 0 (zmN M 17 p1 0)) 17 p1 1)) 17 p1 2)) 17 p1 3)) 17 p1 4)) 17 i0 5 (zmI (zsI (zsI (zsI (zsI (zsN M 17 i0 0 (zmN M 17 p1 0)) 17 i0 1 (zmI (zsN M 17 i0 0 (zmN M 17 p1 0)) 17 p1 1)) 17 i0 2 (zmI (zsI (zsN M 17 i0 0 (zmN M 17 p1 0)) 17 i0 1 (zmI (zsN M 17 i0 0 (zmN M 17 p1 0)) 17 p1 1)) 17 p1 2)) 17 i0 3 (zmI (zsI (zsI (zsN M 17 i0 0 (zmN M 17 p1 0)) 17 i0 1 (zmI (zsN M 17 i0 0 (zmN M 17 p1 0)) 17 p1 1)) 17 i0 2 (zmI (zsI (zsN M 17 i0 0 (zmN M 17 p1 0)) 17 i0 1 (zmI (zsN M 17 i0 0 (zmN M 17 p1 0)) 17 p1 1)) 17 p1 2)) 17 p1 3)) 17 i0 4 (zmI (zsI (zsI (zsI (zsN M 17 i0 0 (zmN M 17 p1 0)) 17 i0 1 (zmI (zsN M 17 i0 0 (zmN M 17 p1 0)) 17 p1 1)) 17 i0 2 (zmI (zsI (zsN M 17 i0 0 (zmN M 17 p1 0)) 17 i0 1 (zmI (zsN M 17 i0 0 (zmN M 17 p1 0)) 17 p1 1)) 17 p1 2)) 17 i0 3 (zmI (zsI (zsI (zsN M 17 i0 0 (zmN M 17 p1 0)) 17 i0 1 (zmI (zsN M 17 i0 0 (zmN M 17 p1 0)) 17 p1 1)) 17 i0 2 (zmI (zsI (zsN M 17 i0 0 (zmN M 17 p1 0)) 17 i0 1 (zmI (zsN M 17 i0 0 (zmN M 17 p1 0)) 17 p1 1)) 17 p1 2)) 17 p1 3)) 17 p1 4)) 17 p1 5)) 17 i0 6 (zmI (zsI (zsI (zsI (zsI (zsI (zsN M 17 i0 0 (zmN M 17 p1 0)) 17 i0 1 (zmI (zsN M 17 i0 0 (zmN M 17 p1 0)) 17 p1 1)) 17 i0 2 (zmI (zsI (zsN M 17 i0 0 (zmN M 17 p1 0)) 17 i0 1 (zmI (zsN M 17 i0 0 (zmN M 17 p1 0)) 17 p1 1)) 17 p1 2)) 17 i0 3 (zmI (zsI (zsI (zsN M 17 i0 0 (zmN M 17 p1 0)) 17 i0 1 (zmI (zsN M 17 i0 0 (zmN M 17 p1 0)) 17 p1 1)) 17 i0 2 (zmI (zsI (zsN M 17 i0 0 (zmN M 17 p1 0)) 17 i0 1 (zmI (zsN M 17 i0 0 (zmN M 17 p1 0)) 17 p1 1)) 17 p1 2)) 17 p1 3)) 17 i0 4 (zmI (zsI (zsI (zsI (zsN M 17 i0 0 (zmN M 17 p1 0)) 17 i0 1 (zmI (zsN M 17 i0 0 (zmN M 17 p1 0)) 17 p1 1)) 17 i0 2 (zmI (zsI (zsN M 17 i0 0 (zmN M 17 p1 0)) 17 i0 1 (zmI (zsN M 17 i0 0 (zmN M 17 p1 0)) 17 p1 1)) 17 p1 2)) 17 i0 3 (zmI (zsI (zsI (zsN M 17 i0 0 (zmN M 17 p1 0)) 17 i0 1 (zmI (zsN M 17 i0 0 (zmN M 17 p1 0)) 17 p1 1)) 17 i0 2 (zmI (zsI (zsN M 17 i0 0 (zmN M 17 p1 0)) 17 i0 1 (zmI (zsN M 17 i0 0 (zmN M 17 p1 0)) 17 p1 1)) 17 p1 2)) 17 p1 3)) 17 p1 4)) 17 i0 5 (zmI (zsI (zsI (zsI (zsI (zsN M 17 i0 0 (zmN M 17 p1 0)) 17 i0 1 (zmI (zsN M 17 i0 0 (zmN M 17 p1 0)) 17 p1 1)) 17 i0 2 (zmI (zsI (zsN M 17 i0 0 (zmN M 17 p1 0)) 17 i0 1 (zmI (zsN M 17 i0 0 (zmN M 17 p1 0)) 17 p1 1)) 17 p1 2)) 17 i0 3 (zmI (zsI (zsI (zsN M 17 i0 0 (zmN M 17 p1 0)) 17 i0 1 (zmI (zsN M 17 i0 0 (zmN M 17 p1 0)) 17 p1 1)) 17 i0 2 (zmI (zsI (zsN M 17 i0 0 (zmN M 17 p1 0)) 17 i0 1 (zmI (zsN M 17 i0 0 (zmN M 17 p1 0)) 17 p1 1)) 17 p1 2)) 17 p1 3)) 17 i0 4 (zmI (zsI (zsI (zsI (zsN M 17 i0 0 (zmN M 17 p1 0)) 17 i0 1 (zmI (zsN M 17 i0 0 (zmN M 17 p1 0)) 17 p1 1)) 17 i0 2 (zmI (zsI (zsN M 17 i0 0 (zmN M 17 p1 0)) 17 i0 1 (zmI (zsN M 17 i0 0 (zmN M 17 p1 0)) 17 p1 1)) 17 p1 2)) 17 i0 3 (zmI (zsI (zsI (zsN M 17 i0 0 (zmN M 17 p1 0)) 17 i0 1 (zmI (zsN M 17 i0 0 (zmN M 17 p1 0)) 17 p1 1)) 17 i0 2 (zmI (zsI (zsN M 17 i0 0 (zmN M 17 p1 0)) 17 i0 1 (zmI (zsN M 17 i0 0 (zmN M 17 p1 0)) 17 p1 1)) 17 p1 2)) 17 p1 3)) 17 p1 4)) 17 p1 5)) 17 p1 6)) 17 i0 7 (zmI (zsI (zsI (zsI (zsI (zsI (zsI (zsN M 17 i0 0 (zmN M 17 p1 0)) 17 i0 1 (zmI (zsN M 17 i0 0 (zmN M 17 p1 0)) 17 p1 1)) 17 i0 2 (zmI (zsI (zsN M 17 i0 0 (zmN M 17 p1 0)) 17 i0 1 (zmI (zsN M 17 i0 0 (zmN M 17 p1 0)) 17 p1 1)) 17 p1 2)) 17 i0 3 (zmI (zsI (zsI (zsN M 17 i0 0 (zmN M 17 p1 0)) 17 i0 1 (zmI (zsN M 17 i0 0 (zmN M 17 p1 0)) 17 p1 1)) 17 i0 2 (zmI (zsI (zsN M 17 i0 0 (zmN M 17 p1 0)) 17 i0 1 (zmI (zsN M 17 i0 0 (zmN M 17 p1 0)) 17 p1 1)) 17 p1 2)) 17 p1 3)) 17 i0 4 (zmI (zsI (zsI (zsI (zsN M 17 i0 0 (zmN M 17 p1 0)) 17 i0 1 (zmI (zsN M 17 i0 0 (zmN M 17 p1 0)) 17 p1 1)) 17 i0 2 (zmI (zsI (zsN M 17 i0 0 (zmN M 17 p1 0)) 17 i0 1 (zmI (zsN M 17 i0 0 (zmN M 17 p1 0)) 17 p1 1)) 17 p1 2)) 17 i0 3 (zmI (zsI (zsI (zsN M 17 i0 0 (zmN M 17 p1 0)) 17 i0 1 (zmI (zsN M 17 i0 0 (zmN M 17 p1 0)) 17 p1 1)) 17 i0 2 (zmI (zsI (zsN M 17 i0 0 (zmN M 17 p1 0)) 17 i0 1 (zmI (zsN M 17 i0 0 (zmN M 17 p1 0)) 17 p1 1)) 17 p1 2)) 17 p1 3)) 17 p1 4)) 17 i0 5 (zmI (zsI (zsI (zsI (zsI (zsN M 17 i0 0 (zmN M 17 p1 0)) 17 i0 1 (zmI (zsN M 17 i0 0 (zmN M 17 p1 0)) 17 p1 1)) 17 i0 2 (zmI (zsI (zsN M 17 i0 0 (zmN M 17 p1 0)) 17 i0 1 (zmI (zsN M 17 i0 0 (zmN M 17 p1 0)) 17 p1 1)) 17 p1 2)) 17 i0 3 (zmI (zsI (zsI (zsN M 17 i0 0 (zmN M 17 p1 0)) 17 i0 1 (zmI (zsN M 17 i0 0 (zmN M 17 p1 0)) 17 p1 1)) 17 i0 2 (zmI (zsI (zsN M 17 i0 0 (zmN M 17 p1 0)) 17 i0 1 (zmI (zsN M 17 i0 0 (zmN M 17 p1 0)) 17 p1 1)) 17 p1 2)) 17 p1 3)) 17 i0 4 (zmI (zsI (zsI (zsI (zsN M 17 i0 0 (zmN M 17 p1 0)) 17 i0 1 (zmI (zsN M 17 i0 0 (zmN M 17 p1 0)) 17 p1 1)) 17 i0 2 (zmI (zsI (zsN M 17 i0 0 (zmN M 17 p1 0)) 17 i0 1 (zmI (zsN M 17 i0 0 (zmN M 17 p1 0)) 17 p1 1)) 17 p1 2)) 17 i0 3 (zmI (zsI (zsI (zsN M 17 i0 0 (zmN M 17 p1 0)) 17 i0 1 (zmI (zsN M 17 i0 0 (zmN M 17 p1 0)) 17 p1 1)) 17 i0 2 (zmI (zsI (zsN M 17 i0 0 (zmN M 17 p1 0)) 17 i0 1 (zmI (zsN M 17 i0 0 (zmN M 17 p1 0)) 17 p1 1)) 17 p1 2)) 17 p1 3)) 17 p1 4)) 17 p1 5)) 17 i0 6 (zmI (zsI (zsI (zsI (zsI (zsI (zsN M 17 i0 0 (zmN M 17 p1 0)) 17 i0 1 (zmI (zsN M 17 i0 0 (zmN M 17 p1 0)) 17 p1 1)) 17 i0 2 (zmI (zsI (zsN M 17 i0 0 (zmN M 17 p1 0)) 17 i0 1 (zmI (zsN M 17 i0 0 (zmN M 17 p1 0)) 17 p1 1)) 17 p1 2)) 17 i0 3 (zmI (zsI (zsI (zsN M 17 i0 0 (zmN M 17 p1 0)) 17 i0 1 (zmI (zsN M 17 i0 0 (zmN M 17 p1 0)) 17 p1 1)) 17 i0 2 (zmI (zsI (zsN M 17 i0 0 (zmN M 17 p1 0)) 17 i0 1 (zmI (zsN M 17 i0 0 (zmN M 17 p1 0)) 17 p1 1)) 17 p1 2)) 17 p1 3)) 17 i0 4 (zmI (zsI (zsI (zsI (zsN M 17 i0 0 (zmN M 17 p1 0)) 17 i0 1 (zmI (zsN M 17 i0 0 (zmN M 17 p1 0)) 17 p1 1)) 17 i0 2 (zmI (zsI (zsN M 17 i0 0 (zmN M 17 p1 0)) 17 i0 1 (zmI (zsN M 17 i0 0 (zmN M 17 p1 0)) 17 p1 1)) 17 p1 2)) 17 i0 3 (zmI (zsI (zsI (zsN M 17 i0 0 (zmN M 17 p1 0)) 17 i0 1 (zmI (zsN M 17 i0 0 (zmN M 17 p1 0)) 17 p1 1)) 17 i0 2 (zmI (zsI (zsN M 17 i0 0 (zmN M 17 p1 0)) 17 i0 1 (zmI (zsN M 17 i0 0 (zmN M 17 p1 0)) 17 p1 1)) 17 p1 2)) 17 p1 3)) 17 p1 4)) 17 i0 5 (zmI (zsI (zsI (zsI (zsI (zsN M 17 i0 0 (zmN M 17 p1 0)) 17 i0 1 (zmI (zsN M 17 i0 0 (zmN M 17 p1 0)) 17 p1 1)) 17 i0 2 (zmI (zsI (zsN M 17 i0 0 (zmN M 17 p1 0)) 17 i0 1 (zmI (zsN M 17 i0 0 (zmN M 17 p1 0)) 17 p1 1)) 17 p1 2)) 17 i0 3 (zmI (zsI (zsI (zsN M 17 i0 0 (zmN M 17 p1 0)) 17 i0 1 (zmI (zsN M 17 i0 0 (zmN M 17 p1 0)) 17 p1 1)) 17 i0 2 (zmI (zsI (zsN M 17 i0 0 (zmN M 17 p1 0)) 17 i0 1 (zmI (zsN M 17 i0 0 (zmN M 17 p1 0)) 17 p1 1)) 17 p1 2)) 17 p1 3)) 17 i0 4 (zmI (zsI (zsI (zsI (zsN M 17 i0 0 (zmN M 17 p1 0)) 17 i0 1 (zmI (zsN M 17 i0 0 (zmN M 17 p1 0)) 17 p1 1)) 17 i0 2 (zmI (zsI (zsN M 17 i0 0 (zmN M 17 p1 0)) 17 i0 1 (zmI (zsN M 17 i0 0 (zmN M 17 p1 0)) 17 p1 1)) 17 p1 2)) 17 i0 3 (zmI (zsI (zsI (zsN M 17 i0 0 (zmN M 17 p1 0)) 17 i0 1 (zmI (zsN M 17 i0 0 (zmN M 17 p1 0)) 17 p1 1)) 17 i0 2 (zmI (zsI (zsN M 17 i0 0 (zmN M 17 p1 0)) 17 i0 1 (zmI (zsN M 17 i0 0 (zmN M 17 p1 0)) 17 p1 1)) 17 p1 2)) 17 p1 3)) 17 p1 4)) 17 p1 5)) 17 p1 6)) 17 p1 7)) 17 p1 8)) 17 p1 9)) 18 p1) (zmL (zsI (zsI (zsI (zsI (zsI (zsI (zsI (zsI (zsI (zsN M 17 i0 0 (zmN M 17 p1 0)) 17 i0 1 (zmI (zsN M 17 i0 0 (zmN M 17 p1 0)) 17 p1 1)) 17 i0 2 (zmI (zsI (zsN M 17 i0 0 (zmN M 17 p1 0)) 17 i0 1 (zmI (zsN M 17 i0 0 (zmN M 17 p1 0)) 17 p1 1)) 17 p1 2)) 17 i0 3 (zmI (zsI (zsI (zsN M 17 i0 0 (zmN M 17 p1 0)) 17 i0 1 (zmI (zsN M 17 i0 0 (zmN M 17 p1 0)) 17 p1 1)) 17 i0 2 (zmI (zsI (zsN M 17 i0 0 (zmN M 17 p1 0)) 17 i0 1 (zmI (zsN M 17 i0 0 (zmN M 17 p1 0)) 17 p1 1)) 17 p1 2)) 17 p1 3)) 17 i0 4 (zmI (zsI (zsI (zsI (zsN M 17 i0 0 (zmN M 17 p1 0)) 17 i0 1 (zmI (zsN M 17 i0 0 (zmN M 17 p1 0)) 17 p1 1)) 17 i0 2 (zmI (zsI (zsN M 17 i0 0 (zmN M 17 p1 0)) 17 i0 1 (zmI (zsN M 17 i0 0 (zmN M 17 p1 0)) 17 p1 1)) 17 p1 2)) 17 i0 3 (zmI (zsI (zsI (zsN M 17 i0 0 (zmN M 17 p1 0)) 17 i0 1 (zmI (zsN M 17 i0 0 (zmN M 17 p1 0)) 17 p1 1)) 17 i0 2 (zmI (zsI (zsN M 17 i0 0 (zmN M 17 p1 0)) 17 i0 1 (zmI (zsN M 17 i0 0 (zmN M 17 p1 0)) 17 p1 1)) 17 p1 2)) 17 p1 3)) 17 p1 4)) 17 i0 5 (zmI (zsI (zsI (zsI (zsI (zsN M 17 i0 0 (zmN M 17 p1 0)) 17 i0 1 (zmI (zsN M 17 i0 0 (zmN M 17 p1 0)) 17 p1 1)) 17 i0 2 (zmI (zsI (zsN M 17 i0 0 (zmN M 17 p1 0)) 17 i0 1 (zmI (zsN M 17 i0 0 (zmN M 17 p1 0)) 17 p1 1)) 17 p1 2)) 17 i0 3 (zmI (zsI (zsI (zsN M 17 i0 0 (zmN M 17 p1 0)) 17 i0 1 (zmI (zsN M 17 i0 0 (zmN M 17 p1 0)) 17 p1 1)) 17 i0 2 (zmI (zsI (zsN M 17 i0 0 (zmN M 17 p1 0)) 17 i0 1 (zmI (zsN M 17 i0 0 (zmN M 17 p1 0)) 17 p1 1)) 17 p1 2)) 17 p1 3)) 17 i0 4 (zmI (zsI (zsI (zsI (zsN M 17 i0 0 (zmN M 17 p1 0)) 17 i0 1 (zmI (zsN M 17 i0 0 (zmN M 17 p1 0)) 17 p1 1)) 17 i0 2 (zmI (zsI (zsN M 17 i0 0 (zmN M 17 p1 0)) 17 i0 1 (zmI (zsN M 17 i0 0 (zmN M 17 p1 0)) 17 p1 1)) 17 p1 2)) 17 i0 3 (zmI (zsI (zsI (zsN M 17 i0 0 (zmN M 17 p1 0)) 17 i0 1 (zmI (zsN M 17 i0 0 (zmN M 17 p1 0)) 17 p1 1)) 17 i0 2 (zmI (zsI (zsN M 17 i0 0 (zmN M 17 p1 0)) 17 i0 1 (zmI (zsN M 17 i0 0 (zmN M 17 p1 0)) 17 p1 1)) 17 p1 2)) 17 p1 3)) 17 p1 4)) 17 p1 5)) 17 i0 6 (zmI (zsI (zsI (zsI (zsI (zsI (zsN M 17 i0 0 (zmN M 17 p1 0)) 17 i0 1 (zmI (zsN M 17 i0 0 (zmN M 17 p1 0)) 17 p1 1)) 17 i0 2 (zmI (zsI (zsN M 17 i0 0 (zmN M 17 p1 0)) 17 i0 1 (zmI (zsN M 17 i0 0 (zmN M 17 p1 0)) 17 p1 1)) 17 p1 2)) 17 i0 3 (zmI (zsI (zsI (zsN M 17 i0 0 (zmN M 17 p1 0)) 17 i0 1 (zmI (zsN M 17 i0 0 (zmN M 17 p1 0)) 17 p1 1)) 17 i0 2 (zmI (zsI (zsN M 17 i0 0 (zmN M 17 p1 0)) 17 i0 1 (zmI (zsN M 17 i0 0 (zmN M 17 p1 0)) 17 p1 1)) 17 p1 2)) 17 p1 3)) 17 i0 4 (zmI (zsI (zsI (zsI (zsN M 17 i0 0 (zmN M 17 p1 0)) 17 i0 1 (zmI (zsN M 17 i0 0 (zmN M 17 p1 0)) 17 p1 1)) 17 i0 2 (zmI (zsI (zsN M 17 i0 0 (zmN M 17 p1 0)) 17 i0 1 (zmI (zsN M 17 i0 0 (zmN M 17 p1 0)) 17 p1 1)) 17 p1 2)) 17 i0 3 (zmI (zsI (zsI (zsN M 17 i0 0 (zmN M 17 p1 0)) 17 i0 1 (zmI (zsN M 17 i0 0 (zmN M 17 p1 0)) 17 p1 1)) 17 i0 2 (zmI (zsI (zsN M 17 i0 0 (zmN M 17 p1 0)) 17 i0 1 (zmI (zsN M 17 i0 0 (zmN M 17 p1 0)) 17 p1 1)) 17 p1 2)) 17 p1 3)) 17 p1 4)) 17 i0 5 (zmI (zsI (zsI (zsI (zsI (zsN M 17 i0 0 (zmN M 17 p1 0)) 17 i0 1 (zmI (zsN M 17 i0 0 (zmN M 17 p1 0)) 17 p1 1)) 17 i0 2 (zmI (zsI (zsN M 17 i0 0 (zmN M 17 p1 0)) 17 i0 1 (zmI (zsN M 17 i0 0 (zmN M 17 p1 0)) 17 p1 1)) 17 p1 2)) 17 i0 3 (zmI (zsI (zsI (zsN M 17 i0 0 (zmN M 17 p1 0)) 17 i0 1 (zmI (zsN M 17 i0 0 (zmN M 17 p1 0)) 17 p1 1)) 17 i0 2 (zmI (zsI (zsN M 17 i0 0 (zmN M 17 p1 0)) 17 i0 1 (zmI (zsN M 17 i0 0 (zmN M 17 p1 0)) 17 p1 1)) 17 p1 2)) 17 p1 3)) 17 i0 4 (zmI (zsI (zsI (zsI (zsN M 17 i0 0 (zmN M 17 p1 0)) 17 i0 1 (zmI (zsN M 17 i0 0 (zmN M 17 p1 0)) 17 p1 1)) 17 i0 2 (zmI (zsI (zsN M 17 i0 0 (zmN M 17 p1 0)) 17 i0 1 (zmI (zsN M 17 i0 0 (zmN M 17 p1 0)) 17 p1 1)) 17 p1 2)) 17 i0 3 (zmI (zsI (zsI (zsN M 17 i0 0 (zmN M 17 p1 0)) 17 i0 1 (zmI (zsN M 17 i0 0 (zmN M 17 p1 0)) 17 p1 1)) 17 i0 2 (zmI (zsI (zsN M 17 i0 0 (zmN M 17 p1 0)) 17 i0 1 (zmI (zsN M 17 i0 0 (zmN M 17 p1 0)) 17 p1 1)) 17 p1 2)) 17 p1 3)) 17 p1 4)) 17 p1 5)) 17 p1 6)) 17 i0 7 (zmI (zsI (zsI (zsI (zsI (zsI (zsI (zsN M 17 i0 0 (zmN M 17 p1 0)) 17 i0 1 (zmI (zsN M 17 i0 0 (zmN M 17 p1 0)) 17 p1 1)) 17 i0 2 (zmI (zsI (zsN M 17 i0 0 (zmN M 17 p1 0)) 17 i0 1 (zmI (zsN M 17 i0 0 (zmN M 17 p1 0)) 17 p1 1)) 17 p1 2)) 17 i0 3 (zmI (zsI (zsI (zsN M 17 i0 0 (zmN M 17 p1 0)) 17 i0 1 (zmI (zsN M 17 i0 0 (zmN M 17 p1 0)) 17 p1 1)) 17 i0 2 (zmI (zsI (zsN M 17 i0 0 (zmN M 17 p1 0)) 17 i0 1 (zmI (zsN M 17 i0 0 (zmN M 17 p1 0)) 17 p1 1)) 17 p1 2)) 17 p1 3)) 17 i0 4 (zmI (zsI (zsI (zsI (zsN M 17 i0 0 (zmN M 17 p1 0)) 17 i0 1 (zmI (zsN M 17 i0 0 (zmN M 17 p1 0)) 17 p1 1)) 17 i0 2 (zmI (zsI (zsN M 17 i0 0 (zmN M 17 p1 0)) 17 i0 1 (zmI (zsN M 17 i0 0 (zmN M 17 p1 0)) 17 p1 1)) 17 p1 2)) 17 i0 3 (zmI (zsI (zsI (zsN M 17 i0 0 (zmN M 17 p1 0)) 17 i0 1 (zmI (zsN M 17 i0 0 (zmN M 17 p1 0)) 17 p1 1)) 17 i0 2 (zmI (zsI (zsN M 17 i0 0 (zmN M 17 p1 0)) 17 i0 1 (zmI (zsN M 17 i0 0 (zmN M 17 p1 0)) 17 p1 1)) 17 p1 2)) 17 p1 3)) 17 p1 4)) 17 i0 5 (zmI (zsI (zsI (zsI (zsI (zsN M 17 i0 0 (zmN M 17 p1 0)) 17 i0 1 (zmI (zsN M 17 i0 0 (zmN M 17 p1 0)) 17 p1 1)) 17 i0 2 (zmI (zsI (zsN M 17 i0 0 (zmN M 17 p1 0)) 17 i0 1 (zmI (zsN M 17 i0 0 (zmN M 17 p1 0)) 17 p1 1)) 17 p1 2)) 17 i0 3 (zmI (zsI (zsI (zsN M 17 i0 0 (zmN M 17 p1 0)) 17 i0 1 (zmI (zsN M 17 i0 0 (zmN M 17 p1 0)) 17 p1 1)) 17 i0 2 (zmI (zsI (zsN M 17 i0 0 (zmN M 17 p1 0)) 17 i0 1 (zmI (zsN M 17 i0 0 (zmN M 17 p1 0)) 17 p1 1)) 17 p1 2)) 17 p1 3)) 17 i0 4 (zmI (zsI (zsI (zsI (zsN M 17 i0 0 (zmN M 17 p1 0)) 17 i0 1 (zmI (zsN M 17 i0 0 (zmN M 17 p1 0)) 17 p1 1)) 17 i0 2 (zmI (zsI (zsN M 17 i0 0 (zmN M 17 p1 0)) 17 i0 1 (zmI (zsN M 17 i0 0 (zmN M 17 p1 0)) 17 p1 1)) 17 p1 2)) 17 i0 3 (zmI (zsI (zsI (zsN M 17 i0 0 (zmN M 17 p1 0)) 17 i0 1 (zmI (zsN M 17 i0 0 (zmN M 17 p1 0)) 17 p1 1)) 17 i0 2 (zmI (zsI (zsN M 17 i0 0 (zmN M 17 p1 0)) 17 i0 1 (zmI (zsN M 17 i0 0 (zmN M 17 p1 0)) 17 p1 1)) 17 p1 2)) 17 p1 3)) 17 p1 4)) 17 p1 5)) 17 i0 6 (zmI (zsI (zsI (zsI (zsI (zsI (zsN M 17 i0 0 (zmN M 17 p1 0)) 17 i0 1 (zmI (zsN M 17 i0 0 (zmN M 17 p1 0)) 17 p1 1)) 17 i0 2 (zmI (zsI (zsN M 17 i0 0 (zmN M 17 p1 0)) 17 i0 1 (zmI (zsN M 17 i0 0 (zmN M 17 p1 0)) 17 p1 1)) 17 p1 2)) 17 i0 3 (zmI (zsI (zsI (zsN M 17 i0 0 (zmN M 17 p1 0)) 17 i0 1 (zmI (zsN M 17 i0 0 (zmN M 17 p1 0)) 17 p1 1)) 17 i0 2 (zmI (zsI (zsN M 17 i0 0 (zmN M 17 p1 0)) 17 i0 1 (zmI (zsN M 17 i0 0 (zmN M 17 p1 0)) 17 p1 1)) 17 p1 2)) 17 p1 3)) 17 i0 4 (zmI (zsI (zsI (zsI (zsN M 17 i0 0 (zmN M 17 p1 0)) 17 i0 1 (zmI (zsN M 17 i0 0 (zmN M 17 p1 0)) 17 p1 1)) 17 i0 2 (zmI (zsI (zsN M 17 i0 0 (zmN M 17 p1 0)) 17 i0 1 (zmI (zsN M 17 i0 0 (zmN M 17 p1 0)) 17 p1 1)) 17 p1 2)) 17 i0 3 (zmI (zsI (zsI (zsN M 17 i0 0 (zmN M 17 p1 0)) 17 i0 1 (zmI (zsN M 17 i0 0 (zmN M 17 p1 0)) 17 p1 1)) 17 i0 2 (zmI (zsI (zsN M 17 i0 0 (zmN M 17 p1 0)) 17 i0 1 (zmI (zsN M 17 i0 0 (zmN M 17 p1 0)) 17 p1 1)) 17 p1 2)) 17 p1 3)) 17 p1 4)) 17 i0 5 (zmI (zsI (zsI (zsI (zsI (zsN M 17 i0 0 (zmN M 17 p1 0)) 17 i0 1 (zmI (zsN M 17 i0 0 (zmN M 17 p1 0)) 17 p1 1)) 17 i0 2 (zmI (zsI (zsN M 17 i0 0 (zmN M 17 p1 0)) 17 i0 1 (zmI (zsN M 17 i0 0 (zmN M 17 p1 0)) 17 p1 1)) 17 p1 2)) 17 i0 3 (zmI (zsI (zsI (zsN M 17 i0 0 (zmN M 17 p1 0)) 17 i0 1 (zmI (zsN M 17 i0 0 (zmN M 17 p1 0)) 17 p1 1)) 17 i0 2 (zmI (zsI (zsN M 17 i0 0 (zmN M 17 p1 0)) 17 i0 1 (zmI (zsN M 17 i0 0 (zmN M 17 p1 0)) 17 p1 1)) 17 p1 2)) 17 p1 3)) 17 i0 4 (zmI (zsI (zsI (zsI (zsN M 17 i0 0 (zmN M 17 p1 0)) 17 i0 1 (zmI (zsN M 17 i0 0 (zmN M 17 p1 0)) 17 p1 1)) 17 i0 2 (zmI (zsI (zsN M 17 i0 0 (zmN M 17 p1 0)) 17 i0 1 (zmI (zsN M 17 i0 0 (zmN M 17 p1 0)) 17 p1 1)) 17 p1 2)) 17 i0 3 (zmI (zsI (zsI (zsN M 17 i0 0 (zmN M 17 p1 0)) 17 i0 1 (zmI (zsN M 17 i0 0 (zmN M 17 p1 0)) 17 p1 1)) 17 i0 2 (zmI (zsI (zsN M 17 i0 0 (zmN M 17 p1 0)) 17 i0 1 (zmI (zsN M 17 i0 0 (zmN M 17 p1 0)) 17 p1 1)) 17 p1 2)) 17 p1 3)) 17 p1 4)) 17 p1 5)) 17 p1 6)) 17 p1 7)) 17 i0 8 (zmI (zsI (zsI (zsI (zsI (zsI (zsI (zsI (zsN M 17 i0 0 (zmN M 17 p1 0)) 17 i0 1 (zmI (zsN M 17 i0 0 (zmN M 17 p1 0)) 17 p1 1)) 17 i0 2 (zmI (zsI (zsN M 17 i0 0 (zmN M 17 p1 0)) 17 i0 1 (zmI (zsN M 17 i0 0 (zmN M 17 p1 0)) 17 p1 1)) 17 p1 2)) 17 i0 3 (zmI (zsI (zsI (zsN M 17 i0 0 (zmN M 17 p1 0)) 17 i0 1 (zmI (zsN M 17 i0 0 (zmN M 17 p1 0)) 17 p1 1)) 17 i0 2 (zmI (zsI (zsN M 17 i0 0 (zmN M 17 p1 0)) 17 i0 1 (zmI (zsN M 17 i0 0 (zmN M 17 p1 0)) 17 p1 1)) 17 p1 2)) 17 p1 3)) 17 i0 4 (zmI (zsI (zsI (zsI (zsN M 17 i0 0 (zmN M 17 p1 0)) 17 i0 1 (zmI (zsN M 17 i0 0 (zmN M 17 p1 0)) 17 p1 1)) 17 i0 2 (zmI (zsI (zsN M 17 i0 0 (zmN M 17 p1 0)) 17 i0 1 (zmI (zsN M 17 i0 0 (zmN M 17 p1 0)) 17 p1 1)) 17 p1 2)) 17 i0 3 (zmI (zsI (zsI (zsN M 17 i0 0 (zmN M 17 p1 0)) 17 i0 1 (zmI (zsN M 17 i0 0 (zmN M 17 p1 0)) 17 p1 1)) 17 i0 2 (zmI (zsI (zsN M 17 i0 0 (zmN M 17 p1 0)) 17 i0 1 (zmI (zsN M 17 i0 0 (zmN M 17 p1 0)) 17 p1 1)) 17 p1 2)) 17 p1 3)) 17 p1 4)) 17 i0 5 (zmI (zsI (zsI (zsI (zsI (zsN M 17 i0 0 (zmN M 17 p1 0)) 17 i0 1 (zmI (zsN M 17 i0 0 (zmN M 17 p1 0)) 17 p1 1)) 17 i0 2 (zmI (zsI (zsN M 17 i0 0 (zmN M 17 p1 0)) 17 i0 1 (zmI (zsN M 17 i0 0 (zmN M 17 p1 0)) 17 p1 1)) 17 p1 2)) 17 i0 3 (zmI (zsI (zsI (zsN M 17 i0 0 (zmN M 17 p1 0)) 17 i0 1 (zmI (zsN M 17 i0 0 (zmN M 17 p1 0)) 17 p1 1)) 17 i0 2 (zmI (zsI (zsN M 17 i0 0 (zmN M 17 p1 0)) 17 i0 1 (zmI (zsN M 17 i0 0 (zmN M 17 p1 0)) 17 p1 1)) 17 p1 2)) 17 p1 3)) 17 i0 4 (zmI (zsI (zsI (zsI (zsN M 17 i0 0 (zmN M 17 p1 0)) 17 i0 1 (zmI (zsN M 17 i0 0 (zmN M 17 p1 0)) 17 p1 1)) 17 i0 2 (zmI (zsI (zsN M 17 i0 0 (zmN M 17 p1 0)) 17 i0 1 (zmI (zsN M 17 i0 0 (zmN M 17 p1 0)) 17 p1 1)) 17 p1 2)) 17 i0 3 (zmI (zsI (zsI (zsN M 17 i0 0 (zmN M 17 p1 0)) 17 i0 1 (zmI (zsN M 17 i0 0 (zmN M 17 p1 0)) 17 p1 1)) 17 i0 2 (zmI (zsI (zsN M 17 i0 0 (zmN M 17 p1 0)) 17 i0 1 (zmI (zsN M 17 i0 0 (zmN M 17 p1 0)) 17 p1 1)) 17 p1 2)) 17 p1 3)) 17 p1 4)) 17 p1 5)) 17 i0 6 (zmI (zsI (zsI (zsI (zsI (zsI (zsN M 17 i0 0 (zmN M 17 p1 0)) 17 i0 1 (zmI (zsN M 17 i0 0 (zmN M 17 p1 0)) 17 p1 1)) 17 i0 2 (zmI (zsI (zsN M 17 i0 0 (zmN M 17 p1 0)) 17 i0 1 (zmI (zsN M 17 i0 0 (zmN M 17 p1 0)) 17 p1 1)) 17 p1 2)) 17 i0 3 (zmI (zsI (zsI (zsN M 17 i0 0 (zmN M 17 p1 0)) 17 i0 1 (zmI (zsN M 17 i0 0 (zmN M 17 p1 0)) 17 p1 1)) 17 i0 2 (zmI (zsI (zsN M 17 i0 0 (zmN M 17 p1 0)) 17 i0 1 (zmI (zsN M 17 i0 0 (zmN M 17 p1 0)) 17 p1 1)) 17 p1 2)) 17 p1 3)) 17 i0 4 (zmI (zsI (zsI (zsI (zsN M 17 i0 0 (zmN M 17 p1 0)) 17 i0 1 (zmI (zsN M 17 i0 0 (zmN M 17 p1 0)) 17 p1 1)) 17 i0 2 (zmI (zsI (zsN M 17 i0 0 (zmN M 17 p1 0)) 17 i0 1 (zmI (zsN M 17 i0 0 (zmN M 17 p1 0)) 17 p1 1)) 17 p1 2)) 17 i0 3 (zmI (zsI (zsI (zsN M 17 i0 0 (zmN M 17 p1 0)) 17 i0 1 (zmI (zsN M 17 i0 0 (zmN M 17 p1 0)) 17 p1 1)) 17 i0 2 (zmI (zsI (zsN M 17 i0 0 (zmN M 17 p1 0)) 17 i0 1 (zmI (zsN M 17 i0 0 (zmN M 17 p1 0)) 17 p1 1)) 17 p1 2)) 17 p1 3)) 17 p1 4)) 17 i0 5 (zmI (zsI (zsI (zsI (zsI (zsN M 17 i0 0 (zmN M 17 p1 0)) 17 i0 1 (zmI (zsN M 17 i0 0 (zmN M 17 p1 0)) 17 p1 1)) 17 i0 2 (zmI (zsI (zsN M 17 i0 0 (zmN M 17 p1 0)) 17 i0 1 (zmI (zsN M 17 i0 0 (zmN M 17 p1 0)) 17 p1 1)) 17 p1 2)) 17 i0 3 (zmI (zsI (zsI (zsN M 17 i0 0 (zmN M 17 p1 0)) 17 i0 1 (zmI (zsN M 17 i0 0 (zmN M 17 p1 0)) 17 p1 1)) 17 i0 2 (zmI (zsI (zsN M 17 i0 0 (zmN M 17 p1 0)) 17 i0 1 (zmI (zsN M 17 i0 0 (zmN M 17 p1 0)) 17 p1 1)) 17 p1 2)) 17 p1 3)) 17 i0 4 (zmI (zsI (zsI (zsI (zsN M 17 i0 0 (zmN M 17 p1 0)) 17 i0 1 (zmI (zsN M 17 i0 0 (zmN M 17 p1 0)) 17 p1 1)) 17 i0 2 (zmI (zsI (zsN M 17 i0 0 (zmN M 17 p1 0)) 17 i0 1 (zmI (zsN M 17 i0 0 (zmN M 17 p1 0)) 17 p1 1)) 17 p1 2)) 17 i0 3 (zmI (zsI (zsI (zsN M 17 i0 0 (zmN M 17 p1 0)) 17 i0 1 (zmI (zsN M 17 i0 0 (zmN M 17 p1 0)) 17 p1 1)) 17 i0 2 (zmI (zsI (zsN M 17 i0 0 (zmN M 17 p1 0)) 17 i0 1 (zmI (zsN M 17 i0 0 (zmN M 17 p1 0)) 17 p1 1)) 17 p1 2)) 17 p1 3)) 17 p1 4)) 17 p1 5)) 17 p1 6)) 17 i0 7 (zmI (zsI (zsI (zsI (zsI (zsI (zsI (zsN M 17 i0 0 (zmN M 17 p1 0)) 17 i0 1 (zmI (zsN M 17 i0 0 (zmN M 17 p1 0)) 17 p1 1)) 17 i0 2 (zmI (zsI (zsN M 17 i0 0 (zmN M 17 p1 0)) 17 i0 1 (zmI (zsN M 17 i0 0 (zmN M 17 p1 0)) 17 p1 1)) 17 p1 2)) 17 i0 3 (zmI (zsI (zsI (zsN M 17 i0 0 (zmN M 17 p1 0)) 17 i0 1 (zmI (zsN M 17 i0 0 (zmN M 17 p1 0)) 17 p1 1)) 17 i0 2 (zmI (zsI (zsN M 17 i0 0 (zmN M 17 p1 0)) 17 i0 1 (zmI (zsN M 17 i0 0 (zmN M 17 p1 0)) 17 p1 1)) 17 p1 2)) 17 p1 3)) 17 i0 4 (zmI (zsI (zsI (zsI (zsN M 17 i0 0 (zmN M 17 p1 0)) 17 i0 1 (zmI (zsN M 17 i0 0 (zmN M 17 p1 0)) 17 p1 1)) 17 i0 2 (zmI (zsI (zsN M 17 i0 0 (zmN M 17 p1 0)) 17 i0 1 (zmI (zsN M 17 i0 0 (zmN M 17 p1 0)) 17 p1 1)) 17 p1 2)) 17 i0 3 (zmI (zsI (zsI (zsN M 17 i0 0 (zmN M 17 p1 0)) 17 i0 1 (zmI (zsN M 17 i0 0 (zmN M 17 p1 0)) 17 p1 1)) 17 i0 2 (zmI (zsI (zsN M 17 i0 0 (zmN M 17 p1 0)) 17 i0 1 (zmI (zsN M 17 i0 0 (zmN M 17 p1 0)) 17 p1 1)) 17 p1 2)) 17 p1 3)) 17 p1 4)) 17 i0 5 (zmI (zsI (zsI (zsI (zsI (zsN M 17 i0 0 (zmN M 17 p1 0)) 17 i0 1 (zmI (zsN M 17 i0 0 (zmN M 17 p1 0)) 17 p1 1)) 17 i0 2 (zmI (zsI (zsN M 17 i0 0 (zmN M 17 p1 0)) 17 i0 1 (zmI (zsN M 17 i0 0 (zmN M 17 p1 0)) 17 p1 1)) 17 p1 2)) 17 i0 3 (zmI (zsI (zsI (zsN M 17 i0 0 (zmN M 17 p1 0)) 17 i0 1 (zmI (zsN M 17 i0 0 (zmN M 17 p1 0)) 17 p1 1)) 17 i0 2 (zmI (zsI (zsN M 17 i0 0 (zmN M 17 p1 0)) 17 i0 1 (zmI (zsN M 17 i0 0 (zmN M 17 p1 0)) 17 p1 1)) 17 p1 2)) 17 p1 3)) 17 i0 4 (zmI (zsI (zsI (zsI (zsN M 17 i0 0 (zmN M 17 p1 0)) 17 i0 1 (zmI (zsN M 17 i0 0 (zmN M 17 p1 0)) 17 p1 1)) 17 i0 2 (zmI (zsI (zsN M 17 i0 0 (zmN M 17 p1 0)) 17 i0 1 (zmI (zsN M 17 i0 0 (zmN M 17 p1 0)) 17 p1 1)) 17 p1 2)) 17 i0 3 (zmI (zsI (zsI (zsN M 17 i0 0 (zmN M 17 p1 0)) 17 i0 1 (zmI (zsN M 17 i0 0 (zmN M 17 p1 0)) 17 p1 1)) 17 i0 2 (zmI (zsI (zsN M 17 i0 0 (zmN M 17 p1 0)) 17 i0 1 (zmI (zsN M 17 i0 0 (zmN M 17 p1 0)) 17 p1 1)) 17 p1 2)) 17 p1 3)) 17 p1 4)) 17 p1 5)) 17 i0 6 (zmI (zsI (zsI (zsI (zsI (zsI (zsN M 17 i0 0 (zmN M 17 p1 0)) 17 i0 1 (zmI (zsN M 17 i0 0 (zmN M 17 p1 0)) 17 p1 1)) 17 i0 2 (zmI (zsI (zsN M 17 i0 0 (zmN M 17 p1 0)) 17 i0 1 (zmI (zsN M 17 i0 0 (zmN M 17 p1 0)) 17 p1 1)) 17 p1 2)) 17 i0 3 (zmI (zsI (zsI (zsN M 17 i0 0 (zmN M 17 p1 0)) 17 i0 1 (zmI (zsN M 17 i0 0 (zmN M 17 p1 0)) 17 p1 1)) 17 i0 2 (zmI (zsI (zsN M 17 i0 0 (zmN M 17 p1 0)) 17 i0 1 (zmI (zsN M 17 i0 0 (zmN M 17 p1 0)) 17 p1 1)) 17 p1 2)) 17 p1 3)) 17 i0 4 (zmI (zsI (zsI (zsI (zsN M 17 i0 0 (zmN M 17 p1 0)) 17 i0 1 (zmI (zsN M 17 i0 0 (zmN M 17 p1 0)) 17 p1 1)) 17 i0 2 (zmI (zsI (zsN M 17 i0 0 (zmN M 17 p1 0)) 17 i0 1 (zmI (zsN M 17 i0 0 (zmN M 17 p1 0)) 17 p1 1)) 17 p1 2)) 17 i0 3 (zmI (zsI (zsI (zsN M 17 i0 0 (zmN M 17 p1 0)) 17 i0 1 (zmI (zsN M 17 i0 0 (zmN M 17 p1 0)) 17 p1 1)) 17 i0 2 (zmI (zsI (zsN M 17 i0 0 (zmN M 17 p1 0)) 17 i0 1 (zmI (zsN M 17 i0 0 (zmN M 17 p1 0)) 17 p1 1)) 17 p1 2)) 17 p1 3)) 17 p1 4)) 17 i0 5 (zmI (zsI (zsI (zsI (zsI (zsN M 17 i0 0 (zmN M 17 p1 0)) 17 i0 1 (zmI (zsN M 17 i0 0 (zmN M 17 p1 0)) 17 p1 1)) 17 i0 2 (zmI (zsI (zsN M 17 i0 0 (zmN M 17 p1 0)) 17 i0 1 (zmI (zsN M 17 i0 0 (zmN M 17 p1 0)) 17 p1 1)) 17 p1 2)) 17 i0 3 (zmI (zsI (zsI (zsN M 17 i0 0 (zmN M 17 p1 0)) 17 i0 1 (zmI (zsN M 17 i0 0 (zmN M 17 p1 0)) 17 p1 1)) 17 i0 2 (zmI (zsI (zsN M 17 i0 0 (zmN M 17 p1 0)) 17 i0 1 (zmI (zsN M 17 i0 0 (zmN M 17 p1 0)) 17 p1 1)) 17 p1 2)) 17 p1 3)) 17 i0 4 (zmI (zsI (zsI (zsI (zsN M 17 i0 0 (zmN M 17 p1 0)) 17 i0 1 (zmI (zsN M 17 i0 0 (zmN M 17 p1 0)) 17 p1 1)) 17 i0 2 (zmI (zsI (zsN M 17 i0 0 (zmN M 17 p1 0)) 17 i0 1 (zmI (zsN M 17 i0 0 (zmN M 17 p1 0)) 17 p1 1)) 17 p1 2)) 17 i0 3 (zmI (zsI (zsI (zsN M 17 i0 0 (zmN M 17 p1 0)) 17 i0 1 (zmI (zsN M 17 i0 0 (zmN M 17 p1 0)) 17 p1 1)) 17 i0 2 (zmI (zsI (zsN M 17 i0 0 (zmN M 17 p1 0)) 17 i0 1 (zmI (zsN M 17 i0 0 (zmN M 17 p1 0)) 17 p1 1)) 17 p1 2)) 17 p1 3)) 17 p1 4)) 17 p1 5)) 17 p1 6)) 17 p1 7)) 17 p1 8)) 17 i0 9 (zmI (zsI (zsI (zsI (zsI (zsI (zsI (zsI (zsI (zsN M 17 i0 0 (zmN M 17 p1 0)) 17 i0 1 (zmI (zsN M 17 i0 0 (zmN M 17 p1 0)) 17 p1 1)) 17 i0 2 (zmI (zsI (zsN M 17 i0 0 (zmN M 17 p1 0)) 17 i0 1 (zmI (zsN M 17 i0 0 (zmN M 17 p1 0)) 17 p1 1)) 17 p1 2)) 17 i0 3 (zmI (zsI (zsI (zsN M 17 i0 0 (zmN M 17 p1 0)) 17 i0 1 (zmI (zsN M 17 i0 0 (zmN M 17 p1 0)) 17 p1 1)) 17 i0 2 (zmI (zsI (zsN M 17 i0 0 (zmN M 17 p1 0)) 17 i0 1 (zmI (zsN M 17 i0 0 (zmN M 17 p1 0)) 17 p1 1)) 17 p1 2)) 17 p1 3)) 17 i0 4 (zmI (zsI (zsI (zsI (zsN M 17 i0 0 (zmN M 17 p1 0)) 17 i0 1 (zmI (zsN M 17 i0 0 (zmN M 17 p1 0)) 17 p1 1)) 17 i0 2 (zmI (zsI (zsN M 17 i0 0 (zmN M 17 p1 0)) 17 i0 1 (zmI (zsN M 17 i0 0 (zmN M 17 p1 0)) 17 p1 1)) 17 p1 2)) 17 i0 3 (zmI (zsI (zsI (zsN M 17 i0 0 (zmN M 17 p1 0)) 17 i0 1 (zmI (zsN M 17 i0 0 (zmN M 17 p1 0)) 17 p1 1)) 17 i0 2 (zmI (zsI (zsN M 17 i0 0 (zmN M 17 p1 0)) 17 i0 1 (zmI (zsN M 17 i0 0 (zmN M 17 p1 0)) 17 p1 1)) 17 p1 2)) 17 p1 3)) 17 p1 4)) 17 i0 5 (zmI (zsI (zsI (zsI (zsI (zsN M 17 i0 0 (zmN M 17 p1 0)) 17 i0 1 (zmI (zsN M 17 i0 0 (zmN M 17 p1 0)) 17 p1 1)) 17 i0 2 (zmI (zsI (zsN M 17 i0 0 (zmN M 17 p1 0)) 17 i0 1 (zmI (zsN M 17 i0 0 (zmN M 17 p1 0)) 17 p1 1)) 17 p1 2)) 17 i0 3 (zmI (zsI (zsI (zsN M 17 i0 0 (zmN M 17 p1 0)) 17 i0 1 (zmI (zsN M 17 i0 0 (zmN M 17 p1 0)) 17 p1 1)) 17 i0 2 (zmI (zsI (zsN M 17 i0 0 (zmN M 17 p1 0)) 17 i0 1 (zmI (zsN M 17 i0 0 (zmN M 17 p1 0)) 17 p1 1)) 17 p1 2)) 17 p1 3)) 17 i0 4 (zmI (zsI (zsI (zsI (zsN M 17 i0 0 (zmN M 17 p1 0)) 17 i0 1 (zmI (zsN M 17 i0 0 (zmN M 17 p1 0)) 17 p1 1)) 17 i0 2 (zmI (zsI (zsN M 17 i0 0 (zmN M 17 p1 0)) 17 i0 1 (zmI (zsN M 17 i0 0 (zmN M 17 p1 0)) 17 p1 1)) 17 p1 2)) 17 i0 3 (zmI (zsI (zsI (zsN M 17 i0 0 (zmN M 17 p1 0)) 17 i0 1 (zmI (zsN M 17 i0 0 (zmN M 17 p1 0)) 17 p1 1)) 17 i0 2 (zmI (zsI (zsN M 17 i0 0 (zmN M 17 p1 0)) 17 i0 1 (zmI (zsN M 17 i0 0 (zmN M 17 p1 0)) 17 p1 1)) 17 p1 2)) 17 p1 3)) 17 p1 4)) 17 p1 5)) 17 i0 6 (zmI (zsI (zsI (zsI (zsI (zsI (zsN M 17 i0 0 (zmN M 17 p1 0)) 17 i0 1 (zmI (zsN M 17 i0 0 (zmN M 17 p1 0)) 17 p1 1)) 17 i0 2 (zmI (zsI (zsN M 17 i0 0 (zmN M 17 p1 0)) 17 i0 1 (zmI (zsN M 17 i0 0 (zmN M 17 p1 0)) 17 p1 1)) 17 p1 2)) 17 i0 3 (zmI (zsI (zsI (zsN M 17 i0 0 (zmN M 17 p1 0)) 17 i0 1 (zmI (zsN M 17 i0 0 (zmN M 17 p1 0)) 17 p1 1)) 17 i0 2 (zmI (zsI (zsN M 17 i0 0 (zmN M 17 p1 0)) 17 i0 1 (zmI (zsN M 17 i0 0 (zmN M 17 p1 0)) 17 p1 1)) 17 p1 2)) 17 p1 3)) 17 i0 4 (zmI (zsI (zsI (zsI (zsN M 17 i0 0 (zmN M 17 p1 0)) 17 i0 1 (zmI (zsN M 17 i0 0 (zmN M 17 p1 0)) 17 p1 1)) 17 i0 2 (zmI (zsI (zsN M 17 i0 0 (zmN M 17 p1 0)) 17 i0 1 (zmI (zsN M 17 i0 0 (zmN M 17 p1 0)) 17 p1 1)) 17 p1 2)) 17 i0 3 (zmI (zsI (zsI (zsN M 17 i0 0 (zmN M 17 p1 0)) 17 i0 1 (zmI (zsN M 17 i0 0 (zmN M 17 p1 0)) 17 p1 1)) 17 i0 2 (zmI (zsI (zsN M 17 i0 0 (zmN M 17 p1 0)) 17 i0 1 (zmI (zsN M 17 i0 0 (zmN M 17 p1 0)) 17 p1 1)) 17 p1 2)) 17 p1 3)) 17 p1 4)) 17 i0 5 (zmI (zsI (zsI (zsI (zsI (zsN M 17 i0 0 (zmN M 17 p1 0)) 17 i0 1 (zmI (zsN M 17 i0 0 (zmN M 17 p1 0)) 17 p1 1)) 17 i0 2 (zmI (zsI (zsN M 17 i0 0 (zmN M 17 p1 0)) 17 i0 1 (zmI (zsN M 17 i0 0 (zmN M 17 p1 0)) 17 p1 1)) 17 p1 2)) 17 i0 3 (zmI (zsI (zsI (zsN M 17 i0 0 (zmN M 17 p1 0)) 17 i0 1 (zmI (zsN M 17 i0 0 (zmN M 17 p1 0)) 17 p1 1)) 17 i0 2 (zmI (zsI (zsN M 17 i0 0 (zmN M 17 p1 0)) 17 i0 1 (zmI (zsN M 17 i0 0 (zmN M 17 p1 0)) 17 p1 1)) 17 p1 2)) 17 p1 3)) 17 i0 4 (zmI (zsI (zsI (zsI (zsN M 17 i0 0 (zmN M 17 p1 0)) 17 i0 1 (zmI (zsN M 17 i0 0 (zmN M 17 p1 0)) 17 p1 1)) 17 i0 2 (zmI (zsI (zsN M 17 i0 0 (zmN M 17 p1 0)) 17 i0 1 (zmI (zsN M 17 i0 0 (zmN M 17 p1 0)) 17 p1 1)) 17 p1 2)) 17 i0 3 (zmI (zsI (zsI (zsN M 17 i0 0 (zmN M 17 p1 0)) 17 i0 1 (zmI (zsN M 17 i0 0 (zmN M 17 p1 0)) 17 p1 1)) 17 i0 2 (zmI (zsI (zsN M 17 i0 0 (zmN M 17 p1 0)) 17 i0 1 (zmI (zsN M 17 i0 0 (zmN M 17 p1 0)) 17 p1 1)) 17 p1 2)) 17 p1 3)) 17 p1 4)) 17 p1 5)) 17 p1 6)) 17 i0 7 (zmI (zsI (zsI (zsI (zsI (zsI (zsI (zsN M 17 i0 0 (zmN M 17 p1 0)) 17 i0 1 (zmI (zsN M 17 i0 0 (zmN M 17 p1 0)) 17 p1 1)) 17 i0 2 (zmI (zsI (zsN M 17 i0 0 (zmN M 17 p1 0)) 17 i0 1 (zmI (zsN M 17 i0 0 (zmN M 17 p1 0)) 17 p1 1)) 17 p1 2)) 17 i0 3 (zmI (zsI (zsI (zsN M 17 i0 0 (zmN M 17 p1 0)) 17 i0 1 (zmI (zsN M 17 i0 0 (zmN M 17 p1 0)) 17 p1 1)) 17 i0 2 (zmI (zsI (zsN M 17 i0 0 (zmN M 17 p1 0)) 17 i0 1 (zmI (zsN M 17 i0 0 (zmN M 17 p1 0)) 17 p1 1)) 17 p1 2)) 17 p1 3)) 17 i0 4 (zmI (zsI (zsI (zsI (zsN M 17 i0 0 (zmN M 17 p1 0)) 17 i0 1 (zmI (zsN M 17 i0 0 (zmN M 17 p1 0)) 17 p1 1)) 17 i0 2 (zmI (zsI (zsN M 17 i0 0 (zmN M 17 p1 0)) 17 i0 1 (zmI (zsN M 17 i0 0 (zmN M 17 p1 0)) 17 p1 1)) 17 p1 2)) 17 i0 3 (zmI (zsI (zsI (zsN M 17 i0 0 (zmN M 17 p1 0)) 17 i0 1 (zmI (zsN M 17 i0 0 (zmN M 17 p1 0)) 17 p1 1)) 17 i0 2 (zmI (zsI (zsN M 17 i0 0 (zmN M 17 p1 0)) 17 i0 1 (zmI (zsN M 17 i0 0 (zmN M 17 p1 0)) 17 p1 1)) 17 p1 2)) 17 p1 3)) 17 p1 4)) 17 i0 5 (zmI (zsI (zsI (zsI (zsI (zsN M 17 i0 0 (zmN M 17 p1 0)) 17 i0 1 (zmI (zsN M 17 i0 0 (zmN M 17 p1 0)) 17 p1 1)) 17 i0 2 (zmI (zsI (zsN M 17 i0 0 (zmN M 17 p1 0)) 17 i0 1 (zmI (zsN M 17 i0 0 (zmN M 17 p1 0)) 17 p1 1)) 17 p1 2)) 17 i0 3 (zmI (zsI (zsI (zsN M 17 i0 0 (zmN M 17 p1 0)) 17 i0 1 (zmI (zsN M 17 i0 0 (zmN M 17 p1 0)) 17 p1 1)) 17 i0 2 (zmI (zsI (zsN M 17 i0 0 (zmN M 17 p1 0)) 17 i0 1 (zmI (zsN M 17 i0 0 (zmN M 17 p1 0)) 17 p1 1)) 17 p1 2)) 17 p1 3)) 17 i0 4 (zmI (zsI (zsI (zsI (zsN M 17 i0 0 (zmN M 17 p1 0)) 17 i0 1 (zmI (zsN M 17 i0 0 (zmN M 17 p1 0)) 17 p1 1)) 17 i0 2 (zmI (zsI (zsN M 17 i0 0 (zmN M 17 p1 0)) 17 i0 1 (zmI (zsN M 17 i0 0 (zmN M 17 p1 0)) 17 p1 1)) 17 p1 2)) 17 i0 3 (zmI (zsI (zsI (zsN M 17 i0 0 (zmN M 17 p1 0)) 17 i0 1 (zmI (zsN M 17 i0 0 (zmN M 17 p1 0)) 17 p1 1)) 17 i0 2 (zmI (zsI (zsN M 17 i0 0 (zmN M 17 p1 0)) 17 i0 1 (zmI (zsN M 17 i0 0 (zmN M 17 p1 0)) 17 p1 1)) 17 p1 2)) 17 p1 3)) 17 p1 4)) 17 p1 5)) 17 i0 6 (zmI (zsI (zsI (zsI (zsI (zsI (zsN M 17 i0 0 (zmN M 17 p1 0)) 17 i0 1 (zmI (zsN M 17 i0 0 (zmN M 17 p1 0)) 17 p1 1)) 17 i0 2 (zmI (zsI (zsN M 17 i0 0 (zmN M 17 p1 0)) 17 i0 1 (zmI (zsN M 17 i0 0 (zmN M 17 p1 0)) 17 p1 1)) 17 p1 2)) 17 i0 3 (zmI (zsI (zsI (zsN M 17 i0 0 (zmN M 17 p1 0)) 17 i0 1 (zmI (zsN M 17 i0 0 (zmN M 17 p1 0)) 17 p1 1)) 17 i0 2 (zmI (zsI (zsN M 17 i0 0 (zmN M 17 p1 0)) 17 i0 1 (zmI (zsN M 17 i0 0 (zmN M 17 p1 0)) 17 p1 1)) 17 p1 2)) 17 p1 3)) 17 i0 4 (zmI (zsI (zsI (zsI (zsN M 17 i0 0 (zmN M 17 p1 0)) 17 i0 1 (zmI (zsN M 17 i0 0 (zmN M 17 p1 0)) 17 p1 1)) 17 i0 2 (zmI (zsI (zsN M 17 i0 0 (zmN M 17 p1 0)) 17 i0 1 (zmI (zsN M 17 i0 0 (zmN M 17 p1 0)) 17 p1 1)) 17 p1 2)) 17 i0 3 (zmI (zsI (zsI (zsN M 17 i0 0 (zmN M 17 p1 0)) 17 i0 1 (zmI (zsN M 17 i0 0 (zmN M 17 p1 0)) 17 p1 1)) 17 i0 2 (zmI (zsI (zsN M 17 i0 0 (zmN M 17 p1 0)) 17 i0 1 (zmI (zsN M 17 i0 0 (zmN M 17 p1 0)) 17 p1 1)) 17 p1 2)) 17 p1 3)) 17 p1 4)) 17 i0 5 (zmI (zsI (zsI (zsI (zsI (zsN M 17 i0 0 (zmN M 17 p1 0)) 17 i0 1 (zmI (zsN M 17 i0 0 (zmN M 17 p1 0)) 17 p1 1)) 17 i0 2 (zmI (zsI (zsN M 17 i0 0 (zmN M 17 p1 0)) 17 i0 1 (zmI (zsN M 17 i0 0 (zmN M 17 p1 0)) 17 p1 1)) 17 p1 2)) 17 i0 3 (zmI (zsI (zsI (zsN M 17 i0 0 (zmN M 17 p1 0)) 17 i0 1 (zmI (zsN M 17 i0 0 (zmN M 17 p1 0)) 17 p1 1)) 17 i0 2 (zmI (zsI (zsN M 17 i0 0 (zmN M 17 p1 0)) 17 i0 1 (zmI (zsN M 17 i0 0 (zmN M 17 p1 0)) 17 p1 1)) 17 p1 2)) 17 p1 3)) 17 i0 4 (zmI (zsI (zsI (zsI (zsN M 17 i0 0 (zmN M 17 p1 0)) 17 i0 1 (zmI (zsN M 17 i0 0 (zmN M 17 p1 0)) 17 p1 1)) 17 i0 2 (zmI (zsI (zsN M 17 i0 0 (zmN M 17 p1 0)) 17 i0 1 (zmI (zsN M 17 i0 0 (zmN M 17 p1 0)) 17 p1 1)) 17 p1 2)) 17 i0 3 (zmI (zsI (zsI (zsN M 17 i0 0 (zmN M 17 p1 0)) 17 i0 1 (zmI (zsN M 17 i0 0 (zmN M 17 p1 0)) 17 p1 1)) 17 i0 2 (zmI (zsI (zsN M 17 i0 0 (zmN M 17 p1 0)) 17 i0 1 (zmI (zsN M 17 i0 0 (zmN M 17 p1 0)) 17 p1 1)) 17 p1 2)) 17 p1 3)) 17 p1 4)) 17 p1 5)) 17 p1 6)) 17 p1 7)) 17 i0 8 (zmI (zsI (zsI (zsI (zsI (zsI (zsI (zsI (zsN M 17 i0 0 (zmN M 17 p1 0)) 17 i0 1 (zmI (zsN M 17 i0 0 (zmN M 17 p1 0)) 17 p1 1)) 17 i0 2 (zmI (zsI (zsN M 17 i0 0 (zmN M 17 p1 0)) 17 i0 1 (zmI (zsN M 17 i0 0 (zmN M 17 p1 0)) 17 p1 1)) 17 p1 2)) 17 i0 3 (zmI (zsI (zsI (zsN M 17 i0 0 (zmN M 17 p1 0)) 17 i0 1 (zmI (zsN M 17 i0 0 (zmN M 17 p1 0)) 17 p1 1)) 17 i0 2 (zmI (zsI (zsN M 17 i0 0 (zmN M 17 p1 0)) 17 i0 1 (zmI (zsN M 17 i0 0 (zmN M 17 p1 0)) 17 p1 1)) 17 p1 2)) 17 p1 3)) 17 i0 4 (zmI (zsI (zsI (zsI (zsN M 17 i0 0 (zmN M 17 p1 0)) 17 i0 1 (zmI (zsN M 17 i0 0 (zmN M 17 p1 0)) 17 p1 1)) 17 i0 2 (zmI (zsI (zsN M 17 i0 0 (zmN M 17 p1 0)) 17 i0 1 (zmI (zsN M 17 i0 0 (zmN M 17 p1 0)) 17 p1 1)) 17 p1 2)) 17 i0 3 (zmI (zsI (zsI (zsN M 17 i0 0 (zmN M 17 p1 0)) 17 i0 1 (zmI (zsN M 17 i0 0 (zmN M 17 p1 0)) 17 p1 1)) 17 i0 2 (zmI (zsI (zsN M 17 i0 0 (zmN M 17 p1 0)) 17 i0 1 (zmI (zsN M 17 i0 0 (zmN M 17 p1 0)) 17 p1 1)) 17 p1 2)) 17 p1 3)) 17 p1 4)) 17 i0 5 (zmI (zsI (zsI (zsI (zsI (zsN M 17 i0 0 (zmN M 17 p1 0)) 17 i0 1 (zmI (zsN M 17 i0 0 (zmN M 17 p1 0)) 17 p1 1)) 17 i0 2 (zmI (zsI (zsN M 17 i0 0 (zmN M 17 p1 0)) 17 i0 1 (zmI (zsN M 17 i0 0 (zmN M 17 p1 0)) 17 p1 1)) 17 p1 2)) 17 i0 3 (zmI (zsI (zsI (zsN M 17 i0 0 (zmN M 17 p1 0)) 17 i0 1 (zmI (zsN M 17 i0 0 (zmN M 17 p1 0)) 17 p1 1)) 17 i0 2 (zmI (zsI (zsN M 17 i0 0 (zmN M 17 p1 0)) 17 i0 1 (zmI (zsN M 17 i0 0 (zmN M 17 p1 0)) 17 p1 1)) 17 p1 2)) 17 p1 3)) 17 i0 4 (zmI (zsI (zsI (zsI (zsN M 17 i0 0 (zmN M 17 p1 0)) 17 i0 1 (zmI (zsN M 17 i0 0 (zmN M 17 p1 0)) 17 p1 1)) 17 i0 2 (zmI (zsI (zsN M 17 i0 0 (zmN M 17 p1 0)) 17 i0 1 (zmI (zsN M 17 i0 0 (zmN M 17 p1 0)) 17 p1 1)) 17 p1 2)) 17 i0 3 (zmI (zsI (zsI (zsN M 17 i0 0 (zmN M 17 p1 0)) 17 i0 1 (zmI (zsN M 17 i0 0 (zmN M 17 p1 0)) 17 p1 1)) 17 i0 2 (zmI (zsI (zsN M 17 i0 0 (zmN M 17 p1 0)) 17 i0 1 (zmI (zsN M 17 i0 0 (zmN M 17 p1 0)) 17 p1 1)) 17 p1 2)) 17 p1 3)) 17 p1 4)) 17 p1 5)) 17 i0 6 (zmI (zsI (zsI (zsI (zsI (zsI (zsN M 17 i0 0 (zmN M 17 p1 0)) 17 i0 1 (zmI (zsN M 17 i0 0 (zmN M 17 p1 0)) 17 p1 1)) 17 i0 2 (zmI (zsI (zsN M 17 i0 0 (zmN M 17 p1 0)) 17 i0 1 (zmI (zsN M 17 i0 0 (zmN M 17 p1 0)) 17 p1 1)) 17 p1 2)) 17 i0 3 (zmI (zsI (zsI (zsN M 17 i0 0 (zmN M 17 p1 0)) 17 i0 1 (zmI (zsN M 17 i0 0 (zmN M 17 p1 0)) 17 p1 1)) 17 i0 2 (zmI (zsI (zsN M 17 i0 0 (zmN M 17 p1 0)) 17 i0 1 (zmI (zsN M 17 i0 0 (zmN M 17 p1 0)) 17 p1 1)) 17 p1 2)) 17 p1 3)) 17 i0 4 (zmI (zsI (zsI (zsI (zsN M 17 i0 0 (zmN M 17 p1 0)) 17 i0 1 (zmI (zsN M 17 i0 0 (zmN M 17 p1 0)) 17 p1 1)) 17 i0 2 (zmI (zsI (zsN M 17 i0 0 (zmN M 17 p1 0)) 17 i0 1 (zmI (zsN M 17 i0 0 (zmN M 17 p1 0)) 17 p1 1)) 17 p1 2)) 17 i0 3 (zmI (zsI (zsI (zsN M 17 i0 0 (zmN M 17 p1 0)) 17 i0 1 (zmI (zsN M 17 i0 0 (zmN M 17 p1 0)) 17 p1 1)) 17 i0 2 (zmI (zsI (zsN M 17 i0 0 (zmN M 17 p1 0)) 17 i0 1 (zmI (zsN M 17 i0 0 (zmN M 17 p1 0)) 17 p1 1)) 17 p1 2)) 17 p1 3)) 17 p1 4)) 17 i0 5 (zmI (zsI (zsI (zsI (zsI (zsN M 17 i0 0 (zmN M 17 p1 0)) 17 i0 1 (zmI (zsN M 17 i0 0 (zmN M 17 p1 0)) 17 p1 1)) 17 i0 2 (zmI (zsI (zsN M 17 i0 0 (zmN M 17 p1 0)) 17 i0 1 (zmI (zsN M 17 i0 0 (zmN M 17 p1 0)) 17 p1 1)) 17 p1 2)) 17 i0 3 (zmI (zsI (zsI (zsN M 17 i0 0 (zmN M 17 p1 0)) 17 i0 1 (zmI (zsN M 17 i0 0 (zmN M 17 p1 0)) 17 p1 1)) 17 i0 2 (zmI (zsI (zsN M 17 i0 0 (zmN M 17 p1 0)) 17 i0 1 (zmI (zsN M 17 i0 0 (zmN M 17 p1 0)) 17 p1 1)) 17 p1 2)) 17 p1 3)) 17 i0 4 (zmI (zsI (zsI (zsI (zsN M 17 i0 0 (zmN M 17 p1 0)) 17 i0 1 (zmI (zsN M 17 i0 0 (zmN M 17 p1 0)) 17 p1 1)) 17 i0 2 (zmI (zsI (zsN M 17 i0 0 (zmN M 17 p1 0)) 17 i0 1 (zmI (zsN M 17 i0 0 (zmN M 17 p1 0)) 17 p1 1)) 17 p1 2)) 17 i0 3 (zmI (zsI (zsI (zsN M 17 i0 0 (zmN M 17 p1 0)) 17 i0 1 (zmI (zsN M 17 i0 0 (zmN M 17 p1 0)) 17 p1 1)) 17 i0 2 (zmI (zsI (zsN M 17 i0 0 (zmN M 17 p1 0)) 17 i0 1 (zmI (zsN M 17 i0 0 (zmN M 17 p1 0)) 17 p1 1)) 17 p1 2)) 17 p1 3)) 17 p1 4)) 17 p1 5)) 17 p1 6)) 17 i0 7 (zmI (zsI (zsI (zsI (zsI (zsI (zsI (zsN M 17 i0 0 (zmN M 17 p1 0)) 17 i0 1 (zmI (zsN M 17 i0 0 (zmN M 17 p1 0)) 17 p1 1)) 17 i0 2 (zmI (zsI (zsN M 17 i0 0 (zmN M 17 p1 0)) 17 i0 1 (zmI (zsN M 17 i0 0 (zmN M 17 p1 0)) 17 p1 1)) 17 p1 2)) 17 i0 3 (zmI (zsI (zsI (zsN M 17 i0 0 (zmN M 17 p1 0)) 17 i0 1 (zmI (zsN M 17 i0 0 (zmN M 17 p1 0)) 17 p1 1)) 17 i0 2 (zmI (zsI (zsN M 17 i0 0 (zmN M 17 p1 0)) 17 i0 1 (zmI (zsN M 17 i0 0 (zmN M 17 p1 0)) 17 p1 1)) 17 p1 2)) 17 p1 3)) 17 i0 4 (zmI (zsI (zsI (zsI (zsN M 17 i0 0 (zmN M 17 p1 0)) 17 i0 1 (zmI (zsN M 17 i0 0 (zmN M 17 p1 0)) 17 p1 1)) 17 i0 2 (zmI (zsI (zsN M 17 i0 0 (zmN M 17 p1 0)) 17 i0 1 (zmI (zsN M 17 i0 0 (zmN M 17 p1 0)) 17 p1 1)) 17 p1 2)) 17 i0 3 (zmI (zsI (zsI (zsN M 17 i0 0 (zmN M 17 p1 0)) 17 i0 1 (zmI (zsN M 17 i0 0 (zmN M 17 p1 0)) 17 p1 1)) 17 i0 2 (zmI (zsI (zsN M 17 i0 0 (zmN M 17 p1 0)) 17 i0 1 (zmI (zsN M 17 i0 0 (zmN M 17 p1 0)) 17 p1 1)) 17 p1 2)) 17 p1 3)) 17 p1 4)) 17 i0 5 (zmI (zsI (zsI (zsI (zsI (zsN M 17 i0 0 (zmN M 17 p1 0)) 17 i0 1 (zmI (zsN M 17 i0 0 (zmN M 17 p1 0)) 17 p1 1)) 17 i0 2 (zmI (zsI (zsN M 17 i0 0 (zmN M 17 p1 0)) 17 i0 1 (zmI (zsN M 17 i0 0 (zmN M 17 p1 0)) 17 p1 1)) 17 p1 2)) 17 i0 3 (zmI (zsI (zsI (zsN M 17 i0 0 (zmN M 17 p1 0)) 17 i0 1 (zmI (zsN M 17 i0 0 (zmN M 17 p1 0)) 17 p1 1)) 17 i0 2 (zmI (zsI (zsN M 17 i0 0 (zmN M 17 p1 0)) 17 i0 1 (zmI (zsN M 17 i0 0 (zmN M 17 p1 0)) 17 p1 1)) 17 p1 2)) 17 p1 3)) 17 i0 4 (zmI (zsI (zsI (zsI (zsN M 17 i0 0 (zmN M 17 p1 0)) 17 i0 1 (zmI (zsN M 17 i0 0 (zmN M 17 p1 0)) 17 p1 1)) 17 i0 2 (zmI (zsI (zsN M 17 i0 0 (zmN M 17 p1 0)) 17 i0 1 (zmI (zsN M 17 i0 0 (zmN M 17 p1 0)) 17 p1 1)) 17 p1 2)) 17 i0 3 (zmI (zsI (zsI (zsN M 17 i0 0 (zmN M 17 p1 0)) 17 i0 1 (zmI (zsN M 17 i0 0 (zmN M 17 p1 0)) 17 p1 1)) 17 i0 2 (zmI (zsI (zsN M 17 i0 0 (zmN M 17 p1 0)) 17 i0 1 (zmI (zsN M 17 i0 0 (zmN M 17 p1 0)) 17 p1 1)) 17 p1 2)) 17 p1 3)) 17 p1 4)) 17 p1 5)) 17 i0 6 (zmI (zsI (zsI (zsI (zsI (zsI (zsN M 17 i0 0 (zmN M 17 p1 0)) 17 i0 1 (zmI (zsN M 17 i0 0 (zmN M 17 p1 0)) 17 p1 1)) 17 i0 2 (zmI (zsI (zsN M 17 i0 0 (zmN M 17 p1 0)) 17 i0 1 (zmI (zsN M 17 i0 0 (zmN M 17 p1 0)) 17 p1 1)) 17 p1 2)) 17 i0 3 (zmI (zsI (zsI (zsN M 17 i0 0 (zmN M 17 p1 0)) 17 i0 1 (zmI (zsN M 17 i0 0 (zmN M 17 p1 0)) 17 p1 1)) 17 i0 2 (zmI (zsI (zsN M 17 i0 0 (zmN M 17 p1 0)) 17 i0 1 (zmI (zsN M 17 i0 0 (zmN M 17 p1 0)) 17 p1 1)) 17 p1 2)) 17 p1 3)) 17 i0 4 (zmI (zsI (zsI (zsI (zsN M 17 i0 0 (zmN M 17 p1 0)) 17 i0 1 (zmI (zsN M 17 i0 0 (zmN M 17 p1 0)) 17 p1 1)) 17 i0 2 (zmI (zsI (zsN M 17 i0 0 (zmN M 17 p1 0)) 17 i0 1 (zmI (zsN M 17 i0 0 (zmN M 17 p1 0)) 17 p1 1)) 17 p1 2)) 17 i0 3 (zmI (zsI (zsI (zsN M 17 i0 0 (zmN M 17 p1 0)) 17 i0 1 (zmI (zsN M 17 i0 0 (zmN M 17 p1 0)) 17 p1 1)) 17 i0 2 (zmI (zsI (zsN M 17 i0 0 (zmN M 17 p1 0)) 17 i0 1 (zmI (zsN M 17 i0 0 (zmN M 17 p1 0)) 17 p1 1)) 17 p1 2)) 17 p1 3)) 17 p1 4)) 17 i0 5 (zmI (zsI (zsI (zsI (zsI (zsN M 17 i0 0 (zmN M 17 p1 0)) 17 i0 1 (zmI (zsN M 17 i0 0 (zmN M 17 p1 0)) 17 p1 1)) 17 i0 2 (zmI (zsI (zsN M 17 i0 0 (zmN M 17 p1 0)) 17 i0 1 (zmI (zsN M 17 i0 0 (zmN M 17 p1 0)) 17 p1 1)) 17 p1 2)) 17 i0 3 (zmI (zsI (zsI (zsN M 17 i0 0 (zmN M 17 p1 0)) 17 i0 1 (zmI (zsN M 17 i0 0 (zmN M 17 p1 0)) 17 p1 1)) 17 i0 2 (zmI (zsI (zsN M 17 i0 0 (zmN M 17 p1 0)) 17 i0 1 (zmI (zsN M 17 i0 0 (zmN M 17 p1 0)) 17 p1 1)) 17 p1 2)) 17 p1 3)) 17 i0 4 (zmI (zsI (zsI (zsI (zsN M 17 i0 0 (zmN M 17 p1 0)) 17 i0 1 (zmI (zsN M 17 i0 0 (zmN M 17 p1 0)) 17 p1 1)) 17 i0 2 (zmI (zsI (zsN M 17 i0 0 (zmN M 17 p1 0)) 17 i0 1 (zmI (zsN M 17 i0 0 (zmN M 17 p1 0)) 17 p1 1)) 17 p1 2)) 17 i0 3 (zmI (zsI (zsI (zsN M 17 i0 0 (zmN M 17 p1 0)) 17 i0 1 (zmI (zsN M 17 i0 0 (zmN M 17 p1 0)) 17 p1 1)) 17 i0 2 (zmI (zsI (zsN M 17 i0 0 (zmN M 17 p1 0)) 17 i0 1 (zmI (zsN M 17 i0 0 (zmN M 17 p1 0)) 17 p1 1)) 17 p1 2)) 17 p1 3)) 17 p1 4)) 17 p1 5)) 17 p1 6)) 17 p1 7)) 17 p1 8)) 17 p1 9)) 18 i0) (0 : Int32).toNatClampNeg (0 : Int32).toNatClampNeg (8 : Int32).toNatClampNeg)))))))) : zCalV l G Y_X1_copyFrom 0 0 [vr 17 i0, vr 17 p1] M Kf := by
  refine zCal_of (lv := [(0, vr 17 i0), (1, vr 17 p1)]) (by decide) rfl (zle rfl) rfl (fun hv => zlv_args (lv := [(0, vr 17 i0), (1, vr 17 p1)]) rfl hv) ?_
  refine Z_aload_n dX1_copyFrom_0 rfl 0 rfl ?_
  refine Z_aload_n dX1_copyFrom_1 rfl 1 rfl ?_
  refine Z_getN zfl_X1_11 dX1_copyFrom_2 ?_
  refine Z_putN zfp_X1_11 rfl rfl dX1_copyFrom_5 ?_
  refine Z_aload_n dX1_copyFrom_8 rfl 0 rfl ?_
  refine Z_aload_n dX1_copyFrom_9 rfl 1 rfl ?_
  refine Z_getI zfl_X1_44 dX1_copyFrom_10 ?_
  refine Z_putI zfp_X1_44 rfl rfl dX1_copyFrom_13 ?_
  refine Z_aload_n dX1_copyFrom_16 rfl 0 rfl ?_
  refine Z_aload_n dX1_copyFrom_17 rfl 1 rfl ?_
  refine Z_getI zfl_X1_47 dX1_copyFrom_18 ?_
  refine Z_putI zfp_X1_47 rfl rfl dX1_copyFrom_21 ?_
  refine Z_aload_n dX1_copyFrom_24 rfl 0 rfl ?_
  refine Z_aload_n dX1_copyFrom_25 rfl 1 rfl ?_
  refine Z_getI zfl_X1_25 dX1_copyFrom_26 ?_
  refine Z_putI zfp_X1_25 rfl rfl dX1_copyFrom_29 ?_
  refine Z_aload_n dX1_copyFrom_32 rfl 0 rfl ?_
  refine Z_aload_n dX1_copyFrom_33 rfl 1 rfl ?_
  refine Z_getI zfl_X1_50 dX1_copyFrom_34 ?_
  refine Z_putI zfp_X1_50 rfl rfl dX1_copyFrom_37 ?_
  refine Z_aload_n dX1_copyFrom_40 rfl 0 rfl ?_
  refine Z_aload_n dX1_copyFrom_41 rfl 1 rfl ?_
  refine Z_getI zfl_X1_53 dX1_copyFrom_42 ?_
  obtain ⟨g1, h⟩ := h
  refine Z_putI zfp_X1_53 (zbit_n g1) (zbit_f g1) dX1_copyFrom_45 ?_
  refine Z_aload_n dX1_copyFrom_48 rfl 0 rfl ?_
  refine Z_aload_n dX1_copyFrom_49 rfl 1 rfl ?_
  refine Z_getI zfl_X1_21 dX1_copyFrom_50 ?_
  obtain ⟨g2, h⟩ := h
  refine Z_putI zfp_X1_21 (zbit_n g2) (zbit_f g2) dX1_copyFrom_53 ?_
  refine Z_aload_n dX1_copyFrom_56 rfl 0 rfl ?_
  refine Z_aload_n dX1_copyFrom_57 rfl 1 rfl ?_
  refine Z_getI zfl_X1_29 dX1_copyFrom_58 ?_
  refine Z_putI zfp_X1_29 rfl rfl dX1_copyFrom_61 ?_
  refine Z_aload_n dX1_copyFrom_64 rfl 0 rfl ?_
  refine Z_aload_n dX1_copyFrom_65 rfl 1 rfl ?_
  refine Z_getI zfl_X1_32 dX1_copyFrom_66 ?_
  obtain ⟨g3, h⟩ := h
  refine Z_putI zfp_X1_32 (zbit_n g3) (zbit_f g3) dX1_copyFrom_69 ?_
  refine Z_aload_n dX1_copyFrom_72 rfl 0 rfl ?_
  refine Z_aload_n dX1_copyFrom_73 rfl 1 rfl ?_
  refine Z_getI zfl_X1_35 dX1_copyFrom_74 ?_
  refine Z_putI zfp_X1_35 rfl rfl dX1_copyFrom_77 ?_
  refine Z_aload_n dX1_copyFrom_80 rfl 1 rfl ?_
  refine Z_getR (s1 := 18) (i1 := p1) zfl_X1_17 rfl (fun q => by first | exact q | decide) dX1_copyFrom_81 ?_
  refine Z_iconst (v := 0) (by decide) dX1_copyFrom_84 ?_
  refine Z_aload_n dX1_copyFrom_85 rfl 0 rfl ?_
  refine Z_getR (s1 := 18) (i1 := i0) zfl_X1_17 rfl (fun q => by first | exact q | decide) dX1_copyFrom_86 ?_
  refine Z_iconst (v := 0) (by decide) dX1_copyFrom_89 ?_
  refine Z_bipush (v := 8) (by decide) dX1_copyFrom_90 ?_
  obtain ⟨g4, h⟩ := h
  refine Z_copyL zw_725 zw_727 zw_726 zw_128 (n0 := 8) (n1 := 8) rfl rfl g4 zRm_M (by decide) (zle rfl) dX1_copyFrom_92 ?_
  exact Z_vret rfl dX1_copyFrom_95 (Nat.le_refl _) (Nat.le_refl _) ⟨rfl, h⟩
