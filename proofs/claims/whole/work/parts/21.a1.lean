/-! printed by wip/whole/drive.py -/
abbrev Y_X8_average : zY := (yX8_average, cX8_average, 1, (some .double), 2, [])
theorem zw_484 : Cond.fieldLink RX8 28 "EarlyDrops" "router" "LEarlyDrops$Router;" ∈ zAll := zin 484 (by decide +kernel) (by decide +kernel)
theorem zws_X8 : ∀ w ∈ u_ws RX8 TX8 9, w ∈ zAll := fun w hw => List.mem_filter.mpr (goodIn_r (big := lw_tbl) _ [490, 492, 494, 496, 498, 500, 502, 504, 506] (by decide +kernel) (by decide +kernel) w hw |>.imp_right (fun _ => List.all_eq_true.mp (show (u_ws RX8 TX8 9).all goodWord = true by decide +kernel) w hw))
theorem zfl_X8_28 : zFL RX8 28 0 3 1 := ⟨12, RX8, TX8, 9, rfl, rfl, by decide, rfl, zw_484, zws_X8⟩
theorem zw_326 : Cond.fieldLink RX8 145 "EarlyDrops$Router" "average" "I" ∈ zAll := zin 326 (by decide +kernel) (by decide +kernel)
theorem zfl_X8_145 : zFL RX8 145 15 8 0 := ⟨9, RX5, TX5, 16, rfl, rfl, by decide, rfl, zw_326, zws_X5⟩
theorem zw_949 : Cond.constantDouble RX8 236 4652218415073722368 ∈ zAll := zin 949 (by decide +kernel) (by decide +kernel)
abbrev Y_X8_errorPosition : zY := (yX8_errorPosition, cX8_errorPosition, 1, (some .int), 2, [])
theorem zw_481 : Cond.fieldLink RX8 10 "EarlyDrops" "text" "LEarlyDrops$Reader;" ∈ zAll := zin 481 (by decide +kernel) (by decide +kernel)
theorem zfl_X8_10 : zFL RX8 10 0 0 1 := ⟨12, RX8, TX8, 9, rfl, rfl, by decide, rfl, zw_481, zws_X8⟩
theorem zw_167 : Cond.fieldLink RX8 107 "EarlyDrops$Reader" "errorAt" "I" ∈ zAll := zin 167 (by decide +kernel) (by decide +kernel)
theorem zfl_X8_107 : zFL RX8 107 1 6 0 := ⟨8, RX4, TX4, 7, rfl, rfl, by decide, rfl, zw_167, zws_X4⟩
abbrev Y_X8_feed : zY := (yX8_feed, cX8_feed, 7, (some .int), 3, [])
theorem zw_513 : Cond.methodLink RX8 66 yX4_bytesOf ∈ zAll := zin 513 (by decide +kernel) (by decide +kernel)
theorem zw_515 : Cond.code yX4_bytesOf cX4_bytesOf 3 (some .int) ∈ zAll := zin 515 (by decide +kernel) (by decide +kernel)
theorem zw_514 : Cond.static yX4_bytesOf ∈ zAll := zin 514 (by decide +kernel) (by decide +kernel)
theorem zcs_X8_feed_X4_bytesOf_66 : zLS Y_X8_feed 66 Y_X4_bytesOf 1 := ⟨zw_513, zw_514, zw_112, zw_515, by decide +kernel, by decide, by decide⟩
theorem zw_155 : Cond.fieldLink RX8 70 "EarlyDrops$Reader" "length" "I" ∈ zAll := zin 155 (by decide +kernel) (by decide +kernel)
theorem zfl_X8_70 : zFL RX8 70 1 1 0 := ⟨8, RX4, TX4, 7, rfl, rfl, by decide, rfl, zw_155, zws_X4⟩
theorem zw_516 : Cond.methodLink RX8 74 yX4_take ∈ zAll := zin 516 (by decide +kernel) (by decide +kernel)
theorem zw_519 : Cond.code yX4_take cX4_take 4 none ∈ zAll := zin 519 (by decide +kernel) (by decide +kernel)
theorem zw_517 : Cond.instanceMethod yX4_take ∈ zAll := zin 517 (by decide +kernel) (by decide +kernel)
theorem zw_518 : Cond.selects RX4 yX4_take yX4_take ∈ zAll := zin 518 (by decide +kernel) (by decide +kernel)
theorem zcv_X8_feed_X4_take_74 : zLV Y_X8_feed 74 Y_X4_take 1 RX4 := ⟨zw_516, zw_517, zw_518, zw_112, zw_519, by decide +kernel, by decide, by decide⟩
abbrev Y_X8_next : zY := (yX8_next, cX8_next, 2, (some .int), 3, [])
theorem zw_342 : Cond.fieldLink RX8 138 "EarlyDrops$Router" "queue" "LEarlyDrops$Queue;" ∈ zAll := zin 342 (by decide +kernel) (by decide +kernel)
theorem zfl_X8_138 : zFL RX8 138 15 14 1 := ⟨9, RX5, TX5, 16, rfl, rfl, by decide, rfl, zw_342, zws_X5⟩
theorem zw_207 : Cond.fieldLink RX8 142 "EarlyDrops$Queue" "length" "I" ∈ zAll := zin 207 (by decide +kernel) (by decide +kernel)
theorem zfl_X8_142 : zFL RX8 142 19 1 0 := ⟨7, RX3, TX3, 2, rfl, rfl, by decide, rfl, zw_207, zws_X3⟩
theorem zw_974 : Cond.methodLink RX8 250 yX5_averageAfter ∈ zAll := zin 974 (by decide +kernel) (by decide +kernel)
theorem zcv_X8_next_X5_averageAfter_250 : zLV Y_X8_next 250 Y_X5_averageAfter 2 RX5 := ⟨zw_974, zw_837, zw_838, zw_114, zw_839, by decide +kernel, by decide, by decide⟩
theorem zw_975 : Cond.methodLink RX8 253 yX5_wayAt ∈ zAll := zin 975 (by decide +kernel) (by decide +kernel)
theorem zcv_X8_next_X5_wayAt_253 : zLV Y_X8_next 253 Y_X5_wayAt 2 RX5 := ⟨zw_975, zw_841, zw_842, zw_114, zw_843, by decide +kernel, by decide, by decide⟩
abbrev Y_X8_nextChance : zY := (yX8_nextChance, cX8_nextChance, 3, (some .int), 3, [])
theorem zcv_X8_nextChance_X5_averageAfter_250 : zLV Y_X8_nextChance 250 Y_X5_averageAfter 2 RX5 := ⟨zw_974, zw_837, zw_838, zw_114, zw_839, by decide +kernel, by decide, by decide⟩
theorem zcv_X8_nextChance_X5_wayAt_253 : zLV Y_X8_nextChance 253 Y_X5_wayAt 2 RX5 := ⟨zw_975, zw_841, zw_842, zw_114, zw_843, by decide +kernel, by decide, by decide⟩
theorem zw_980 : Cond.methodLink RX8 243 yX5_baseAt ∈ zAll := zin 980 (by decide +kernel) (by decide +kernel)
theorem zcv_X8_nextChance_X5_baseAt_243 : zLV Y_X8_nextChance 243 Y_X5_baseAt 1 RX5 := ⟨zw_980, zw_845, zw_846, zw_114, zw_847, by decide +kernel, by decide, by decide⟩
theorem zw_328 : Cond.fieldLink RX8 148 "EarlyDrops$Router" "count" "I" ∈ zAll := zin 328 (by decide +kernel) (by decide +kernel)
theorem zfl_X8_148 : zFL RX8 148 15 9 0 := ⟨9, RX5, TX5, 16, rfl, rfl, by decide, rfl, zw_328, zws_X5⟩
theorem zw_981 : Cond.methodLink RX8 246 yX5_chanceAt ∈ zAll := zin 981 (by decide +kernel) (by decide +kernel)
theorem zcs_X8_nextChance_X5_chanceAt_246 : zLS Y_X8_nextChance 246 Y_X5_chanceAt 3 := ⟨zw_981, zw_851, zw_114, zw_852, by decide +kernel, by decide, by decide⟩
abbrev Y_X8_shareLetIn : zY := (yX8_shareLetIn, cX8_shareLetIn, 10, (some .double), 3, [])
theorem zcv_X8_shareLetIn_X5_averageAfter_250 : zLV Y_X8_shareLetIn 250 Y_X5_averageAfter 2 RX5 := ⟨zw_974, zw_837, zw_838, zw_114, zw_839, by decide +kernel, by decide, by decide⟩
theorem zcv_X8_shareLetIn_X5_wayAt_253 : zLV Y_X8_shareLetIn 253 Y_X5_wayAt 2 RX5 := ⟨zw_975, zw_841, zw_842, zw_114, zw_843, by decide +kernel, by decide, by decide⟩
theorem zcv_X8_shareLetIn_X5_baseAt_243 : zLV Y_X8_shareLetIn 243 Y_X5_baseAt 1 RX5 := ⟨zw_980, zw_845, zw_846, zw_114, zw_847, by decide +kernel, by decide, by decide⟩
theorem zcs_X8_shareLetIn_X5_chanceAt_246 : zLS Y_X8_shareLetIn 246 Y_X5_chanceAt 3 := ⟨zw_981, zw_851, zw_114, zw_852, by decide +kernel, by decide, by decide⟩
theorem zw_1438 : Cond.constant RX8 282 65536 ∈ zAll := zin 1438 (by decide +kernel) (by decide +kernel)
theorem zw_1439 : Cond.constantDouble RX8 340 4679240012837945344 ∈ zAll := zin 1439 (by decide +kernel) (by decide +kernel)
abbrev Y_X8_amiss : zY := (yX8_amiss, cX8_amiss, 3, (some .int), 4, [])
theorem zw_344 : Cond.fieldLink RX8 154 "EarlyDrops$Router" "decisions" "LEarlyDrops$Decisions;" ∈ zAll := zin 344 (by decide +kernel) (by decide +kernel)
theorem zfl_X8_154 : zFL RX8 154 15 15 1 := ⟨9, RX5, TX5, 16, rfl, rfl, by decide, rfl, zw_344, zws_X5⟩
theorem zw_221 : Cond.fieldLink RX8 158 "EarlyDrops$Decisions" "kept" "I" ∈ zAll := zin 221 (by decide +kernel) (by decide +kernel)
theorem zfl_X8_158 : zFL RX8 158 21 1 0 := ⟨4, RX0, TX0, 3, rfl, rfl, by decide, rfl, zw_221, zws_X0⟩
theorem zw_937 : Cond.methodLink RX8 232 yX0_isAmiss ∈ zAll := zin 937 (by decide +kernel) (by decide +kernel)
theorem zw_940 : Cond.code yX0_isAmiss cX0_isAmiss 4 (some .boolean) ∈ zAll := zin 940 (by decide +kernel) (by decide +kernel)
theorem zw_938 : Cond.instanceMethod yX0_isAmiss ∈ zAll := zin 938 (by decide +kernel) (by decide +kernel)
theorem zw_939 : Cond.selects RX0 yX0_isAmiss yX0_isAmiss ∈ zAll := zin 939 (by decide +kernel) (by decide +kernel)
theorem zcv_X8_amiss_X0_isAmiss_232 : zLV Y_X8_amiss 232 Y_X0_isAmiss 1 RX0 := ⟨zw_937, zw_938, zw_939, zw_116, zw_940, by decide +kernel, by decide, by decide⟩
abbrev Y_X8_fairness : zY := (yX8_fairness, cX8_fairness, 8, (some .double), 4, [])
theorem zw_334 : Cond.fieldLink RX8 96 "EarlyDrops$Router" "flowCount" "I" ∈ zAll := zin 334 (by decide +kernel) (by decide +kernel)
theorem zfl_X8_96 : zFL RX8 96 15 12 0 := ⟨9, RX5, TX5, 16, rfl, rfl, by decide, rfl, zw_334, zws_X5⟩
theorem zw_954 : Cond.methodLink RX8 227 yX5_total ∈ zAll := zin 954 (by decide +kernel) (by decide +kernel)
theorem zw_957 : Cond.code yX5_total cX5_total 6 (some .long) ∈ zAll := zin 957 (by decide +kernel) (by decide +kernel)
theorem zw_955 : Cond.instanceMethod yX5_total ∈ zAll := zin 955 (by decide +kernel) (by decide +kernel)
theorem zw_956 : Cond.selects RX5 yX5_total yX5_total ∈ zAll := zin 956 (by decide +kernel) (by decide +kernel)
theorem zcv_X8_fairness_X5_total_227 : zLV Y_X8_fairness 227 Y_X5_total 2 RX5 := ⟨zw_954, zw_955, zw_956, zw_114, zw_957, by decide +kernel, by decide, by decide⟩
abbrev Y_X8_lossShare : zY := (yX8_lossShare, cX8_lossShare, 3, (some .float), 4, [])
theorem zcv_X8_lossShare_X5_total_227 : zLV Y_X8_lossShare 227 Y_X5_total 2 RX5 := ⟨zw_954, zw_955, zw_956, zw_114, zw_957, by decide +kernel, by decide, by decide⟩
theorem zw_958 : Cond.methodLink RX8 238 yX5_dropped ∈ zAll := zin 958 (by decide +kernel) (by decide +kernel)
theorem zw_961 : Cond.code yX5_dropped cX5_dropped 4 (some .long) ∈ zAll := zin 961 (by decide +kernel) (by decide +kernel)
theorem zw_959 : Cond.instanceMethod yX5_dropped ∈ zAll := zin 959 (by decide +kernel) (by decide +kernel)
theorem zw_960 : Cond.selects RX5 yX5_dropped yX5_dropped ∈ zAll := zin 960 (by decide +kernel) (by decide +kernel)
theorem zcv_X8_lossShare_X5_dropped_238 : zLV Y_X8_lossShare 238 Y_X5_dropped 0 RX5 := ⟨zw_958, zw_959, zw_960, zw_114, zw_961, by decide +kernel, by decide, by decide⟩
abbrev Y_X8_requireIndex : zY := (yX8_requireIndex, cX8_requireIndex, 2, none, 7, [])
theorem zw_1348 : Cond.classLink RX8 335 "java/lang/IndexOutOfBoundsException" ∈ zAll := zin 1348 (by decide +kernel) (by decide +kernel)
theorem zw_134 : Cond.initialized "java/lang/IndexOutOfBoundsException" ∈ zAll := zin 134 (by decide +kernel) (by decide +kernel)
theorem zat_X8_339 : ∀ w ∈ vx_atS RX8 339 "java/lang/IndexOutOfBoundsException" ["java/lang/RuntimeException", "java/lang/Exception"], w ∈ zAll ∨ w ∈ zFace := fun w hw => ((show ∀ w ∈ vx_atS RX8 339 "java/lang/IndexOutOfBoundsException" ["java/lang/RuntimeException", "java/lang/Exception"], (w ∈ lw_tbl ∧ goodWord w = true) ∨ w ∈ zFace by decide +kernel) w hw).imp (fun h => List.mem_filter.mpr h) id
abbrev Y_X8_requireWithin : zY := (yX8_requireWithin, cX8_requireWithin, 3, none, 7, [])
theorem zw_1329 : Cond.classLink RX8 328 "java/lang/IllegalArgumentException" ∈ zAll := zin 1329 (by decide +kernel) (by decide +kernel)
theorem zw_133 : Cond.initialized "java/lang/IllegalArgumentException" ∈ zAll := zin 133 (by decide +kernel) (by decide +kernel)
theorem zat_X8_332 : ∀ w ∈ vx_atS RX8 332 "java/lang/IllegalArgumentException" ["java/lang/RuntimeException", "java/lang/Exception"], w ∈ zAll ∨ w ∈ zFace := fun w hw => ((show ∀ w ∈ vx_atS RX8 332 "java/lang/IllegalArgumentException" ["java/lang/RuntimeException", "java/lang/Exception"], (w ∈ lw_tbl ∧ goodWord w = true) ∨ w ∈ zFace by decide +kernel) w hw).imp (fun h => List.mem_filter.mpr h) id
abbrev Y_X8_undo : zY := (yX8_undo, cX8_undo, 1, (some .int), 7, [])
theorem zw_486 : Cond.fieldLink RX8 47 "EarlyDrops" "past" "LEarlyDrops$Past;" ∈ zAll := zin 486 (by decide +kernel) (by decide +kernel)
theorem zfl_X8_47 : zFL RX8 47 0 5 1 := ⟨12, RX8, TX8, 9, rfl, rfl, by decide, rfl, zw_486, zws_X8⟩
theorem zw_1314 : Cond.methodLink RX8 324 yX2_takeBack ∈ zAll := zin 1314 (by decide +kernel) (by decide +kernel)
theorem zw_1317 : Cond.code yX2_takeBack cX2_takeBack 3 (some .boolean) ∈ zAll := zin 1317 (by decide +kernel) (by decide +kernel)
theorem zw_1315 : Cond.instanceMethod yX2_takeBack ∈ zAll := zin 1315 (by decide +kernel) (by decide +kernel)
theorem zw_1316 : Cond.selects RX2 yX2_takeBack yX2_takeBack ∈ zAll := zin 1316 (by decide +kernel) (by decide +kernel)
theorem zw_119 : Cond.initialized RX2 ∈ zAll := zin 119 (by decide +kernel) (by decide +kernel)
theorem zcv_X8_undo_X2_takeBack_324 : zLV Y_X8_undo 324 Y_X2_takeBack 1 RX2 := ⟨zw_1314, zw_1315, zw_1316, zw_119, zw_1317, by decide +kernel, by decide, by decide⟩
theorem zw_440 : Cond.fieldLink RX8 163 "EarlyDrops$Past" "kept" "I" ∈ zAll := zin 440 (by decide +kernel) (by decide +kernel)
theorem zfl_X8_163 : zFL RX8 163 10 2 0 := ⟨6, RX2, TX2, 3, rfl, rfl, by decide, rfl, zw_440, zws_X2⟩
abbrev Y_X8_base : zY := (yX8_base, cX8_base, 2, (some .int), 8, [])
theorem zw_1419 : Cond.constant RX8 242 99999 ∈ zAll := zin 1419 (by decide +kernel) (by decide +kernel)
theorem zw_1326 : Cond.methodLink RX8 110 yX8_requireWithin ∈ zAll := zin 1326 (by decide +kernel) (by decide +kernel)
theorem zw_1328 : Cond.code yX8_requireWithin cX8_requireWithin 3 none ∈ zAll := zin 1328 (by decide +kernel) (by decide +kernel)
theorem zw_1327 : Cond.static yX8_requireWithin ∈ zAll := zin 1327 (by decide +kernel) (by decide +kernel)
theorem zw_111 : Cond.initialized RX8 ∈ zAll := zin 111 (by decide +kernel) (by decide +kernel)
theorem zcs_X8_base_X8_requireWithin_110 : zLS Y_X8_base 110 Y_X8_requireWithin 3 := ⟨zw_1326, zw_1327, zw_111, zw_1328, by decide +kernel, by decide, by decide⟩
theorem zcv_X8_base_X5_baseAt_243 : zLV Y_X8_base 243 Y_X5_baseAt 1 RX5 := ⟨zw_980, zw_845, zw_846, zw_114, zw_847, by decide +kernel, by decide, by decide⟩
abbrev Y_X8_burst : zY := (yX8_burst, cX8_burst, 2, (some .double), 8, [])
theorem zcs_X8_burst_X8_requireWithin_110 : zLS Y_X8_burst 110 Y_X8_requireWithin 3 := ⟨zw_1326, zw_1327, zw_111, zw_1328, by decide +kernel, by decide, by decide⟩
theorem zw_1434 : Cond.methodLink RX8 256 yX8_shareLetIn ∈ zAll := zin 1434 (by decide +kernel) (by decide +kernel)
theorem zw_1437 : Cond.code yX8_shareLetIn cX8_shareLetIn 10 (some .double) ∈ zAll := zin 1437 (by decide +kernel) (by decide +kernel)
theorem zw_1436 : Cond.instanceMethod yX8_shareLetIn ∈ zAll := zin 1436 (by decide +kernel) (by decide +kernel)
theorem zw_23 : Cond.selects RX8 yX8_shareLetIn yX8_shareLetIn ∈ zAll := zin 23 (by decide +kernel) (by decide +kernel)
theorem zcv_X8_burst_X8_shareLetIn_256 : zLV Y_X8_burst 256 Y_X8_shareLetIn 1 RX8 := ⟨zw_1434, zw_1436, zw_23, zw_111, zw_1437, by decide +kernel, by decide, by decide⟩
abbrev Y_X8_chance : zY := (yX8_chance, cX8_chance, 3, (some .int), 8, [])
theorem zcs_X8_chance_X8_requireWithin_110 : zLS Y_X8_chance 110 Y_X8_requireWithin 3 := ⟨zw_1326, zw_1327, zw_111, zw_1328, by decide +kernel, by decide, by decide⟩
theorem zcv_X8_chance_X5_baseAt_243 : zLV Y_X8_chance 243 Y_X5_baseAt 1 RX5 := ⟨zw_980, zw_845, zw_846, zw_114, zw_847, by decide +kernel, by decide, by decide⟩
theorem zcs_X8_chance_X5_chanceAt_246 : zLS Y_X8_chance 246 Y_X5_chanceAt 3 := ⟨zw_981, zw_851, zw_114, zw_852, by decide +kernel, by decide, by decide⟩
abbrev Y_X8_decision : zY := (yX8_decision, cX8_decision, 3, (some .int), 8, [])
theorem zw_1345 : Cond.methodLink RX8 216 yX8_requireIndex ∈ zAll := zin 1345 (by decide +kernel) (by decide +kernel)
theorem zw_1347 : Cond.code yX8_requireIndex cX8_requireIndex 2 none ∈ zAll := zin 1347 (by decide +kernel) (by decide +kernel)
theorem zw_1346 : Cond.static yX8_requireIndex ∈ zAll := zin 1346 (by decide +kernel) (by decide +kernel)
theorem zcs_X8_decision_X8_requireIndex_216 : zLS Y_X8_decision 216 Y_X8_requireIndex 2 := ⟨zw_1345, zw_1346, zw_111, zw_1347, by decide +kernel, by decide, by decide⟩
theorem zcs_X8_decision_X8_requireWithin_110 : zLS Y_X8_decision 110 Y_X8_requireWithin 3 := ⟨zw_1326, zw_1327, zw_111, zw_1328, by decide +kernel, by decide, by decide⟩
theorem zw_1404 : Cond.methodLink RX8 231 yX0_cell ∈ zAll := zin 1404 (by decide +kernel) (by decide +kernel)
theorem zcv_X8_decision_X0_cell_231 : zLV Y_X8_decision 231 Y_X0_cell 2 RX0 := ⟨zw_1404, zw_942, zw_943, zw_116, zw_944, by decide +kernel, by decide, by decide⟩
abbrev Y_X8_flowAt : zY := (yX8_flowAt, cX8_flowAt, 2, (some (.object "EarlyDrops$Flow")), 8, [])
theorem zcs_X8_flowAt_X8_requireIndex_216 : zLS Y_X8_flowAt 216 Y_X8_requireIndex 2 := ⟨zw_1345, zw_1346, zw_111, zw_1347, by decide +kernel, by decide, by decide⟩
theorem zw_340 : Cond.fieldLink RX8 265 "EarlyDrops$Router" "flows" "[LEarlyDrops$Flow;" ∈ zAll := zin 340 (by decide +kernel) (by decide +kernel)
theorem zfl_X8_265 : zFL RX8 265 15 13 1 := ⟨9, RX5, TX5, 16, rfl, rfl, by decide, rfl, zw_340, zws_X5⟩
abbrev Y_X8_packet : zY := (yX8_packet, cX8_packet, 3, (some .int), 8, [])
theorem zcs_X8_packet_X8_requireIndex_216 : zLS Y_X8_packet 216 Y_X8_requireIndex 2 := ⟨zw_1345, zw_1346, zw_111, zw_1347, by decide +kernel, by decide, by decide⟩
theorem zcs_X8_packet_X8_requireWithin_110 : zLS Y_X8_packet 110 Y_X8_requireWithin 3 := ⟨zw_1326, zw_1327, zw_111, zw_1328, by decide +kernel, by decide, by decide⟩
theorem zw_1294 : Cond.methodLink RX8 220 yX3_cell ∈ zAll := zin 1294 (by decide +kernel) (by decide +kernel)
theorem zcv_X8_packet_X3_cell_220 : zLV Y_X8_packet 220 Y_X3_cell 2 RX3 := ⟨zw_1294, zw_886, zw_887, zw_115, zw_888, by decide +kernel, by decide, by decide⟩
theorem dX8_feed_0 : decode cX8_feed 0 = .ok (.iload_n 1, 1) := by decide +kernel
theorem dX8_feed_1 : decode cX8_feed 1 = .ok (.invokestatic 66, 3) := by decide +kernel
theorem dX8_feed_4 : decode cX8_feed 4 = .ok (.iload_n 2, 1) := by decide +kernel
theorem dX8_feed_5 : decode cX8_feed 5 = .ok (.invokestatic 66, 3) := by decide +kernel
theorem dX8_feed_8 : decode cX8_feed 8 = .ok (.iadd, 1) := by decide +kernel
theorem dX8_feed_9 : decode cX8_feed 9 = .ok (.iload_n 3, 1) := by decide +kernel
theorem dX8_feed_10 : decode cX8_feed 10 = .ok (.invokestatic 66, 3) := by decide +kernel
theorem dX8_feed_13 : decode cX8_feed 13 = .ok (.iadd, 1) := by decide +kernel
theorem dX8_feed_14 : decode cX8_feed 14 = .ok (.iload 4, 2) := by decide +kernel
theorem dX8_feed_16 : decode cX8_feed 16 = .ok (.invokestatic 66, 3) := by decide +kernel
theorem dX8_feed_19 : decode cX8_feed 19 = .ok (.iadd, 1) := by decide +kernel
theorem dX8_feed_20 : decode cX8_feed 20 = .ok (.iload 5, 2) := by decide +kernel
theorem dX8_feed_22 : decode cX8_feed 22 = .ok (.invokestatic 66, 3) := by decide +kernel
theorem dX8_feed_25 : decode cX8_feed 25 = .ok (.iadd, 1) := by decide +kernel
theorem dX8_feed_26 : decode cX8_feed 26 = .ok (.istore 6, 2) := by decide +kernel
theorem dX8_feed_28 : decode cX8_feed 28 = .ok (.aload_n 0, 1) := by decide +kernel
theorem dX8_feed_29 : decode cX8_feed 29 = .ok (.getfield 10, 3) := by decide +kernel
theorem dX8_feed_32 : decode cX8_feed 32 = .ok (.getfield 70, 3) := by decide +kernel
theorem dX8_feed_35 : decode cX8_feed 35 = .ok (.iload 6, 2) := by decide +kernel
theorem dX8_feed_37 : decode cX8_feed 37 = .ok (.iadd, 1) := by decide +kernel
theorem dX8_feed_38 : decode cX8_feed 38 = .ok (.sipush 500, 3) := by decide +kernel
theorem dX8_feed_41 : decode cX8_feed 41 = .ok (.if_icmp .le 5, 3) := by decide +kernel
theorem dX8_feed_44 : decode cX8_feed 44 = .ok (.iconst (-1), 1) := by decide +kernel
theorem dX8_feed_45 : decode cX8_feed 45 = .ok (.ireturn, 1) := by decide +kernel
theorem dX8_feed_46 : decode cX8_feed 46 = .ok (.aload_n 0, 1) := by decide +kernel
theorem dX8_feed_47 : decode cX8_feed 47 = .ok (.getfield 10, 3) := by decide +kernel
theorem dX8_feed_50 : decode cX8_feed 50 = .ok (.iload_n 1, 1) := by decide +kernel
theorem dX8_feed_51 : decode cX8_feed 51 = .ok (.invokevirtual 74, 3) := by decide +kernel
theorem dX8_feed_54 : decode cX8_feed 54 = .ok (.aload_n 0, 1) := by decide +kernel
theorem dX8_feed_55 : decode cX8_feed 55 = .ok (.getfield 10, 3) := by decide +kernel
theorem dX8_feed_58 : decode cX8_feed 58 = .ok (.iload_n 2, 1) := by decide +kernel
theorem dX8_feed_59 : decode cX8_feed 59 = .ok (.invokevirtual 74, 3) := by decide +kernel
theorem dX8_feed_62 : decode cX8_feed 62 = .ok (.aload_n 0, 1) := by decide +kernel
theorem dX8_feed_63 : decode cX8_feed 63 = .ok (.getfield 10, 3) := by decide +kernel
theorem dX8_feed_66 : decode cX8_feed 66 = .ok (.iload_n 3, 1) := by decide +kernel
theorem dX8_feed_67 : decode cX8_feed 67 = .ok (.invokevirtual 74, 3) := by decide +kernel
theorem dX8_feed_70 : decode cX8_feed 70 = .ok (.aload_n 0, 1) := by decide +kernel
theorem dX8_feed_71 : decode cX8_feed 71 = .ok (.getfield 10, 3) := by decide +kernel
theorem dX8_feed_74 : decode cX8_feed 74 = .ok (.iload 4, 2) := by decide +kernel
theorem dX8_feed_76 : decode cX8_feed 76 = .ok (.invokevirtual 74, 3) := by decide +kernel
theorem dX8_feed_79 : decode cX8_feed 79 = .ok (.aload_n 0, 1) := by decide +kernel
theorem dX8_feed_80 : decode cX8_feed 80 = .ok (.getfield 10, 3) := by decide +kernel
theorem dX8_feed_83 : decode cX8_feed 83 = .ok (.iload 5, 2) := by decide +kernel
theorem dX8_feed_85 : decode cX8_feed 85 = .ok (.invokevirtual 74, 3) := by decide +kernel
theorem dX8_feed_88 : decode cX8_feed 88 = .ok (.aload_n 0, 1) := by decide +kernel
theorem dX8_feed_89 : decode cX8_feed 89 = .ok (.getfield 10, 3) := by decide +kernel
theorem dX8_feed_92 : decode cX8_feed 92 = .ok (.getfield 70, 3) := by decide +kernel
theorem dX8_feed_95 : decode cX8_feed 95 = .ok (.ireturn, 1) := by decide +kernel
theorem dX8_errorPosition_0 : decode cX8_errorPosition 0 = .ok (.aload_n 0, 1) := by decide +kernel
theorem dX8_errorPosition_1 : decode cX8_errorPosition 1 = .ok (.getfield 10, 3) := by decide +kernel
theorem dX8_errorPosition_4 : decode cX8_errorPosition 4 = .ok (.getfield 107, 3) := by decide +kernel
theorem dX8_errorPosition_7 : decode cX8_errorPosition 7 = .ok (.ireturn, 1) := by decide +kernel
theorem dX8_packet_0 : decode cX8_packet 0 = .ok (.iload_n 1, 1) := by decide +kernel
theorem dX8_packet_1 : decode cX8_packet 1 = .ok (.aload_n 0, 1) := by decide +kernel
theorem dX8_packet_2 : decode cX8_packet 2 = .ok (.getfield 28, 3) := by decide +kernel
theorem dX8_packet_5 : decode cX8_packet 5 = .ok (.getfield 138, 3) := by decide +kernel
theorem dX8_packet_8 : decode cX8_packet 8 = .ok (.getfield 142, 3) := by decide +kernel
theorem dX8_packet_11 : decode cX8_packet 11 = .ok (.invokestatic 216, 3) := by decide +kernel
theorem dX8_packet_14 : decode cX8_packet 14 = .ok (.iload_n 2, 1) := by decide +kernel
theorem dX8_packet_15 : decode cX8_packet 15 = .ok (.iconst 0, 1) := by decide +kernel
theorem dX8_packet_16 : decode cX8_packet 16 = .ok (.iconst 2, 1) := by decide +kernel
theorem dX8_packet_17 : decode cX8_packet 17 = .ok (.invokestatic 110, 3) := by decide +kernel
theorem dX8_packet_20 : decode cX8_packet 20 = .ok (.aload_n 0, 1) := by decide +kernel
theorem dX8_packet_21 : decode cX8_packet 21 = .ok (.getfield 28, 3) := by decide +kernel
theorem dX8_packet_24 : decode cX8_packet 24 = .ok (.getfield 138, 3) := by decide +kernel
theorem dX8_packet_27 : decode cX8_packet 27 = .ok (.iload_n 1, 1) := by decide +kernel
theorem dX8_packet_28 : decode cX8_packet 28 = .ok (.iload_n 2, 1) := by decide +kernel
theorem dX8_packet_29 : decode cX8_packet 29 = .ok (.invokevirtual 220, 3) := by decide +kernel
theorem dX8_packet_32 : decode cX8_packet 32 = .ok (.ireturn, 1) := by decide +kernel
theorem dX8_decision_0 : decode cX8_decision 0 = .ok (.iload_n 1, 1) := by decide +kernel
theorem dX8_decision_1 : decode cX8_decision 1 = .ok (.aload_n 0, 1) := by decide +kernel
theorem dX8_decision_2 : decode cX8_decision 2 = .ok (.getfield 28, 3) := by decide +kernel
theorem dX8_decision_5 : decode cX8_decision 5 = .ok (.getfield 154, 3) := by decide +kernel
theorem dX8_decision_8 : decode cX8_decision 8 = .ok (.getfield 158, 3) := by decide +kernel
theorem dX8_decision_11 : decode cX8_decision 11 = .ok (.invokestatic 216, 3) := by decide +kernel
theorem dX8_decision_14 : decode cX8_decision 14 = .ok (.iload_n 2, 1) := by decide +kernel
theorem dX8_decision_15 : decode cX8_decision 15 = .ok (.iconst 0, 1) := by decide +kernel
theorem dX8_decision_16 : decode cX8_decision 16 = .ok (.bipush 7, 2) := by decide +kernel
theorem dX8_decision_18 : decode cX8_decision 18 = .ok (.invokestatic 110, 3) := by decide +kernel
theorem dX8_decision_21 : decode cX8_decision 21 = .ok (.aload_n 0, 1) := by decide +kernel
theorem dX8_decision_22 : decode cX8_decision 22 = .ok (.getfield 28, 3) := by decide +kernel
theorem dX8_decision_25 : decode cX8_decision 25 = .ok (.getfield 154, 3) := by decide +kernel
theorem dX8_decision_28 : decode cX8_decision 28 = .ok (.iload_n 1, 1) := by decide +kernel
theorem dX8_decision_29 : decode cX8_decision 29 = .ok (.iload_n 2, 1) := by decide +kernel
theorem dX8_decision_30 : decode cX8_decision 30 = .ok (.invokevirtual 231, 3) := by decide +kernel
theorem dX8_decision_33 : decode cX8_decision 33 = .ok (.ireturn, 1) := by decide +kernel
theorem dX8_amiss_0 : decode cX8_amiss 0 = .ok (.iconst 0, 1) := by decide +kernel
theorem dX8_amiss_1 : decode cX8_amiss 1 = .ok (.istore_n 1, 1) := by decide +kernel
theorem dX8_amiss_2 : decode cX8_amiss 2 = .ok (.iconst 0, 1) := by decide +kernel
theorem dX8_amiss_3 : decode cX8_amiss 3 = .ok (.istore_n 2, 1) := by decide +kernel
theorem dX8_amiss_4 : decode cX8_amiss 4 = .ok (.iload_n 2, 1) := by decide +kernel
theorem dX8_amiss_5 : decode cX8_amiss 5 = .ok (.aload_n 0, 1) := by decide +kernel
theorem dX8_amiss_6 : decode cX8_amiss 6 = .ok (.getfield 28, 3) := by decide +kernel
theorem dX8_amiss_9 : decode cX8_amiss 9 = .ok (.getfield 154, 3) := by decide +kernel
theorem dX8_amiss_12 : decode cX8_amiss 12 = .ok (.getfield 158, 3) := by decide +kernel
theorem dX8_amiss_15 : decode cX8_amiss 15 = .ok (.if_icmp .ge 26, 3) := by decide +kernel
theorem dX8_amiss_18 : decode cX8_amiss 18 = .ok (.aload_n 0, 1) := by decide +kernel
theorem dX8_amiss_19 : decode cX8_amiss 19 = .ok (.getfield 28, 3) := by decide +kernel
theorem dX8_amiss_22 : decode cX8_amiss 22 = .ok (.getfield 154, 3) := by decide +kernel
theorem dX8_amiss_25 : decode cX8_amiss 25 = .ok (.iload_n 2, 1) := by decide +kernel
theorem dX8_amiss_26 : decode cX8_amiss 26 = .ok (.invokevirtual 232, 3) := by decide +kernel
theorem dX8_amiss_29 : decode cX8_amiss 29 = .ok (.ifCond .eq 6, 3) := by decide +kernel
theorem dX8_amiss_32 : decode cX8_amiss 32 = .ok (.iinc 1 1, 3) := by decide +kernel
theorem dX8_amiss_35 : decode cX8_amiss 35 = .ok (.iinc 2 1, 3) := by decide +kernel
theorem dX8_amiss_38 : decode cX8_amiss 38 = .ok (.goto (-34), 3) := by decide +kernel
theorem dX8_amiss_41 : decode cX8_amiss 41 = .ok (.iload_n 1, 1) := by decide +kernel
theorem dX8_amiss_42 : decode cX8_amiss 42 = .ok (.ireturn, 1) := by decide +kernel
theorem dX8_average_0 : decode cX8_average 0 = .ok (.aload_n 0, 1) := by decide +kernel
theorem dX8_average_1 : decode cX8_average 1 = .ok (.getfield 28, 3) := by decide +kernel
theorem dX8_average_4 : decode cX8_average 4 = .ok (.getfield 145, 3) := by decide +kernel
theorem dX8_average_7 : decode cX8_average 7 = .ok (.i2d, 1) := by decide +kernel
theorem dX8_average_8 : decode cX8_average 8 = .ok (.ldc2_w 236, 3) := by decide +kernel
theorem dX8_average_11 : decode cX8_average 11 = .ok (.ddiv, 1) := by decide +kernel
theorem dX8_average_12 : decode cX8_average 12 = .ok (.dreturn, 1) := by decide +kernel
theorem dX8_lossShare_0 : decode cX8_lossShare 0 = .ok (.aload_n 0, 1) := by decide +kernel
theorem dX8_lossShare_1 : decode cX8_lossShare 1 = .ok (.getfield 28, 3) := by decide +kernel
theorem dX8_lossShare_4 : decode cX8_lossShare 4 = .ok (.iconst (-1), 1) := by decide +kernel
theorem dX8_lossShare_5 : decode cX8_lossShare 5 = .ok (.iconst 0, 1) := by decide +kernel
theorem dX8_lossShare_6 : decode cX8_lossShare 6 = .ok (.invokevirtual 227, 3) := by decide +kernel
theorem dX8_lossShare_9 : decode cX8_lossShare 9 = .ok (.lstore_n 1, 1) := by decide +kernel
theorem dX8_lossShare_10 : decode cX8_lossShare 10 = .ok (.lload_n 1, 1) := by decide +kernel
theorem dX8_lossShare_11 : decode cX8_lossShare 11 = .ok (.lconst 0, 1) := by decide +kernel
theorem dX8_lossShare_12 : decode cX8_lossShare 12 = .ok (.lcmp, 1) := by decide +kernel
theorem dX8_lossShare_13 : decode cX8_lossShare 13 = .ok (.ifCond .le 17, 3) := by decide +kernel
theorem dX8_lossShare_16 : decode cX8_lossShare 16 = .ok (.aload_n 0, 1) := by decide +kernel
theorem dX8_lossShare_17 : decode cX8_lossShare 17 = .ok (.getfield 28, 3) := by decide +kernel
theorem dX8_lossShare_20 : decode cX8_lossShare 20 = .ok (.invokevirtual 238, 3) := by decide +kernel
theorem dX8_lossShare_23 : decode cX8_lossShare 23 = .ok (.l2f, 1) := by decide +kernel
theorem dX8_lossShare_24 : decode cX8_lossShare 24 = .ok (.lload_n 1, 1) := by decide +kernel
theorem dX8_lossShare_25 : decode cX8_lossShare 25 = .ok (.l2f, 1) := by decide +kernel
theorem dX8_lossShare_26 : decode cX8_lossShare 26 = .ok (.fdiv, 1) := by decide +kernel
theorem dX8_lossShare_27 : decode cX8_lossShare 27 = .ok (.goto 4, 3) := by decide +kernel
theorem dX8_lossShare_30 : decode cX8_lossShare 30 = .ok (.fconst 0, 1) := by decide +kernel
theorem dX8_lossShare_31 : decode cX8_lossShare 31 = .ok (.freturn, 1) := by decide +kernel
theorem dX8_fairness_0 : decode cX8_fairness 0 = .ok (.lconst 0, 1) := by decide +kernel
theorem dX8_fairness_1 : decode cX8_fairness 1 = .ok (.lstore_n 1, 1) := by decide +kernel
theorem dX8_fairness_2 : decode cX8_fairness 2 = .ok (.lconst 0, 1) := by decide +kernel
theorem dX8_fairness_3 : decode cX8_fairness 3 = .ok (.lstore_n 3, 1) := by decide +kernel
theorem dX8_fairness_4 : decode cX8_fairness 4 = .ok (.iconst 0, 1) := by decide +kernel
theorem dX8_fairness_5 : decode cX8_fairness 5 = .ok (.istore 5, 2) := by decide +kernel
theorem dX8_fairness_7 : decode cX8_fairness 7 = .ok (.iload 5, 2) := by decide +kernel
theorem dX8_fairness_9 : decode cX8_fairness 9 = .ok (.aload_n 0, 1) := by decide +kernel
theorem dX8_fairness_10 : decode cX8_fairness 10 = .ok (.getfield 28, 3) := by decide +kernel
theorem dX8_fairness_13 : decode cX8_fairness 13 = .ok (.getfield 96, 3) := by decide +kernel
theorem dX8_fairness_16 : decode cX8_fairness 16 = .ok (.if_icmp .ge 34, 3) := by decide +kernel
theorem dX8_fairness_19 : decode cX8_fairness 19 = .ok (.aload_n 0, 1) := by decide +kernel
theorem dX8_fairness_20 : decode cX8_fairness 20 = .ok (.getfield 28, 3) := by decide +kernel
theorem dX8_fairness_23 : decode cX8_fairness 23 = .ok (.iload 5, 2) := by decide +kernel
theorem dX8_fairness_25 : decode cX8_fairness 25 = .ok (.iconst 5, 1) := by decide +kernel
theorem dX8_fairness_26 : decode cX8_fairness 26 = .ok (.invokevirtual 227, 3) := by decide +kernel
theorem dX8_fairness_29 : decode cX8_fairness 29 = .ok (.lstore 6, 2) := by decide +kernel
theorem dX8_fairness_31 : decode cX8_fairness 31 = .ok (.lload_n 1, 1) := by decide +kernel
theorem dX8_fairness_32 : decode cX8_fairness 32 = .ok (.lload 6, 2) := by decide +kernel
theorem dX8_fairness_34 : decode cX8_fairness 34 = .ok (.ladd, 1) := by decide +kernel
theorem dX8_fairness_35 : decode cX8_fairness 35 = .ok (.lstore_n 1, 1) := by decide +kernel
theorem dX8_fairness_36 : decode cX8_fairness 36 = .ok (.lload_n 3, 1) := by decide +kernel
theorem dX8_fairness_37 : decode cX8_fairness 37 = .ok (.lload 6, 2) := by decide +kernel
theorem dX8_fairness_39 : decode cX8_fairness 39 = .ok (.lload 6, 2) := by decide +kernel
theorem dX8_fairness_41 : decode cX8_fairness 41 = .ok (.lmul, 1) := by decide +kernel
theorem dX8_fairness_42 : decode cX8_fairness 42 = .ok (.ladd, 1) := by decide +kernel
theorem dX8_fairness_43 : decode cX8_fairness 43 = .ok (.lstore_n 3, 1) := by decide +kernel
theorem dX8_fairness_44 : decode cX8_fairness 44 = .ok (.iinc 5 1, 3) := by decide +kernel
theorem dX8_fairness_47 : decode cX8_fairness 47 = .ok (.goto (-40), 3) := by decide +kernel
theorem dX8_fairness_50 : decode cX8_fairness 50 = .ok (.aload_n 0, 1) := by decide +kernel
theorem dX8_fairness_51 : decode cX8_fairness 51 = .ok (.getfield 28, 3) := by decide +kernel
theorem dX8_fairness_54 : decode cX8_fairness 54 = .ok (.getfield 96, 3) := by decide +kernel
theorem dX8_fairness_57 : decode cX8_fairness 57 = .ok (.i2l, 1) := by decide +kernel
theorem dX8_fairness_58 : decode cX8_fairness 58 = .ok (.lload_n 3, 1) := by decide +kernel
theorem dX8_fairness_59 : decode cX8_fairness 59 = .ok (.lmul, 1) := by decide +kernel
theorem dX8_fairness_60 : decode cX8_fairness 60 = .ok (.lstore 5, 2) := by decide +kernel
theorem dX8_fairness_62 : decode cX8_fairness 62 = .ok (.lload 5, 2) := by decide +kernel
theorem dX8_fairness_64 : decode cX8_fairness 64 = .ok (.lconst 0, 1) := by decide +kernel
theorem dX8_fairness_65 : decode cX8_fairness 65 = .ok (.lcmp, 1) := by decide +kernel
theorem dX8_fairness_66 : decode cX8_fairness 66 = .ok (.ifCond .le 14, 3) := by decide +kernel
theorem dX8_fairness_69 : decode cX8_fairness 69 = .ok (.lload_n 1, 1) := by decide +kernel
theorem dX8_fairness_70 : decode cX8_fairness 70 = .ok (.lload_n 1, 1) := by decide +kernel
theorem dX8_fairness_71 : decode cX8_fairness 71 = .ok (.lmul, 1) := by decide +kernel
theorem dX8_fairness_72 : decode cX8_fairness 72 = .ok (.l2d, 1) := by decide +kernel
theorem dX8_fairness_73 : decode cX8_fairness 73 = .ok (.lload 5, 2) := by decide +kernel
theorem dX8_fairness_75 : decode cX8_fairness 75 = .ok (.l2d, 1) := by decide +kernel
theorem dX8_fairness_76 : decode cX8_fairness 76 = .ok (.ddiv, 1) := by decide +kernel
theorem dX8_fairness_77 : decode cX8_fairness 77 = .ok (.goto 4, 3) := by decide +kernel
theorem dX8_fairness_80 : decode cX8_fairness 80 = .ok (.dconst 1, 1) := by decide +kernel
theorem dX8_fairness_81 : decode cX8_fairness 81 = .ok (.dreturn, 1) := by decide +kernel
theorem dX8_base_0 : decode cX8_base 0 = .ok (.iload_n 1, 1) := by decide +kernel
theorem dX8_base_1 : decode cX8_base 1 = .ok (.iconst 0, 1) := by decide +kernel
theorem dX8_base_2 : decode cX8_base 2 = .ok (.ldc 242, 2) := by decide +kernel
theorem dX8_base_4 : decode cX8_base 4 = .ok (.invokestatic 110, 3) := by decide +kernel
theorem dX8_base_7 : decode cX8_base 7 = .ok (.aload_n 0, 1) := by decide +kernel
theorem dX8_base_8 : decode cX8_base 8 = .ok (.getfield 28, 3) := by decide +kernel
theorem dX8_base_11 : decode cX8_base 11 = .ok (.iload_n 1, 1) := by decide +kernel
theorem dX8_base_12 : decode cX8_base 12 = .ok (.invokevirtual 243, 3) := by decide +kernel
theorem dX8_base_15 : decode cX8_base 15 = .ok (.ireturn, 1) := by decide +kernel
theorem dX8_chance_0 : decode cX8_chance 0 = .ok (.iload_n 1, 1) := by decide +kernel
theorem dX8_chance_1 : decode cX8_chance 1 = .ok (.iconst 0, 1) := by decide +kernel
theorem dX8_chance_2 : decode cX8_chance 2 = .ok (.ldc 242, 2) := by decide +kernel
theorem dX8_chance_4 : decode cX8_chance 4 = .ok (.invokestatic 110, 3) := by decide +kernel
theorem dX8_chance_7 : decode cX8_chance 7 = .ok (.iload_n 2, 1) := by decide +kernel
theorem dX8_chance_8 : decode cX8_chance 8 = .ok (.iconst 0, 1) := by decide +kernel
theorem dX8_chance_9 : decode cX8_chance 9 = .ok (.sipush 9999, 3) := by decide +kernel
theorem dX8_chance_12 : decode cX8_chance 12 = .ok (.invokestatic 110, 3) := by decide +kernel
theorem dX8_chance_15 : decode cX8_chance 15 = .ok (.iconst 3, 1) := by decide +kernel
theorem dX8_chance_16 : decode cX8_chance 16 = .ok (.aload_n 0, 1) := by decide +kernel
theorem dX8_chance_17 : decode cX8_chance 17 = .ok (.getfield 28, 3) := by decide +kernel
theorem dX8_chance_20 : decode cX8_chance 20 = .ok (.iload_n 1, 1) := by decide +kernel
theorem dX8_chance_21 : decode cX8_chance 21 = .ok (.invokevirtual 243, 3) := by decide +kernel
theorem dX8_chance_24 : decode cX8_chance 24 = .ok (.iload_n 2, 1) := by decide +kernel
theorem dX8_chance_25 : decode cX8_chance 25 = .ok (.invokestatic 246, 3) := by decide +kernel
theorem dX8_chance_28 : decode cX8_chance 28 = .ok (.ireturn, 1) := by decide +kernel
theorem dX8_next_0 : decode cX8_next 0 = .ok (.aload_n 0, 1) := by decide +kernel
theorem dX8_next_1 : decode cX8_next 1 = .ok (.getfield 28, 3) := by decide +kernel
theorem dX8_next_4 : decode cX8_next 4 = .ok (.getfield 138, 3) := by decide +kernel
theorem dX8_next_7 : decode cX8_next 7 = .ok (.getfield 142, 3) := by decide +kernel
theorem dX8_next_10 : decode cX8_next 10 = .ok (.istore_n 1, 1) := by decide +kernel
theorem dX8_next_11 : decode cX8_next 11 = .ok (.aload_n 0, 1) := by decide +kernel
theorem dX8_next_12 : decode cX8_next 12 = .ok (.getfield 28, 3) := by decide +kernel
theorem dX8_next_15 : decode cX8_next 15 = .ok (.iload_n 1, 1) := by decide +kernel
theorem dX8_next_16 : decode cX8_next 16 = .ok (.aload_n 0, 1) := by decide +kernel
theorem dX8_next_17 : decode cX8_next 17 = .ok (.getfield 28, 3) := by decide +kernel
theorem dX8_next_20 : decode cX8_next 20 = .ok (.iload_n 1, 1) := by decide +kernel
theorem dX8_next_21 : decode cX8_next 21 = .ok (.aload_n 0, 1) := by decide +kernel
theorem dX8_next_22 : decode cX8_next 22 = .ok (.getfield 28, 3) := by decide +kernel
theorem dX8_next_25 : decode cX8_next 25 = .ok (.getfield 145, 3) := by decide +kernel
theorem dX8_next_28 : decode cX8_next 28 = .ok (.invokevirtual 250, 3) := by decide +kernel
theorem dX8_next_31 : decode cX8_next 31 = .ok (.invokevirtual 253, 3) := by decide +kernel
theorem dX8_next_34 : decode cX8_next 34 = .ok (.ireturn, 1) := by decide +kernel
theorem dX8_nextChance_0 : decode cX8_nextChance 0 = .ok (.aload_n 0, 1) := by decide +kernel
theorem dX8_nextChance_1 : decode cX8_nextChance 1 = .ok (.getfield 28, 3) := by decide +kernel
theorem dX8_nextChance_4 : decode cX8_nextChance 4 = .ok (.getfield 138, 3) := by decide +kernel
theorem dX8_nextChance_7 : decode cX8_nextChance 7 = .ok (.getfield 142, 3) := by decide +kernel
theorem dX8_nextChance_10 : decode cX8_nextChance 10 = .ok (.istore_n 1, 1) := by decide +kernel
theorem dX8_nextChance_11 : decode cX8_nextChance 11 = .ok (.aload_n 0, 1) := by decide +kernel
theorem dX8_nextChance_12 : decode cX8_nextChance 12 = .ok (.getfield 28, 3) := by decide +kernel
theorem dX8_nextChance_15 : decode cX8_nextChance 15 = .ok (.iload_n 1, 1) := by decide +kernel
theorem dX8_nextChance_16 : decode cX8_nextChance 16 = .ok (.aload_n 0, 1) := by decide +kernel
theorem dX8_nextChance_17 : decode cX8_nextChance 17 = .ok (.getfield 28, 3) := by decide +kernel
theorem dX8_nextChance_20 : decode cX8_nextChance 20 = .ok (.getfield 145, 3) := by decide +kernel
theorem dX8_nextChance_23 : decode cX8_nextChance 23 = .ok (.invokevirtual 250, 3) := by decide +kernel
theorem dX8_nextChance_26 : decode cX8_nextChance 26 = .ok (.istore_n 2, 1) := by decide +kernel
theorem dX8_nextChance_27 : decode cX8_nextChance 27 = .ok (.aload_n 0, 1) := by decide +kernel
theorem dX8_nextChance_28 : decode cX8_nextChance 28 = .ok (.getfield 28, 3) := by decide +kernel
theorem dX8_nextChance_31 : decode cX8_nextChance 31 = .ok (.iload_n 1, 1) := by decide +kernel
theorem dX8_nextChance_32 : decode cX8_nextChance 32 = .ok (.iload_n 2, 1) := by decide +kernel
theorem dX8_nextChance_33 : decode cX8_nextChance 33 = .ok (.invokevirtual 253, 3) := by decide +kernel
theorem dX8_nextChance_36 : decode cX8_nextChance 36 = .ok (.aload_n 0, 1) := by decide +kernel
theorem dX8_nextChance_37 : decode cX8_nextChance 37 = .ok (.getfield 28, 3) := by decide +kernel
theorem dX8_nextChance_40 : decode cX8_nextChance 40 = .ok (.iload_n 2, 1) := by decide +kernel
theorem dX8_nextChance_41 : decode cX8_nextChance 41 = .ok (.invokevirtual 243, 3) := by decide +kernel
theorem dX8_nextChance_44 : decode cX8_nextChance 44 = .ok (.aload_n 0, 1) := by decide +kernel
theorem dX8_nextChance_45 : decode cX8_nextChance 45 = .ok (.getfield 28, 3) := by decide +kernel
theorem dX8_nextChance_48 : decode cX8_nextChance 48 = .ok (.getfield 148, 3) := by decide +kernel
theorem dX8_nextChance_51 : decode cX8_nextChance 51 = .ok (.iconst 1, 1) := by decide +kernel
theorem dX8_nextChance_52 : decode cX8_nextChance 52 = .ok (.iadd, 1) := by decide +kernel
theorem dX8_nextChance_53 : decode cX8_nextChance 53 = .ok (.invokestatic 246, 3) := by decide +kernel
theorem dX8_nextChance_56 : decode cX8_nextChance 56 = .ok (.ireturn, 1) := by decide +kernel
theorem dX8_burst_0 : decode cX8_burst 0 = .ok (.iload_n 1, 1) := by decide +kernel
theorem dX8_burst_1 : decode cX8_burst 1 = .ok (.iconst 1, 1) := by decide +kernel
theorem dX8_burst_2 : decode cX8_burst 2 = .ok (.bipush 60, 2) := by decide +kernel
theorem dX8_burst_4 : decode cX8_burst 4 = .ok (.invokestatic 110, 3) := by decide +kernel
theorem dX8_burst_7 : decode cX8_burst 7 = .ok (.aload_n 0, 1) := by decide +kernel
theorem dX8_burst_8 : decode cX8_burst 8 = .ok (.iload_n 1, 1) := by decide +kernel
theorem dX8_burst_9 : decode cX8_burst 9 = .ok (.invokevirtual 256, 3) := by decide +kernel
theorem dX8_burst_12 : decode cX8_burst 12 = .ok (.dreturn, 1) := by decide +kernel
theorem dX8_undo_0 : decode cX8_undo 0 = .ok (.aload_n 0, 1) := by decide +kernel
theorem dX8_undo_1 : decode cX8_undo 1 = .ok (.getfield 47, 3) := by decide +kernel
theorem dX8_undo_4 : decode cX8_undo 4 = .ok (.aload_n 0, 1) := by decide +kernel
theorem dX8_undo_5 : decode cX8_undo 5 = .ok (.getfield 28, 3) := by decide +kernel
theorem dX8_undo_8 : decode cX8_undo 8 = .ok (.invokevirtual 324, 3) := by decide +kernel
theorem dX8_undo_11 : decode cX8_undo 11 = .ok (.ifCond .eq 13, 3) := by decide +kernel
theorem dX8_undo_14 : decode cX8_undo 14 = .ok (.aload_n 0, 1) := by decide +kernel
theorem dX8_undo_15 : decode cX8_undo 15 = .ok (.getfield 47, 3) := by decide +kernel
theorem dX8_undo_18 : decode cX8_undo 18 = .ok (.getfield 163, 3) := by decide +kernel
theorem dX8_undo_21 : decode cX8_undo 21 = .ok (.goto 4, 3) := by decide +kernel
theorem dX8_undo_24 : decode cX8_undo 24 = .ok (.iconst (-1), 1) := by decide +kernel
theorem dX8_undo_25 : decode cX8_undo 25 = .ok (.ireturn, 1) := by decide +kernel
theorem dX8_requireWithin_0 : decode cX8_requireWithin 0 = .ok (.iload_n 0, 1) := by decide +kernel
theorem dX8_requireWithin_1 : decode cX8_requireWithin 1 = .ok (.iload_n 1, 1) := by decide +kernel
theorem dX8_requireWithin_2 : decode cX8_requireWithin 2 = .ok (.if_icmp .lt 8, 3) := by decide +kernel
theorem dX8_requireWithin_5 : decode cX8_requireWithin 5 = .ok (.iload_n 0, 1) := by decide +kernel
theorem dX8_requireWithin_6 : decode cX8_requireWithin 6 = .ok (.iload_n 2, 1) := by decide +kernel
theorem dX8_requireWithin_7 : decode cX8_requireWithin 7 = .ok (.if_icmp .le 14, 3) := by decide +kernel
theorem dX8_requireWithin_10 : decode cX8_requireWithin 10 = .ok (.new 328, 3) := by decide +kernel
theorem dX8_requireWithin_13 : decode cX8_requireWithin 13 = .ok (.dup, 1) := by decide +kernel
theorem dX8_requireWithin_14 : decode cX8_requireWithin 14 = .ok (.ldc_w 330, 3) := by decide +kernel
theorem dX8_requireWithin_17 : decode cX8_requireWithin 17 = .ok (.invokespecial 332, 3) := by decide +kernel
theorem dX8_requireWithin_20 : decode cX8_requireWithin 20 = .ok (.athrow, 1) := by decide +kernel
theorem dX8_requireWithin_21 : decode cX8_requireWithin 21 = .ok (.return_, 1) := by decide +kernel
theorem dX8_requireIndex_0 : decode cX8_requireIndex 0 = .ok (.iload_n 0, 1) := by decide +kernel
theorem dX8_requireIndex_1 : decode cX8_requireIndex 1 = .ok (.ifCond .lt 8, 3) := by decide +kernel
theorem dX8_requireIndex_4 : decode cX8_requireIndex 4 = .ok (.iload_n 0, 1) := by decide +kernel
theorem dX8_requireIndex_5 : decode cX8_requireIndex 5 = .ok (.iload_n 1, 1) := by decide +kernel
theorem dX8_requireIndex_6 : decode cX8_requireIndex 6 = .ok (.if_icmp .lt 14, 3) := by decide +kernel
theorem dX8_requireIndex_9 : decode cX8_requireIndex 9 = .ok (.new 335, 3) := by decide +kernel
theorem dX8_requireIndex_12 : decode cX8_requireIndex 12 = .ok (.dup, 1) := by decide +kernel
theorem dX8_requireIndex_13 : decode cX8_requireIndex 13 = .ok (.ldc_w 337, 3) := by decide +kernel
theorem dX8_requireIndex_16 : decode cX8_requireIndex 16 = .ok (.invokespecial 339, 3) := by decide +kernel
theorem dX8_requireIndex_19 : decode cX8_requireIndex 19 = .ok (.athrow, 1) := by decide +kernel
theorem dX8_requireIndex_20 : decode cX8_requireIndex 20 = .ok (.return_, 1) := by decide +kernel
theorem dX8_flowAt_0 : decode cX8_flowAt 0 = .ok (.iload_n 1, 1) := by decide +kernel
theorem dX8_flowAt_1 : decode cX8_flowAt 1 = .ok (.aload_n 0, 1) := by decide +kernel
theorem dX8_flowAt_2 : decode cX8_flowAt 2 = .ok (.getfield 28, 3) := by decide +kernel
theorem dX8_flowAt_5 : decode cX8_flowAt 5 = .ok (.getfield 96, 3) := by decide +kernel
theorem dX8_flowAt_8 : decode cX8_flowAt 8 = .ok (.invokestatic 216, 3) := by decide +kernel
theorem dX8_flowAt_11 : decode cX8_flowAt 11 = .ok (.aload_n 0, 1) := by decide +kernel
theorem dX8_flowAt_12 : decode cX8_flowAt 12 = .ok (.getfield 28, 3) := by decide +kernel
theorem dX8_flowAt_15 : decode cX8_flowAt 15 = .ok (.getfield 265, 3) := by decide +kernel
theorem dX8_flowAt_18 : decode cX8_flowAt 18 = .ok (.iload_n 1, 1) := by decide +kernel
theorem dX8_flowAt_19 : decode cX8_flowAt 19 = .ok (.aaload, 1) := by decide +kernel
theorem dX8_flowAt_20 : decode cX8_flowAt 20 = .ok (.areturn, 1) := by decide +kernel
theorem dX8_shareLetIn_0 : decode cX8_shareLetIn 0 = .ok (.dconst 1, 1) := by decide +kernel
theorem dX8_shareLetIn_1 : decode cX8_shareLetIn 1 = .ok (.dstore_n 2, 1) := by decide +kernel
theorem dX8_shareLetIn_2 : decode cX8_shareLetIn 2 = .ok (.aload_n 0, 1) := by decide +kernel
theorem dX8_shareLetIn_3 : decode cX8_shareLetIn 3 = .ok (.getfield 28, 3) := by decide +kernel
theorem dX8_shareLetIn_6 : decode cX8_shareLetIn 6 = .ok (.getfield 145, 3) := by decide +kernel
theorem dX8_shareLetIn_9 : decode cX8_shareLetIn 9 = .ok (.istore 4, 2) := by decide +kernel
theorem dX8_shareLetIn_11 : decode cX8_shareLetIn 11 = .ok (.aload_n 0, 1) := by decide +kernel
theorem dX8_shareLetIn_12 : decode cX8_shareLetIn 12 = .ok (.getfield 28, 3) := by decide +kernel
theorem dX8_shareLetIn_15 : decode cX8_shareLetIn 15 = .ok (.getfield 148, 3) := by decide +kernel
theorem dX8_shareLetIn_18 : decode cX8_shareLetIn 18 = .ok (.istore 5, 2) := by decide +kernel
theorem dX8_shareLetIn_20 : decode cX8_shareLetIn 20 = .ok (.aload_n 0, 1) := by decide +kernel
theorem dX8_shareLetIn_21 : decode cX8_shareLetIn 21 = .ok (.getfield 28, 3) := by decide +kernel
theorem dX8_shareLetIn_24 : decode cX8_shareLetIn 24 = .ok (.getfield 138, 3) := by decide +kernel
theorem dX8_shareLetIn_27 : decode cX8_shareLetIn 27 = .ok (.getfield 142, 3) := by decide +kernel
theorem dX8_shareLetIn_30 : decode cX8_shareLetIn 30 = .ok (.istore 6, 2) := by decide +kernel
theorem dX8_shareLetIn_32 : decode cX8_shareLetIn 32 = .ok (.iconst 0, 1) := by decide +kernel
theorem dX8_shareLetIn_33 : decode cX8_shareLetIn 33 = .ok (.istore 7, 2) := by decide +kernel
theorem dX8_shareLetIn_35 : decode cX8_shareLetIn 35 = .ok (.iload 7, 2) := by decide +kernel
theorem dX8_shareLetIn_37 : decode cX8_shareLetIn 37 = .ok (.iload_n 1, 1) := by decide +kernel
theorem dX8_shareLetIn_38 : decode cX8_shareLetIn 38 = .ok (.if_icmp .ge 88, 3) := by decide +kernel
theorem dX8_shareLetIn_41 : decode cX8_shareLetIn 41 = .ok (.aload_n 0, 1) := by decide +kernel
theorem dX8_shareLetIn_42 : decode cX8_shareLetIn 42 = .ok (.getfield 28, 3) := by decide +kernel
theorem dX8_shareLetIn_45 : decode cX8_shareLetIn 45 = .ok (.iload 6, 2) := by decide +kernel
theorem dX8_shareLetIn_47 : decode cX8_shareLetIn 47 = .ok (.iload 4, 2) := by decide +kernel
theorem dX8_shareLetIn_49 : decode cX8_shareLetIn 49 = .ok (.invokevirtual 250, 3) := by decide +kernel
theorem dX8_shareLetIn_52 : decode cX8_shareLetIn 52 = .ok (.istore 4, 2) := by decide +kernel
theorem dX8_shareLetIn_54 : decode cX8_shareLetIn 54 = .ok (.aload_n 0, 1) := by decide +kernel
theorem dX8_shareLetIn_55 : decode cX8_shareLetIn 55 = .ok (.getfield 28, 3) := by decide +kernel
theorem dX8_shareLetIn_58 : decode cX8_shareLetIn 58 = .ok (.iload 6, 2) := by decide +kernel
theorem dX8_shareLetIn_60 : decode cX8_shareLetIn 60 = .ok (.iload 4, 2) := by decide +kernel
theorem dX8_shareLetIn_62 : decode cX8_shareLetIn 62 = .ok (.invokevirtual 253, 3) := by decide +kernel
theorem dX8_shareLetIn_65 : decode cX8_shareLetIn 65 = .ok (.istore 8, 2) := by decide +kernel
theorem dX8_shareLetIn_67 : decode cX8_shareLetIn 67 = .ok (.iload 8, 2) := by decide +kernel
theorem dX8_shareLetIn_69 : decode cX8_shareLetIn 69 = .ok (.aload_n 0, 1) := by decide +kernel
theorem dX8_shareLetIn_70 : decode cX8_shareLetIn 70 = .ok (.getfield 28, 3) := by decide +kernel
theorem dX8_shareLetIn_73 : decode cX8_shareLetIn 73 = .ok (.iload 4, 2) := by decide +kernel
theorem dX8_shareLetIn_75 : decode cX8_shareLetIn 75 = .ok (.invokevirtual 243, 3) := by decide +kernel
theorem dX8_shareLetIn_78 : decode cX8_shareLetIn 78 = .ok (.iload 5, 2) := by decide +kernel
theorem dX8_shareLetIn_80 : decode cX8_shareLetIn 80 = .ok (.iconst 1, 1) := by decide +kernel
theorem dX8_shareLetIn_81 : decode cX8_shareLetIn 81 = .ok (.iadd, 1) := by decide +kernel
theorem dX8_shareLetIn_82 : decode cX8_shareLetIn 82 = .ok (.invokestatic 246, 3) := by decide +kernel
theorem dX8_shareLetIn_85 : decode cX8_shareLetIn 85 = .ok (.istore 9, 2) := by decide +kernel
theorem dX8_shareLetIn_87 : decode cX8_shareLetIn 87 = .ok (.dload_n 2, 1) := by decide +kernel
theorem dX8_shareLetIn_88 : decode cX8_shareLetIn 88 = .ok (.ldc_w 282, 3) := by decide +kernel
theorem dX8_shareLetIn_91 : decode cX8_shareLetIn 91 = .ok (.iload 9, 2) := by decide +kernel
theorem dX8_shareLetIn_93 : decode cX8_shareLetIn 93 = .ok (.isub, 1) := by decide +kernel
theorem dX8_shareLetIn_94 : decode cX8_shareLetIn 94 = .ok (.i2d, 1) := by decide +kernel
theorem dX8_shareLetIn_95 : decode cX8_shareLetIn 95 = .ok (.ldc2_w 340, 3) := by decide +kernel
theorem dX8_shareLetIn_98 : decode cX8_shareLetIn 98 = .ok (.ddiv, 1) := by decide +kernel
theorem dX8_shareLetIn_99 : decode cX8_shareLetIn 99 = .ok (.dmul, 1) := by decide +kernel
theorem dX8_shareLetIn_100 : decode cX8_shareLetIn 100 = .ok (.dstore_n 2, 1) := by decide +kernel
theorem dX8_shareLetIn_101 : decode cX8_shareLetIn 101 = .ok (.iload 8, 2) := by decide +kernel
theorem dX8_shareLetIn_103 : decode cX8_shareLetIn 103 = .ok (.iconst 3, 1) := by decide +kernel
theorem dX8_shareLetIn_104 : decode cX8_shareLetIn 104 = .ok (.if_icmp .ne 10, 3) := by decide +kernel
theorem dX8_shareLetIn_107 : decode cX8_shareLetIn 107 = .ok (.iload 5, 2) := by decide +kernel
theorem dX8_shareLetIn_109 : decode cX8_shareLetIn 109 = .ok (.iconst 1, 1) := by decide +kernel
theorem dX8_shareLetIn_110 : decode cX8_shareLetIn 110 = .ok (.iadd, 1) := by decide +kernel
theorem dX8_shareLetIn_111 : decode cX8_shareLetIn 111 = .ok (.goto 4, 3) := by decide +kernel
theorem dX8_shareLetIn_114 : decode cX8_shareLetIn 114 = .ok (.iconst (-1), 1) := by decide +kernel
theorem dX8_shareLetIn_115 : decode cX8_shareLetIn 115 = .ok (.istore 5, 2) := by decide +kernel
theorem dX8_shareLetIn_117 : decode cX8_shareLetIn 117 = .ok (.iinc 6 1, 3) := by decide +kernel
theorem dX8_shareLetIn_120 : decode cX8_shareLetIn 120 = .ok (.iinc 7 1, 3) := by decide +kernel
theorem dX8_shareLetIn_123 : decode cX8_shareLetIn 123 = .ok (.goto (-88), 3) := by decide +kernel
theorem dX8_shareLetIn_126 : decode cX8_shareLetIn 126 = .ok (.dload_n 2, 1) := by decide +kernel
theorem dX8_shareLetIn_127 : decode cX8_shareLetIn 127 = .ok (.dreturn, 1) := by decide +kernel
-- X8_average
set_option maxRecDepth 100000 in
set_option maxHeartbeats 4000000 in
theorem zm_X8_average {l : Launch} {G : zG} {M : zM} {Kf : UInt64 → zM → Prop} (h : (vf_n64 (FP.ddiv (FP.i2d (zmI M 15 1 8)) 4652218415073722368) ∧ (Kf (FP.ddiv (FP.i2d (zmI M 15 1 8)) 4652218415073722368) M))) : zCalD l G Y_X8_average 0 0 [vr 0 0] M Kf := by
  refine zCal_of (lv := [(0, vr 0 0)]) (by decide) rfl (zle rfl) rfl (fun hv => zlv_args (lv := [(0, vr 0 0)]) rfl hv) ?_
  refine Z_aload_n dX8_average_0 rfl 0 rfl ?_
  refine Z_getR (s1 := 15) (i1 := 1) zfl_X8_28 rfl (fun q => by first | exact q | decide) dX8_average_1 ?_
  refine Z_getI zfl_X8_145 dX8_average_4 ?_
  refine Z_i2d dX8_average_7 ?_
  refine Z_ldc2d (v := 4652218415073722368) zw_949 dX8_average_8 ?_
  obtain ⟨g1, h⟩ := h
  refine Z_ddiv dX8_average_11 g1 ?_
  exact Z_dret rfl dX8_average_12 (Nat.le_refl _) (Nat.le_refl _) ⟨_, rfl, h⟩
-- X8_errorPosition
set_option maxRecDepth 100000 in
set_option maxHeartbeats 4000000 in
theorem zm_X8_errorPosition {l : Launch} {G : zG} {M : zM} {Kf : Int32 → zM → Prop} (h : (Kf (zmI M 1 0 6) M)) : zCalI l G Y_X8_errorPosition 0 0 [vr 0 0] M Kf := by
  refine zCal_of (lv := [(0, vr 0 0)]) (by decide) rfl (zle rfl) rfl (fun hv => zlv_args (lv := [(0, vr 0 0)]) rfl hv) ?_
  refine Z_aload_n dX8_errorPosition_0 rfl 0 rfl ?_
  refine Z_getR (s1 := 1) (i1 := 0) zfl_X8_10 rfl (fun q => by first | exact q | decide) dX8_errorPosition_1 ?_
  refine Z_getI zfl_X8_107 dX8_errorPosition_4 ?_
  exact Z_iret rfl rfl dX8_errorPosition_7 (Nat.le_refl _) (Nat.le_refl _) ⟨_, rfl, h⟩
-- X8_feed
set_option maxRecDepth 100000 in
set_option maxHeartbeats 4000000 in
theorem zm_X8_feed {l : Launch} {G : zG} {p1 : Int32} {p2 : Int32} {p3 : Int32} {p4 : Int32} {p5 : Int32} {M : zM} {Kf : Int32 → zM → Prop} (h : (zCalI l G Y_X4_bytesOf 0 0 [vi p1] M (fun x2 M1 => (zCalI l G Y_X4_bytesOf 0 0 [vi p2] M1 (fun x4 M3 => (zCalI l G Y_X4_bytesOf 0 0 [vi p3] M3 (fun x6 M5 => (zCalI l G Y_X4_bytesOf 0 0 [vi p4] M5 (fun x8 M7 => (zCalI l G Y_X4_bytesOf 0 0 [vi p5] M7 (fun x10 M9 => ((((zmI M9 1 0 1) + ((((x2 + x4) + x6) + x8) + x10)) ≤ 500 → (zCalV l G Y_X4_take 0 0 [vr 1 0, vi p1] M9 (fun M11 => (zCalV l G Y_X4_take 0 0 [vr 1 0, vi p2] M11 (fun M12 => (zCalV l G Y_X4_take 0 0 [vr 1 0, vi p3] M12 (fun M13 => (zCalV l G Y_X4_take 0 0 [vr 1 0, vi p4] M13 (fun M14 => (zCalV l G Y_X4_take 0 0 [vr 1 0, vi p5] M14 (fun M15 => (Kf (zmI M15 1 0 1) M15)))))))))))) ∧ (¬ ((zmI M9 1 0 1) + ((((x2 + x4) + x6) + x8) + x10)) ≤ 500 → (Kf (-1) M9)))))))))))))) : zCalI l G Y_X8_feed 0 0 [vr 0 0, vi p1, vi p2, vi p3, vi p4, vi p5] M Kf := by
  refine zCal_of (lv := [(0, vr 0 0), (1, vi p1), (2, vi p2), (3, vi p3), (4, vi p4), (5, vi p5)]) (by decide) rfl (zle rfl) rfl (fun hv => zlv_args (lv := [(0, vr 0 0), (1, vi p1), (2, vi p2), (3, vi p3), (4, vi p4), (5, vi p5)]) rfl hv) ?_
  refine Z_iload_n dX8_feed_0 rfl 1 rfl ?_
  refine Z_callSI (as := [vi p1]) zRm_M zcs_X8_feed_X4_bytesOf_66 rfl rfl (zle rfl) dX8_feed_1 ⟨Nat.le_refl _, Nat.le_refl _⟩ h (fun x2 M1 h => ?_)
  refine Z_iload_n dX8_feed_4 rfl 2 rfl ?_
  refine Z_callSI (as := [vi p2]) zRm_M zcs_X8_feed_X4_bytesOf_66 rfl rfl (zle rfl) dX8_feed_5 ⟨Nat.le_refl _, Nat.le_refl _⟩ h (fun x4 M3 h => ?_)
  refine Z_iadd dX8_feed_8 ?_
  refine Z_iload_n dX8_feed_9 rfl 3 rfl ?_
  refine Z_callSI (as := [vi p3]) zRm_M zcs_X8_feed_X4_bytesOf_66 rfl rfl (zle rfl) dX8_feed_10 ⟨Nat.le_refl _, Nat.le_refl _⟩ h (fun x6 M5 h => ?_)
  refine Z_iadd dX8_feed_13 ?_
  refine Z_iload dX8_feed_14 4 rfl ?_
  refine Z_callSI (as := [vi p4]) zRm_M zcs_X8_feed_X4_bytesOf_66 rfl rfl (zle rfl) dX8_feed_16 ⟨Nat.le_refl _, Nat.le_refl _⟩ h (fun x8 M7 h => ?_)
  refine Z_iadd dX8_feed_19 ?_
  refine Z_iload dX8_feed_20 5 rfl ?_
  refine Z_callSI (as := [vi p5]) zRm_M zcs_X8_feed_X4_bytesOf_66 rfl rfl (zle rfl) dX8_feed_22 ⟨Nat.le_refl _, Nat.le_refl _⟩ h (fun x10 M9 h => ?_)
  refine Z_iadd dX8_feed_25 ?_
  refine Z_istore (lv2 := [(6, vi ((((x2 + x4) + x6) + x8) + x10)), (0, vr 0 0), (1, vi p1), (2, vi p2), (3, vi p3), (4, vi p4), (5, vi p5)]) dX8_feed_26 (by decide) rfl ?_
  refine Z_aload_n dX8_feed_28 rfl 1 rfl ?_
  refine Z_getR (s1 := 1) (i1 := 0) zfl_X8_10 rfl (fun q => by first | exact q | decide) dX8_feed_29 ?_
  refine Z_getI zfl_X8_70 dX8_feed_32 ?_
  refine Z_iload dX8_feed_35 0 rfl ?_
  refine Z_iadd dX8_feed_37 ?_
  refine Z_sipush (v := 500) (by decide) dX8_feed_38 ?_
  refine Z_icmp_le (tgt := 46) dX8_feed_41 (by decide) (fun q => ?_) (fun q => ?_)
  · have h := h.1 q
    refine Z_aload_n dX8_feed_46 rfl 1 rfl ?_
    refine Z_getR (s1 := 1) (i1 := 0) zfl_X8_10 rfl (fun q => by first | exact q | decide) dX8_feed_47 ?_
    refine Z_iload_n dX8_feed_50 rfl 2 rfl ?_
    refine Z_callVV (as := [vi p1]) zRm_M zcv_X8_feed_X4_take_74 (ci := 8) rfl rfl rfl rfl (zle rfl) dX8_feed_51 ⟨Nat.le_refl _, Nat.le_refl _⟩ h (fun M11 h => ?_)
    refine Z_aload_n dX8_feed_54 rfl 1 rfl ?_
    refine Z_getR (s1 := 1) (i1 := 0) zfl_X8_10 rfl (fun q => by first | exact q | decide) dX8_feed_55 ?_
    refine Z_iload_n dX8_feed_58 rfl 3 rfl ?_
    refine Z_callVV (as := [vi p2]) zRm_M zcv_X8_feed_X4_take_74 (ci := 8) rfl rfl rfl rfl (zle rfl) dX8_feed_59 ⟨Nat.le_refl _, Nat.le_refl _⟩ h (fun M12 h => ?_)
    refine Z_aload_n dX8_feed_62 rfl 1 rfl ?_
    refine Z_getR (s1 := 1) (i1 := 0) zfl_X8_10 rfl (fun q => by first | exact q | decide) dX8_feed_63 ?_
    refine Z_iload_n dX8_feed_66 rfl 4 rfl ?_
    refine Z_callVV (as := [vi p3]) zRm_M zcv_X8_feed_X4_take_74 (ci := 8) rfl rfl rfl rfl (zle rfl) dX8_feed_67 ⟨Nat.le_refl _, Nat.le_refl _⟩ h (fun M13 h => ?_)
    refine Z_aload_n dX8_feed_70 rfl 1 rfl ?_
    refine Z_getR (s1 := 1) (i1 := 0) zfl_X8_10 rfl (fun q => by first | exact q | decide) dX8_feed_71 ?_
    refine Z_iload dX8_feed_74 5 rfl ?_
    refine Z_callVV (as := [vi p4]) zRm_M zcv_X8_feed_X4_take_74 (ci := 8) rfl rfl rfl rfl (zle rfl) dX8_feed_76 ⟨Nat.le_refl _, Nat.le_refl _⟩ h (fun M14 h => ?_)
    refine Z_aload_n dX8_feed_79 rfl 1 rfl ?_
    refine Z_getR (s1 := 1) (i1 := 0) zfl_X8_10 rfl (fun q => by first | exact q | decide) dX8_feed_80 ?_
    refine Z_iload dX8_feed_83 6 rfl ?_
    refine Z_callVV (as := [vi p5]) zRm_M zcv_X8_feed_X4_take_74 (ci := 8) rfl rfl rfl rfl (zle rfl) dX8_feed_85 ⟨Nat.le_refl _, Nat.le_refl _⟩ h (fun M15 h => ?_)
    refine Z_aload_n dX8_feed_88 rfl 1 rfl ?_
    refine Z_getR (s1 := 1) (i1 := 0) zfl_X8_10 rfl (fun q => by first | exact q | decide) dX8_feed_89 ?_
    refine Z_getI zfl_X8_70 dX8_feed_92 ?_
    exact Z_iret rfl rfl dX8_feed_95 (Nat.le_refl _) (Nat.le_refl _) ⟨_, rfl, h⟩
  · have h := h.2 q
    refine Z_iconst (v := (-1)) (by decide) dX8_feed_44 ?_
    exact Z_iret rfl rfl dX8_feed_45 (Nat.le_refl _) (Nat.le_refl _) ⟨_, rfl, h⟩
-- X8_next
set_option maxRecDepth 100000 in
set_option maxHeartbeats 4000000 in
theorem zm_X8_next {l : Launch} {G : zG} {M : zM} {Kf : Int32 → zM → Prop} (h : (zCalI l G Y_X5_averageAfter 0 0 [vr 15 1, vi (zmI M 19 1 1), vi (zmI M 15 1 8)] M (fun x2 M1 => (zCalI l G Y_X5_wayAt 0 0 [vr 15 1, vi (zmI M 19 1 1), vi x2] M1 (fun x4 M3 => (Kf x4 M3)))))) : zCalI l G Y_X8_next 0 0 [vr 0 0] M Kf := by
  refine zCal_of (lv := [(0, vr 0 0)]) (by decide) rfl (zle rfl) rfl (fun hv => zlv_args (lv := [(0, vr 0 0)]) rfl hv) ?_
  refine Z_aload_n dX8_next_0 rfl 0 rfl ?_
  refine Z_getR (s1 := 15) (i1 := 1) zfl_X8_28 rfl (fun q => by first | exact q | decide) dX8_next_1 ?_
  refine Z_getR (s1 := 19) (i1 := 1) zfl_X8_138 rfl (fun q => by first | exact q | decide) dX8_next_4 ?_
  refine Z_getI zfl_X8_142 dX8_next_7 ?_
  refine Z_istore_n (lv2 := [(1, vi (zmI M 19 1 1)), (0, vr 0 0)]) dX8_next_10 rfl (by decide) rfl ?_
  refine Z_aload_n dX8_next_11 rfl 1 rfl ?_
  refine Z_getR (s1 := 15) (i1 := 1) zfl_X8_28 rfl (fun q => by first | exact q | decide) dX8_next_12 ?_
  refine Z_iload_n dX8_next_15 rfl 0 rfl ?_
  refine Z_aload_n dX8_next_16 rfl 1 rfl ?_
  refine Z_getR (s1 := 15) (i1 := 1) zfl_X8_28 rfl (fun q => by first | exact q | decide) dX8_next_17 ?_
  refine Z_iload_n dX8_next_20 rfl 0 rfl ?_
  refine Z_aload_n dX8_next_21 rfl 1 rfl ?_
  refine Z_getR (s1 := 15) (i1 := 1) zfl_X8_28 rfl (fun q => by first | exact q | decide) dX8_next_22 ?_
  refine Z_getI zfl_X8_145 dX8_next_25 ?_
  refine Z_callVI (as := [vi (zmI M 19 1 1), vi (zmI M 15 1 8)]) zRm_M zcv_X8_next_X5_averageAfter_250 (ci := 9) rfl rfl rfl rfl (zle rfl) dX8_next_28 ⟨Nat.le_refl _, Nat.le_refl _⟩ h (fun x2 M1 h => ?_)
  refine Z_callVI (as := [vi (zmI M 19 1 1), vi x2]) zRm_M zcv_X8_next_X5_wayAt_253 (ci := 9) rfl rfl rfl rfl (zle rfl) dX8_next_31 ⟨Nat.le_refl _, Nat.le_refl _⟩ h (fun x4 M3 h => ?_)
  exact Z_iret rfl rfl dX8_next_34 (Nat.le_refl _) (Nat.le_refl _) ⟨_, rfl, h⟩
-- X8_nextChance
set_option maxRecDepth 100000 in
set_option maxHeartbeats 4000000 in
theorem zm_X8_nextChance {l : Launch} {G : zG} {M : zM} {Kf : Int32 → zM → Prop} (h : (zCalI l G Y_X5_averageAfter 0 0 [vr 15 1, vi (zmI M 19 1 1), vi (zmI M 15 1 8)] M (fun x2 M1 => (zCalI l G Y_X5_wayAt 0 0 [vr 15 1, vi (zmI M 19 1 1), vi x2] M1 (fun x4 M3 => (zCalI l G Y_X5_baseAt 0 0 [vr 15 1, vi x2] M3 (fun x6 M5 => (zCalI l G Y_X5_chanceAt 0 0 [vi x4, vi x6, vi ((zmI M5 15 1 9) + 1)] M5 (fun x8 M7 => (Kf x8 M7)))))))))) : zCalI l G Y_X8_nextChance 0 0 [vr 0 0] M Kf := by
  refine zCal_of (lv := [(0, vr 0 0)]) (by decide) rfl (zle rfl) rfl (fun hv => zlv_args (lv := [(0, vr 0 0)]) rfl hv) ?_
  refine Z_aload_n dX8_nextChance_0 rfl 0 rfl ?_
  refine Z_getR (s1 := 15) (i1 := 1) zfl_X8_28 rfl (fun q => by first | exact q | decide) dX8_nextChance_1 ?_
  refine Z_getR (s1 := 19) (i1 := 1) zfl_X8_138 rfl (fun q => by first | exact q | decide) dX8_nextChance_4 ?_
  refine Z_getI zfl_X8_142 dX8_nextChance_7 ?_
  refine Z_istore_n (lv2 := [(1, vi (zmI M 19 1 1)), (0, vr 0 0)]) dX8_nextChance_10 rfl (by decide) rfl ?_
  refine Z_aload_n dX8_nextChance_11 rfl 1 rfl ?_
  refine Z_getR (s1 := 15) (i1 := 1) zfl_X8_28 rfl (fun q => by first | exact q | decide) dX8_nextChance_12 ?_
  refine Z_iload_n dX8_nextChance_15 rfl 0 rfl ?_
  refine Z_aload_n dX8_nextChance_16 rfl 1 rfl ?_
  refine Z_getR (s1 := 15) (i1 := 1) zfl_X8_28 rfl (fun q => by first | exact q | decide) dX8_nextChance_17 ?_
  refine Z_getI zfl_X8_145 dX8_nextChance_20 ?_
  refine Z_callVI (as := [vi (zmI M 19 1 1), vi (zmI M 15 1 8)]) zRm_M zcv_X8_nextChance_X5_averageAfter_250 (ci := 9) rfl rfl rfl rfl (zle rfl) dX8_nextChance_23 ⟨Nat.le_refl _, Nat.le_refl _⟩ h (fun x2 M1 h => ?_)
  refine Z_istore_n (lv2 := [(2, vi x2), (1, vi (zmI M 19 1 1)), (0, vr 0 0)]) dX8_nextChance_26 rfl (by decide) rfl ?_
  refine Z_aload_n dX8_nextChance_27 rfl 2 rfl ?_
  refine Z_getR (s1 := 15) (i1 := 1) zfl_X8_28 rfl (fun q => by first | exact q | decide) dX8_nextChance_28 ?_
  refine Z_iload_n dX8_nextChance_31 rfl 1 rfl ?_
  refine Z_iload_n dX8_nextChance_32 rfl 0 rfl ?_
  refine Z_callVI (as := [vi (zmI M 19 1 1), vi x2]) zRm_M zcv_X8_nextChance_X5_wayAt_253 (ci := 9) rfl rfl rfl rfl (zle rfl) dX8_nextChance_33 ⟨Nat.le_refl _, Nat.le_refl _⟩ h (fun x4 M3 h => ?_)
  refine Z_aload_n dX8_nextChance_36 rfl 2 rfl ?_
  refine Z_getR (s1 := 15) (i1 := 1) zfl_X8_28 rfl (fun q => by first | exact q | decide) dX8_nextChance_37 ?_
  refine Z_iload_n dX8_nextChance_40 rfl 0 rfl ?_
  refine Z_callVI (as := [vi x2]) zRm_M zcv_X8_nextChance_X5_baseAt_243 (ci := 9) rfl rfl rfl rfl (zle rfl) dX8_nextChance_41 ⟨Nat.le_refl _, Nat.le_refl _⟩ h (fun x6 M5 h => ?_)
  refine Z_aload_n dX8_nextChance_44 rfl 2 rfl ?_
  refine Z_getR (s1 := 15) (i1 := 1) zfl_X8_28 rfl (fun q => by first | exact q | decide) dX8_nextChance_45 ?_
  refine Z_getI zfl_X8_148 dX8_nextChance_48 ?_
  refine Z_iconst (v := 1) (by decide) dX8_nextChance_51 ?_
  refine Z_iadd dX8_nextChance_52 ?_
  refine Z_callSI (as := [vi x4, vi x6, vi ((zmI M5 15 1 9) + 1)]) zRm_M zcs_X8_nextChance_X5_chanceAt_246 rfl rfl (zle rfl) dX8_nextChance_53 ⟨Nat.le_refl _, Nat.le_refl _⟩ h (fun x8 M7 h => ?_)
  exact Z_iret rfl rfl dX8_nextChance_56 (Nat.le_refl _) (Nat.le_refl _) ⟨_, rfl, h⟩
-- X8_shareLetIn
set_option maxRecDepth 100000 in
set_option maxHeartbeats 4000000 in
theorem zm_X8_shareLetIn {l : Launch} {G : zG} {p1 : Int32} {M : zM} {Kf : UInt64 → zM → Prop} (h : zAt l G Y_X8_shareLetIn (zED G Y_X8_shareLetIn Kf) 35 [(0, vr 0 0), (1, vi p1), (2, vd FP.dconst1), (4, vi (zmI M 15 1 8)), (5, vi (zmI M 15 1 9)), (6, vi (zmI M 19 1 1)), (7, vi 0)] [] M 0 0) : zCalD l G Y_X8_shareLetIn 0 0 [vr 0 0, vi p1] M Kf := by
  refine zCal_of (lv := [(0, vr 0 0), (1, vi p1)]) (by decide) rfl (zle rfl) rfl (fun hv => zlv_args (lv := [(0, vr 0 0), (1, vi p1)]) rfl hv) ?_
  refine Z_dconst1 dX8_shareLetIn_0 ?_
  refine Z_dstore_n (lv2 := [(2, vd FP.dconst1), (0, vr 0 0), (1, vi p1)]) dX8_shareLetIn_1 rfl (by decide) rfl ?_
  refine Z_aload_n dX8_shareLetIn_2 rfl 1 rfl ?_
  refine Z_getR (s1 := 15) (i1 := 1) zfl_X8_28 rfl (fun q => by first | exact q | decide) dX8_shareLetIn_3 ?_
  refine Z_getI zfl_X8_145 dX8_shareLetIn_6 ?_
  refine Z_istore (lv2 := [(4, vi (zmI M 15 1 8)), (2, vd FP.dconst1), (0, vr 0 0), (1, vi p1)]) dX8_shareLetIn_9 (by decide) rfl ?_
  refine Z_aload_n dX8_shareLetIn_11 rfl 2 rfl ?_
  refine Z_getR (s1 := 15) (i1 := 1) zfl_X8_28 rfl (fun q => by first | exact q | decide) dX8_shareLetIn_12 ?_
  refine Z_getI zfl_X8_148 dX8_shareLetIn_15 ?_
  refine Z_istore (lv2 := [(5, vi (zmI M 15 1 9)), (4, vi (zmI M 15 1 8)), (2, vd FP.dconst1), (0, vr 0 0), (1, vi p1)]) dX8_shareLetIn_18 (by decide) rfl ?_
  refine Z_aload_n dX8_shareLetIn_20 rfl 3 rfl ?_
  refine Z_getR (s1 := 15) (i1 := 1) zfl_X8_28 rfl (fun q => by first | exact q | decide) dX8_shareLetIn_21 ?_
  refine Z_getR (s1 := 19) (i1 := 1) zfl_X8_138 rfl (fun q => by first | exact q | decide) dX8_shareLetIn_24 ?_
  refine Z_getI zfl_X8_142 dX8_shareLetIn_27 ?_
  refine Z_istore (lv2 := [(6, vi (zmI M 19 1 1)), (5, vi (zmI M 15 1 9)), (4, vi (zmI M 15 1 8)), (2, vd FP.dconst1), (0, vr 0 0), (1, vi p1)]) dX8_shareLetIn_30 (by decide) rfl ?_
  refine Z_iconst (v := 0) (by decide) dX8_shareLetIn_32 ?_
  refine Z_istore (lv2 := [(7, vi 0), (6, vi (zmI M 19 1 1)), (5, vi (zmI M 15 1 9)), (4, vi (zmI M 15 1 8)), (2, vd FP.dconst1), (0, vr 0 0), (1, vi p1)]) dX8_shareLetIn_33 (by decide) rfl ?_
  exact Z_pick [5, 6, 4, 3, 2, 1, 0] rfl h
set_option maxRecDepth 100000 in
set_option maxHeartbeats 4000000 in
theorem zb_X8_shareLetIn_35 {l : Launch} {G : zG} {y1 : Int32} {y2 : UInt64} {y4 : Int32} {y5 : Int32} {y6 : Int32} {y7 : Int32} {M : zM} {Kf : UInt64 → zM → Prop} (h : ((y1 ≤ y7 → (Kf y2 M)) ∧ (¬ y1 ≤ y7 → (zCalI l G Y_X5_averageAfter 0 0 [vr 15 1, vi y6, vi y4] M (fun x2 M1 => (zCalI l G Y_X5_wayAt 0 0 [vr 15 1, vi y6, vi x2] M1 (fun x4 M3 => (zCalI l G Y_X5_baseAt 0 0 [vr 15 1, vi x2] M3 (fun x6 M5 => (zCalI l G Y_X5_chanceAt 0 0 [vi x4, vi x6, vi (y5 + 1)] M5 (fun x8 M7 => (vf_n64 (FP.ddiv (FP.i2d (65536 - x8)) 4679240012837945344) ∧ (vf_n64 (FP.dmul y2 (FP.ddiv (FP.i2d (65536 - x8)) 4679240012837945344)) ∧ ((¬ x4 = 3 → zAt l G Y_X8_shareLetIn (zED G Y_X8_shareLetIn Kf) 115 [(0, vr 0 0), (1, vi y1), (2, vd (FP.dmul y2 (FP.ddiv (FP.i2d (65536 - x8)) 4679240012837945344))), (4, vi x2), (6, vi y6), (7, vi y7)] [vi (-1)] M7 0 0) ∧ (x4 = 3 → zAt l G Y_X8_shareLetIn (zED G Y_X8_shareLetIn Kf) 115 [(0, vr 0 0), (1, vi y1), (2, vd (FP.dmul y2 (FP.ddiv (FP.i2d (65536 - x8)) 4679240012837945344))), (4, vi x2), (6, vi y6), (7, vi y7)] [vi (y5 + 1)] M7 0 0))))))))))))))) : zAt l G Y_X8_shareLetIn (zED G Y_X8_shareLetIn Kf) 35 [(0, vr 0 0), (1, vi y1), (2, vd y2), (4, vi y4), (5, vi y5), (6, vi y6), (7, vi y7)] [] M 0 0 := by
  refine Z_iload dX8_shareLetIn_35 6 rfl ?_
  refine Z_iload_n dX8_shareLetIn_37 rfl 1 rfl ?_
  refine Z_icmp_ge (tgt := 126) dX8_shareLetIn_38 (by decide) (fun q => ?_) (fun q => ?_)
  · have h := h.1 q
    refine Z_dload_n dX8_shareLetIn_126 rfl 2 rfl ?_
    exact Z_dret rfl dX8_shareLetIn_127 (Nat.le_refl _) (Nat.le_refl _) ⟨_, rfl, h⟩
  · have h := h.2 q
    refine Z_aload_n dX8_shareLetIn_41 rfl 0 rfl ?_
    refine Z_getR (s1 := 15) (i1 := 1) zfl_X8_28 rfl (fun q => by first | exact q | decide) dX8_shareLetIn_42 ?_
    refine Z_iload dX8_shareLetIn_45 5 rfl ?_
    refine Z_iload dX8_shareLetIn_47 3 rfl ?_
    refine Z_callVI (as := [vi y6, vi y4]) zRm_M zcv_X8_shareLetIn_X5_averageAfter_250 (ci := 9) rfl rfl rfl rfl (zle rfl) dX8_shareLetIn_49 ⟨Nat.le_refl _, Nat.le_refl _⟩ h (fun x2 M1 h => ?_)
    refine Z_istore (lv2 := [(4, vi x2), (0, vr 0 0), (1, vi y1), (2, vd y2), (5, vi y5), (6, vi y6), (7, vi y7)]) dX8_shareLetIn_52 (by decide) rfl ?_
    refine Z_aload_n dX8_shareLetIn_54 rfl 1 rfl ?_
    refine Z_getR (s1 := 15) (i1 := 1) zfl_X8_28 rfl (fun q => by first | exact q | decide) dX8_shareLetIn_55 ?_
    refine Z_iload dX8_shareLetIn_58 5 rfl ?_
    refine Z_iload dX8_shareLetIn_60 0 rfl ?_
    refine Z_callVI (as := [vi y6, vi x2]) zRm_M zcv_X8_shareLetIn_X5_wayAt_253 (ci := 9) rfl rfl rfl rfl (zle rfl) dX8_shareLetIn_62 ⟨Nat.le_refl _, Nat.le_refl _⟩ h (fun x4 M3 h => ?_)
    refine Z_istore (lv2 := [(8, vi x4), (4, vi x2), (0, vr 0 0), (1, vi y1), (2, vd y2), (5, vi y5), (6, vi y6), (7, vi y7)]) dX8_shareLetIn_65 (by decide) rfl ?_
    refine Z_iload dX8_shareLetIn_67 0 rfl ?_
    refine Z_aload_n dX8_shareLetIn_69 rfl 2 rfl ?_
    refine Z_getR (s1 := 15) (i1 := 1) zfl_X8_28 rfl (fun q => by first | exact q | decide) dX8_shareLetIn_70 ?_
    refine Z_iload dX8_shareLetIn_73 1 rfl ?_
    refine Z_callVI (as := [vi x2]) zRm_M zcv_X8_shareLetIn_X5_baseAt_243 (ci := 9) rfl rfl rfl rfl (zle rfl) dX8_shareLetIn_75 ⟨Nat.le_refl _, Nat.le_refl _⟩ h (fun x6 M5 h => ?_)
    refine Z_iload dX8_shareLetIn_78 5 rfl ?_
    refine Z_iconst (v := 1) (by decide) dX8_shareLetIn_80 ?_
    refine Z_iadd dX8_shareLetIn_81 ?_
    refine Z_callSI (as := [vi x4, vi x6, vi (y5 + 1)]) zRm_M zcs_X8_shareLetIn_X5_chanceAt_246 rfl rfl (zle rfl) dX8_shareLetIn_82 ⟨Nat.le_refl _, Nat.le_refl _⟩ h (fun x8 M7 h => ?_)
    refine Z_istore (lv2 := [(9, vi x8), (8, vi x4), (4, vi x2), (0, vr 0 0), (1, vi y1), (2, vd y2), (5, vi y5), (6, vi y6), (7, vi y7)]) dX8_shareLetIn_85 (by decide) rfl ?_
    refine Z_dload_n dX8_shareLetIn_87 rfl 5 rfl ?_
    refine Z_ldcw (v := 65536) zw_1438 dX8_shareLetIn_88 ?_
    refine Z_iload dX8_shareLetIn_91 0 rfl ?_
    refine Z_isub dX8_shareLetIn_93 ?_
    refine Z_i2d dX8_shareLetIn_94 ?_
    refine Z_ldc2d (v := 4679240012837945344) zw_1439 dX8_shareLetIn_95 ?_
    obtain ⟨g9, h⟩ := h
    refine Z_ddiv dX8_shareLetIn_98 g9 ?_
    obtain ⟨g10, h⟩ := h
    refine Z_dmul dX8_shareLetIn_99 g10 ?_
    refine Z_dstore_n (lv2 := [(2, vd (FP.dmul y2 (FP.ddiv (FP.i2d (65536 - x8)) 4679240012837945344))), (9, vi x8), (8, vi x4), (4, vi x2), (0, vr 0 0), (1, vi y1), (5, vi y5), (6, vi y6), (7, vi y7)]) dX8_shareLetIn_100 rfl (by decide) rfl ?_
    refine Z_iload dX8_shareLetIn_101 2 rfl ?_
    refine Z_iconst (v := 3) (by decide) dX8_shareLetIn_103 ?_
    refine Z_icmp_ne (tgt := 114) dX8_shareLetIn_104 (by decide) (fun q => ?_) (fun q => ?_)
    · have h := h.1 q
      refine Z_iconst (v := (-1)) (by decide) dX8_shareLetIn_114 ?_
      exact Z_pick [4, 5, 0, 3, 7, 8] rfl h
    · have h := h.2 q
      refine Z_iload dX8_shareLetIn_107 6 rfl ?_
      refine Z_iconst (v := 1) (by decide) dX8_shareLetIn_109 ?_
      refine Z_iadd dX8_shareLetIn_110 ?_
      refine Z_goto (tgt := 115) dX8_shareLetIn_111 (by decide) ?_
      exact Z_pick [4, 5, 0, 3, 7, 8] rfl h
set_option maxRecDepth 100000 in
set_option maxHeartbeats 4000000 in
theorem zb_X8_shareLetIn_115 {l : Launch} {G : zG} {y1 : Int32} {y2 : UInt64} {y4 : Int32} {y6 : Int32} {y7 : Int32} {s0 : Int32} {M : zM} {Kf : UInt64 → zM → Prop} (h : zAt l G Y_X8_shareLetIn (zED G Y_X8_shareLetIn Kf) 35 [(0, vr 0 0), (1, vi y1), (2, vd y2), (4, vi y4), (5, vi s0), (6, vi (y6 + 1)), (7, vi (y7 + 1))] [] M 0 0) : zAt l G Y_X8_shareLetIn (zED G Y_X8_shareLetIn Kf) 115 [(0, vr 0 0), (1, vi y1), (2, vd y2), (4, vi y4), (6, vi y6), (7, vi y7)] [vi s0] M 0 0 := by
  refine Z_istore (lv2 := [(5, vi s0), (0, vr 0 0), (1, vi y1), (2, vd y2), (4, vi y4), (6, vi y6), (7, vi y7)]) dX8_shareLetIn_115 (by decide) rfl ?_
  refine Z_iinc (v := (y6 + 1)) (lv2 := [(6, vi (y6 + 1)), (5, vi s0), (0, vr 0 0), (1, vi y1), (2, vd y2), (4, vi y4), (7, vi y7)]) dX8_shareLetIn_117 5 rfl rfl (by decide) rfl ?_
  refine Z_iinc (v := (y7 + 1)) (lv2 := [(7, vi (y7 + 1)), (6, vi (y6 + 1)), (5, vi s0), (0, vr 0 0), (1, vi y1), (2, vd y2), (4, vi y4)]) dX8_shareLetIn_120 6 rfl rfl (by decide) rfl ?_
  refine Z_goto (tgt := 35) dX8_shareLetIn_123 (by decide) ?_
  exact Z_pick [3, 4, 5, 6, 2, 1, 0] rfl h
-- X8_amiss
set_option maxRecDepth 100000 in
set_option maxHeartbeats 4000000 in
theorem zm_X8_amiss {l : Launch} {G : zG} {M : zM} {Kf : Int32 → zM → Prop} (h : zAt l G Y_X8_amiss (zEI G Y_X8_amiss Kf) 4 [(0, vr 0 0), (1, vi 0), (2, vi 0)] [] M 0 0) : zCalI l G Y_X8_amiss 0 0 [vr 0 0] M Kf := by
  refine zCal_of (lv := [(0, vr 0 0)]) (by decide) rfl (zle rfl) rfl (fun hv => zlv_args (lv := [(0, vr 0 0)]) rfl hv) ?_
  refine Z_iconst (v := 0) (by decide) dX8_amiss_0 ?_
  refine Z_istore_n (lv2 := [(1, vi 0), (0, vr 0 0)]) dX8_amiss_1 rfl (by decide) rfl ?_
  refine Z_iconst (v := 0) (by decide) dX8_amiss_2 ?_
  refine Z_istore_n (lv2 := [(2, vi 0), (1, vi 0), (0, vr 0 0)]) dX8_amiss_3 rfl (by decide) rfl ?_
  exact Z_pick [2, 1, 0] rfl h
set_option maxRecDepth 100000 in
set_option maxHeartbeats 4000000 in
theorem zb_X8_amiss_4 {l : Launch} {G : zG} {y1 : Int32} {y2 : Int32} {M : zM} {Kf : Int32 → zM → Prop} (h : (((zmI M 21 1 1) ≤ y2 → (Kf y1 M)) ∧ (¬ (zmI M 21 1 1) ≤ y2 → (zCalI l G Y_X0_isAmiss 0 0 [vr 21 1, vi y2] M (fun x2 M1 => ((x2 = 0 → zAt l G Y_X8_amiss (zEI G Y_X8_amiss Kf) 35 [(0, vr 0 0), (1, vi y1), (2, vi y2)] [] M1 0 0) ∧ (¬ x2 = 0 → zAt l G Y_X8_amiss (zEI G Y_X8_amiss Kf) 35 [(0, vr 0 0), (1, vi (y1 + 1)), (2, vi y2)] [] M1 0 0))))))) : zAt l G Y_X8_amiss (zEI G Y_X8_amiss Kf) 4 [(0, vr 0 0), (1, vi y1), (2, vi y2)] [] M 0 0 := by
  refine Z_iload_n dX8_amiss_4 rfl 2 rfl ?_
  refine Z_aload_n dX8_amiss_5 rfl 0 rfl ?_
  refine Z_getR (s1 := 15) (i1 := 1) zfl_X8_28 rfl (fun q => by first | exact q | decide) dX8_amiss_6 ?_
  refine Z_getR (s1 := 21) (i1 := 1) zfl_X8_154 rfl (fun q => by first | exact q | decide) dX8_amiss_9 ?_
  refine Z_getI zfl_X8_158 dX8_amiss_12 ?_
  refine Z_icmp_ge (tgt := 41) dX8_amiss_15 (by decide) (fun q => ?_) (fun q => ?_)
  · have h := h.1 q
    refine Z_iload_n dX8_amiss_41 rfl 1 rfl ?_
    exact Z_iret rfl rfl dX8_amiss_42 (Nat.le_refl _) (Nat.le_refl _) ⟨_, rfl, h⟩
  · have h := h.2 q
    refine Z_aload_n dX8_amiss_18 rfl 0 rfl ?_
    refine Z_getR (s1 := 15) (i1 := 1) zfl_X8_28 rfl (fun q => by first | exact q | decide) dX8_amiss_19 ?_
    refine Z_getR (s1 := 21) (i1 := 1) zfl_X8_154 rfl (fun q => by first | exact q | decide) dX8_amiss_22 ?_
    refine Z_iload_n dX8_amiss_25 rfl 2 rfl ?_
    refine Z_callVI (as := [vi y2]) zRm_M zcv_X8_amiss_X0_isAmiss_232 (ci := 4) rfl rfl rfl rfl (zle rfl) dX8_amiss_26 ⟨Nat.le_refl _, Nat.le_refl _⟩ h (fun x2 M1 h => ?_)
    refine Z_if_eq (tgt := 35) dX8_amiss_29 (by decide) (fun q => ?_) (fun q => ?_)
    · have h := h.1 q
      exact h
    · have h := h.2 q
      refine Z_iinc (v := (y1 + 1)) (lv2 := [(1, vi (y1 + 1)), (0, vr 0 0), (2, vi y2)]) dX8_amiss_32 1 rfl rfl (by decide) rfl ?_
      exact Z_pick [1, 0, 2] rfl h
set_option maxRecDepth 100000 in
set_option maxHeartbeats 4000000 in
theorem zb_X8_amiss_35 {l : Launch} {G : zG} {y1 : Int32} {y2 : Int32} {M : zM} {Kf : Int32 → zM → Prop} (h : zAt l G Y_X8_amiss (zEI G Y_X8_amiss Kf) 4 [(0, vr 0 0), (1, vi y1), (2, vi (y2 + 1))] [] M 0 0) : zAt l G Y_X8_amiss (zEI G Y_X8_amiss Kf) 35 [(0, vr 0 0), (1, vi y1), (2, vi y2)] [] M 0 0 := by
  refine Z_iinc (v := (y2 + 1)) (lv2 := [(2, vi (y2 + 1)), (0, vr 0 0), (1, vi y1)]) dX8_amiss_35 2 rfl rfl (by decide) rfl ?_
  refine Z_goto (tgt := 4) dX8_amiss_38 (by decide) ?_
  exact Z_pick [1, 2, 0] rfl h
-- X8_fairness
set_option maxRecDepth 100000 in
set_option maxHeartbeats 4000000 in
theorem zm_X8_fairness {l : Launch} {G : zG} {M : zM} {Kf : UInt64 → zM → Prop} (h : zAt l G Y_X8_fairness (zED G Y_X8_fairness Kf) 7 [(0, vr 0 0), (1, vl 0), (3, vl 0), (5, vi 0)] [] M 0 0) : zCalD l G Y_X8_fairness 0 0 [vr 0 0] M Kf := by
  refine zCal_of (lv := [(0, vr 0 0)]) (by decide) rfl (zle rfl) rfl (fun hv => zlv_args (lv := [(0, vr 0 0)]) rfl hv) ?_
  refine Z_lconst (v := 0) (by decide) dX8_fairness_0 ?_
  refine Z_lstore_n (lv2 := [(1, vl 0), (0, vr 0 0)]) dX8_fairness_1 rfl (by decide) rfl ?_
  refine Z_lconst (v := 0) (by decide) dX8_fairness_2 ?_
  refine Z_lstore_n (lv2 := [(3, vl 0), (1, vl 0), (0, vr 0 0)]) dX8_fairness_3 rfl (by decide) rfl ?_
  refine Z_iconst (v := 0) (by decide) dX8_fairness_4 ?_
  refine Z_istore (lv2 := [(5, vi 0), (3, vl 0), (1, vl 0), (0, vr 0 0)]) dX8_fairness_5 (by decide) rfl ?_
  exact Z_pick [3, 2, 1, 0] rfl h
set_option maxRecDepth 100000 in
set_option maxHeartbeats 4000000 in
theorem zb_X8_fairness_7 {l : Launch} {G : zG} {y1 : Int64} {y3 : Int64} {y5 : Int32} {M : zM} {Kf : UInt64 → zM → Prop} (h : (((zmI M 15 1 12) ≤ y5 → (((lg_cmp ((((zmI M 15 1 12) : Int32).toInt64) * y3) 0) ≤ 0 → (Kf FP.dconst1 M)) ∧ (¬ (lg_cmp ((((zmI M 15 1 12) : Int32).toInt64) * y3) 0) ≤ 0 → (vf_n64 (FP.ddiv (FP.l2d (y1 * y1)) (FP.l2d ((((zmI M 15 1 12) : Int32).toInt64) * y3))) ∧ (Kf (FP.ddiv (FP.l2d (y1 * y1)) (FP.l2d ((((zmI M 15 1 12) : Int32).toInt64) * y3))) M))))) ∧ (¬ (zmI M 15 1 12) ≤ y5 → (zCalL l G Y_X5_total 0 0 [vr 15 1, vi y5, vi 5] M (fun x3 M2 => zAt l G Y_X8_fairness (zED G Y_X8_fairness Kf) 7 [(0, vr 0 0), (1, vl (y1 + x3)), (3, vl (y3 + (x3 * x3))), (5, vi (y5 + 1))] [] M2 0 0))))) : zAt l G Y_X8_fairness (zED G Y_X8_fairness Kf) 7 [(0, vr 0 0), (1, vl y1), (3, vl y3), (5, vi y5)] [] M 0 0 := by
  refine Z_iload dX8_fairness_7 3 rfl ?_
  refine Z_aload_n dX8_fairness_9 rfl 0 rfl ?_
  refine Z_getR (s1 := 15) (i1 := 1) zfl_X8_28 rfl (fun q => by first | exact q | decide) dX8_fairness_10 ?_
  refine Z_getI zfl_X8_96 dX8_fairness_13 ?_
  refine Z_icmp_ge (tgt := 50) dX8_fairness_16 (by decide) (fun q => ?_) (fun q => ?_)
  · have h := h.1 q
    refine Z_aload_n dX8_fairness_50 rfl 0 rfl ?_
    refine Z_getR (s1 := 15) (i1 := 1) zfl_X8_28 rfl (fun q => by first | exact q | decide) dX8_fairness_51 ?_
    refine Z_getI zfl_X8_96 dX8_fairness_54 ?_
    refine Z_i2l dX8_fairness_57 ?_
    refine Z_lload_n dX8_fairness_58 rfl 2 rfl ?_
    refine Z_lmul dX8_fairness_59 ?_
    refine Z_lstore (lv2 := [(5, vl ((((zmI M 15 1 12) : Int32).toInt64) * y3)), (0, vr 0 0), (1, vl y1), (3, vl y3)]) dX8_fairness_60 (by decide) rfl ?_
    refine Z_lload dX8_fairness_62 0 rfl ?_
    refine Z_lconst (v := 0) (by decide) dX8_fairness_64 ?_
    refine Z_lcmp dX8_fairness_65 ?_
    refine Z_if_le (tgt := 80) dX8_fairness_66 (by decide) (fun q => ?_) (fun q => ?_)
    · have h := h.1 q
      refine Z_dconst1 dX8_fairness_80 ?_
      exact Z_dret rfl dX8_fairness_81 (Nat.le_refl _) (Nat.le_refl _) ⟨_, rfl, h⟩
    · have h := h.2 q
      refine Z_lload_n dX8_fairness_69 rfl 2 rfl ?_
      refine Z_lload_n dX8_fairness_70 rfl 2 rfl ?_
      refine Z_lmul dX8_fairness_71 ?_
      refine Z_l2d dX8_fairness_72 ?_
      refine Z_lload dX8_fairness_73 0 rfl ?_
      refine Z_l2d dX8_fairness_75 ?_
      obtain ⟨g1, h⟩ := h
      refine Z_ddiv dX8_fairness_76 g1 ?_
      refine Z_goto (tgt := 81) dX8_fairness_77 (by decide) ?_
      exact Z_dret rfl dX8_fairness_81 (Nat.le_refl _) (Nat.le_refl _) ⟨_, rfl, h⟩
  · have h := h.2 q
    refine Z_aload_n dX8_fairness_19 rfl 0 rfl ?_
    refine Z_getR (s1 := 15) (i1 := 1) zfl_X8_28 rfl (fun q => by first | exact q | decide) dX8_fairness_20 ?_
    refine Z_iload dX8_fairness_23 3 rfl ?_
    refine Z_iconst (v := 5) (by decide) dX8_fairness_25 ?_
    refine Z_callVL (as := [vi y5, vi 5]) zRm_M zcv_X8_fairness_X5_total_227 (ci := 9) rfl rfl rfl rfl (zle rfl) dX8_fairness_26 ⟨Nat.le_refl _, Nat.le_refl _⟩ h (fun x3 M2 h => ?_)
    refine Z_lstore (lv2 := [(6, vl x3), (0, vr 0 0), (1, vl y1), (3, vl y3), (5, vi y5)]) dX8_fairness_29 (by decide) rfl ?_
    refine Z_lload_n dX8_fairness_31 rfl 2 rfl ?_
    refine Z_lload dX8_fairness_32 0 rfl ?_
    refine Z_ladd dX8_fairness_34 ?_
    refine Z_lstore_n (lv2 := [(1, vl (y1 + x3)), (6, vl x3), (0, vr 0 0), (3, vl y3), (5, vi y5)]) dX8_fairness_35 rfl (by decide) rfl ?_
    refine Z_lload_n dX8_fairness_36 rfl 3 rfl ?_
    refine Z_lload dX8_fairness_37 1 rfl ?_
    refine Z_lload dX8_fairness_39 1 rfl ?_
    refine Z_lmul dX8_fairness_41 ?_
    refine Z_ladd dX8_fairness_42 ?_
    refine Z_lstore_n (lv2 := [(3, vl (y3 + (x3 * x3))), (1, vl (y1 + x3)), (6, vl x3), (0, vr 0 0), (5, vi y5)]) dX8_fairness_43 rfl (by decide) rfl ?_
    refine Z_iinc (v := (y5 + 1)) (lv2 := [(5, vi (y5 + 1)), (3, vl (y3 + (x3 * x3))), (1, vl (y1 + x3)), (6, vl x3), (0, vr 0 0)]) dX8_fairness_44 4 rfl rfl (by decide) rfl ?_
    refine Z_goto (tgt := 7) dX8_fairness_47 (by decide) ?_
    exact Z_pick [4, 2, 1, 0] rfl h
-- X8_lossShare
set_option maxRecDepth 100000 in
set_option maxHeartbeats 4000000 in
theorem zm_X8_lossShare {l : Launch} {G : zG} {M : zM} {Kf : UInt32 → zM → Prop} (h : (zCalL l G Y_X5_total 0 0 [vr 15 1, vi (-1), vi 0] M (fun x2 M1 => (((lg_cmp x2 0) ≤ 0 → (Kf FP.fconst0 M1)) ∧ (¬ (lg_cmp x2 0) ≤ 0 → (zCalL l G Y_X5_dropped 0 0 [vr 15 1] M1 (fun x4 M3 => (vf_n32 (FP.fdiv (FP.l2f x4) (FP.l2f x2)) ∧ (Kf (FP.fdiv (FP.l2f x4) (FP.l2f x2)) M3))))))))) : zCalF l G Y_X8_lossShare 0 0 [vr 0 0] M Kf := by
  refine zCal_of (lv := [(0, vr 0 0)]) (by decide) rfl (zle rfl) rfl (fun hv => zlv_args (lv := [(0, vr 0 0)]) rfl hv) ?_
  refine Z_aload_n dX8_lossShare_0 rfl 0 rfl ?_
  refine Z_getR (s1 := 15) (i1 := 1) zfl_X8_28 rfl (fun q => by first | exact q | decide) dX8_lossShare_1 ?_
  refine Z_iconst (v := (-1)) (by decide) dX8_lossShare_4 ?_
  refine Z_iconst (v := 0) (by decide) dX8_lossShare_5 ?_
  refine Z_callVL (as := [vi (-1), vi 0]) zRm_M zcv_X8_lossShare_X5_total_227 (ci := 9) rfl rfl rfl rfl (zle rfl) dX8_lossShare_6 ⟨Nat.le_refl _, Nat.le_refl _⟩ h (fun x2 M1 h => ?_)
  refine Z_lstore_n (lv2 := [(1, vl x2), (0, vr 0 0)]) dX8_lossShare_9 rfl (by decide) rfl ?_
  refine Z_lload_n dX8_lossShare_10 rfl 0 rfl ?_
  refine Z_lconst (v := 0) (by decide) dX8_lossShare_11 ?_
  refine Z_lcmp dX8_lossShare_12 ?_
  refine Z_if_le (tgt := 30) dX8_lossShare_13 (by decide) (fun q => ?_) (fun q => ?_)
  · have h := h.1 q
    refine Z_fconst0 dX8_lossShare_30 ?_
    exact Z_fret rfl dX8_lossShare_31 (Nat.le_refl _) (Nat.le_refl _) ⟨_, rfl, h⟩
  · have h := h.2 q
    refine Z_aload_n dX8_lossShare_16 rfl 1 rfl ?_
    refine Z_getR (s1 := 15) (i1 := 1) zfl_X8_28 rfl (fun q => by first | exact q | decide) dX8_lossShare_17 ?_
    refine Z_callVL (as := []) zRm_M zcv_X8_lossShare_X5_dropped_238 (ci := 9) rfl rfl rfl rfl (zle rfl) dX8_lossShare_20 ⟨Nat.le_refl _, Nat.le_refl _⟩ h (fun x4 M3 h => ?_)
    refine Z_l2f dX8_lossShare_23 ?_
    refine Z_lload_n dX8_lossShare_24 rfl 0 rfl ?_
    refine Z_l2f dX8_lossShare_25 ?_
    obtain ⟨g5, h⟩ := h
    refine Z_fdiv dX8_lossShare_26 g5 ?_
    refine Z_goto (tgt := 31) dX8_lossShare_27 (by decide) ?_
    exact Z_fret rfl dX8_lossShare_31 (Nat.le_refl _) (Nat.le_refl _) ⟨_, rfl, h⟩
-- X8_requireIndex
set_option maxRecDepth 100000 in
set_option maxHeartbeats 4000000 in
theorem zm_X8_requireIndex {l : Launch} (hl : l.stackTraces = false) {G : zG} {p1 : Int32} {p2 : Int32} {M : zM} {Kf : zM → Prop} {KX : String → zM → Prop} (h : ((p1 < 0 → (KX "java/lang/IndexOutOfBoundsException" M)) ∧ (¬ p1 < 0 → ((p1 < p2 → (Kf M)) ∧ (¬ p1 < p2 → (KX "java/lang/IndexOutOfBoundsException" M)))))) : zCalVX l G Y_X8_requireIndex 1 6 [vi p1, vi p2] M Kf KX := by
  refine zCal_of (lv := [(0, vi p1), (1, vi p2)]) (by decide) rfl (zle rfl) rfl (fun hv => zlv_args (lv := [(0, vi p1), (1, vi p2)]) rfl hv) ?_
  refine Z_iload_n dX8_requireIndex_0 rfl 0 rfl ?_
  refine Z_if_lt (tgt := 9) dX8_requireIndex_1 (by decide) (fun q => ?_) (fun q => ?_)
  · have h := h.1 q
    exact Z_throwW (names := ["java/lang/RuntimeException", "java/lang/Exception"]) (text := "none such") hl rfl (by decide) (by decide) zw_1348 zw_134 (zLits_at 20 rfl) zat_X8_339 dX8_requireIndex_9 dX8_requireIndex_12 dX8_requireIndex_13 dX8_requireIndex_16 dX8_requireIndex_19 (zle rfl) (zle rfl) (zle rfl) (zle rfl) h
  · have h := h.2 q
    refine Z_iload_n dX8_requireIndex_4 rfl 0 rfl ?_
    refine Z_iload_n dX8_requireIndex_5 rfl 1 rfl ?_
    refine Z_icmp_lt (tgt := 20) dX8_requireIndex_6 (by decide) (fun q => ?_) (fun q => ?_)
    · have h := h.1 q
      exact Z_vret rfl dX8_requireIndex_20 (zle rfl) (zle rfl) ⟨rfl, h⟩
    · have h := h.2 q
      exact Z_throwW (names := ["java/lang/RuntimeException", "java/lang/Exception"]) (text := "none such") hl rfl (by decide) (by decide) zw_1348 zw_134 (zLits_at 20 rfl) zat_X8_339 dX8_requireIndex_9 dX8_requireIndex_12 dX8_requireIndex_13 dX8_requireIndex_16 dX8_requireIndex_19 (zle rfl) (zle rfl) (zle rfl) (zle rfl) h
-- X8_requireWithin
set_option maxRecDepth 100000 in
set_option maxHeartbeats 4000000 in
theorem zm_X8_requireWithin {l : Launch} (hl : l.stackTraces = false) {G : zG} {p1 : Int32} {p2 : Int32} {p3 : Int32} {M : zM} {Kf : zM → Prop} {KX : String → zM → Prop} (h : ((p1 < p2 → (KX "java/lang/IllegalArgumentException" M)) ∧ (¬ p1 < p2 → ((p1 ≤ p3 → (Kf M)) ∧ (¬ p1 ≤ p3 → (KX "java/lang/IllegalArgumentException" M)))))) : zCalVX l G Y_X8_requireWithin 1 6 [vi p1, vi p2, vi p3] M Kf KX := by
  refine zCal_of (lv := [(0, vi p1), (1, vi p2), (2, vi p3)]) (by decide) rfl (zle rfl) rfl (fun hv => zlv_args (lv := [(0, vi p1), (1, vi p2), (2, vi p3)]) rfl hv) ?_
  refine Z_iload_n dX8_requireWithin_0 rfl 0 rfl ?_
  refine Z_iload_n dX8_requireWithin_1 rfl 1 rfl ?_
  refine Z_icmp_lt (tgt := 10) dX8_requireWithin_2 (by decide) (fun q => ?_) (fun q => ?_)
  · have h := h.1 q
    exact Z_throwW (names := ["java/lang/RuntimeException", "java/lang/Exception"]) (text := "out of range") hl rfl (by decide) (by decide) zw_1329 zw_133 (zLits_at 19 rfl) zat_X8_332 dX8_requireWithin_10 dX8_requireWithin_13 dX8_requireWithin_14 dX8_requireWithin_17 dX8_requireWithin_20 (zle rfl) (zle rfl) (zle rfl) (zle rfl) h
  · have h := h.2 q
    refine Z_iload_n dX8_requireWithin_5 rfl 0 rfl ?_
    refine Z_iload_n dX8_requireWithin_6 rfl 2 rfl ?_
    refine Z_icmp_le (tgt := 21) dX8_requireWithin_7 (by decide) (fun q => ?_) (fun q => ?_)
    · have h := h.1 q
      exact Z_vret rfl dX8_requireWithin_21 (zle rfl) (zle rfl) ⟨rfl, h⟩
    · have h := h.2 q
      exact Z_throwW (names := ["java/lang/RuntimeException", "java/lang/Exception"]) (text := "out of range") hl rfl (by decide) (by decide) zw_1329 zw_133 (zLits_at 19 rfl) zat_X8_332 dX8_requireWithin_10 dX8_requireWithin_13 dX8_requireWithin_14 dX8_requireWithin_17 dX8_requireWithin_20 (zle rfl) (zle rfl) (zle rfl) (zle rfl) h
-- X8_undo
set_option maxRecDepth 100000 in
set_option maxHeartbeats 4000000 in
theorem zm_X8_undo {l : Launch} {G : zG} {M : zM} {Kf : Int32 → zM → Prop} (h : (zCalI l G Y_X2_takeBack 0 0 [vr 10 0, vr 15 1] M (fun x2 M1 => ((x2 = 0 → (Kf (-1) M1)) ∧ (¬ x2 = 0 → (Kf (zmI M1 10 0 2) M1)))))) : zCalI l G Y_X8_undo 0 0 [vr 0 0] M Kf := by
  refine zCal_of (lv := [(0, vr 0 0)]) (by decide) rfl (zle rfl) rfl (fun hv => zlv_args (lv := [(0, vr 0 0)]) rfl hv) ?_
  refine Z_aload_n dX8_undo_0 rfl 0 rfl ?_
  refine Z_getR (s1 := 10) (i1 := 0) zfl_X8_47 rfl (fun q => by first | exact q | decide) dX8_undo_1 ?_
  refine Z_aload_n dX8_undo_4 rfl 0 rfl ?_
  refine Z_getR (s1 := 15) (i1 := 1) zfl_X8_28 rfl (fun q => by first | exact q | decide) dX8_undo_5 ?_
  refine Z_callVI (as := [vr 15 1]) zRm_M zcv_X8_undo_X2_takeBack_324 (ci := 6) rfl rfl rfl rfl (zle rfl) dX8_undo_8 ⟨Nat.le_refl _, Nat.le_refl _⟩ h (fun x2 M1 h => ?_)
  refine Z_if_eq (tgt := 24) dX8_undo_11 (by decide) (fun q => ?_) (fun q => ?_)
  · have h := h.1 q
    refine Z_iconst (v := (-1)) (by decide) dX8_undo_24 ?_
    exact Z_iret rfl rfl dX8_undo_25 (Nat.le_refl _) (Nat.le_refl _) ⟨_, rfl, h⟩
  · have h := h.2 q
    refine Z_aload_n dX8_undo_14 rfl 0 rfl ?_
    refine Z_getR (s1 := 10) (i1 := 0) zfl_X8_47 rfl (fun q => by first | exact q | decide) dX8_undo_15 ?_
    refine Z_getI zfl_X8_163 dX8_undo_18 ?_
    refine Z_goto (tgt := 25) dX8_undo_21 (by decide) ?_
    exact Z_iret rfl rfl dX8_undo_25 (Nat.le_refl _) (Nat.le_refl _) ⟨_, rfl, h⟩
-- X8_base
set_option maxRecDepth 100000 in
set_option maxHeartbeats 4000000 in
theorem zm_X8_base {l : Launch} {G : zG} {p1 : Int32} {M : zM} {Kf : Int32 → zM → Prop} {KX : String → zM → Prop} (h : (zCalVX l G Y_X8_requireWithin 1 6 [vi p1, vi 0, vi 99999] M (fun M1 => (zCalI l G Y_X5_baseAt 0 0 [vr 15 1, vi p1] M1 (fun x3 M2 => (Kf x3 M2)))) KX)) : zCalIX l G Y_X8_base 1 6 [vr 0 0, vi p1] M Kf KX := by
  refine zCal_of (lv := [(0, vr 0 0), (1, vi p1)]) (by decide) rfl (zle rfl) rfl (fun hv => zlv_args (lv := [(0, vr 0 0), (1, vi p1)]) rfl hv) ?_
  refine Z_iload_n dX8_base_0 rfl 1 rfl ?_
  refine Z_iconst (v := 0) (by decide) dX8_base_1 ?_
  refine Z_ldc (v := 99999) zw_1419 dX8_base_2 ?_
  refine Z_callSVX (as := [vi p1, vi 0, vi 99999]) rfl zcs_X8_base_X8_requireWithin_110 rfl rfl (zle rfl) dX8_base_4 ⟨zle rfl, zle rfl⟩ h (fun _ _ q => q) (fun M1 h => ?_)
  refine Z_aload_n dX8_base_7 rfl 0 rfl ?_
  refine Z_getR (s1 := 15) (i1 := 1) zfl_X8_28 rfl (fun q => by first | exact q | decide) dX8_base_8 ?_
  refine Z_iload_n dX8_base_11 rfl 1 rfl ?_
  refine Z_callVI (as := [vi p1]) zRm_M zcv_X8_base_X5_baseAt_243 (ci := 9) rfl rfl rfl rfl (zle rfl) dX8_base_12 ⟨zle rfl, zle rfl⟩ h (fun x3 M2 h => ?_)
  exact Z_iret rfl rfl dX8_base_15 (zle rfl) (zle rfl) ⟨_, rfl, h⟩
-- X8_burst
set_option maxRecDepth 100000 in
set_option maxHeartbeats 4000000 in
theorem zm_X8_burst {l : Launch} {G : zG} {p1 : Int32} {M : zM} {Kf : UInt64 → zM → Prop} {KX : String → zM → Prop} (h : (zCalVX l G Y_X8_requireWithin 1 6 [vi p1, vi 1, vi 60] M (fun M1 => (zCalD l G Y_X8_shareLetIn 0 0 [vr 0 0, vi p1] M1 (fun x3 M2 => (Kf x3 M2)))) KX)) : zCalDX l G Y_X8_burst 1 6 [vr 0 0, vi p1] M Kf KX := by
  refine zCal_of (lv := [(0, vr 0 0), (1, vi p1)]) (by decide) rfl (zle rfl) rfl (fun hv => zlv_args (lv := [(0, vr 0 0), (1, vi p1)]) rfl hv) ?_
  refine Z_iload_n dX8_burst_0 rfl 1 rfl ?_
  refine Z_iconst (v := 1) (by decide) dX8_burst_1 ?_
  refine Z_bipush (v := 60) (by decide) dX8_burst_2 ?_
  refine Z_callSVX (as := [vi p1, vi 1, vi 60]) rfl zcs_X8_burst_X8_requireWithin_110 rfl rfl (zle rfl) dX8_burst_4 ⟨zle rfl, zle rfl⟩ h (fun _ _ q => q) (fun M1 h => ?_)
  refine Z_aload_n dX8_burst_7 rfl 0 rfl ?_
  refine Z_iload_n dX8_burst_8 rfl 1 rfl ?_
  refine Z_callVD (as := [vi p1]) zRm_M zcv_X8_burst_X8_shareLetIn_256 (ci := 12) rfl rfl rfl rfl (zle rfl) dX8_burst_9 ⟨zle rfl, zle rfl⟩ h (fun x3 M2 h => ?_)
  exact Z_dret rfl dX8_burst_12 (zle rfl) (zle rfl) ⟨_, rfl, h⟩
-- X8_chance
set_option maxRecDepth 100000 in
set_option maxHeartbeats 4000000 in
theorem zm_X8_chance {l : Launch} {G : zG} {p1 : Int32} {p2 : Int32} {M : zM} {Kf : Int32 → zM → Prop} {KX : String → zM → Prop} (h : (zCalVX l G Y_X8_requireWithin 1 6 [vi p1, vi 0, vi 99999] M (fun M1 => (zCalVX l G Y_X8_requireWithin 1 6 [vi p2, vi 0, vi 9999] M1 (fun M2 => (zCalI l G Y_X5_baseAt 0 0 [vr 15 1, vi p1] M2 (fun x4 M3 => (zCalI l G Y_X5_chanceAt 0 0 [vi 3, vi x4, vi p2] M3 (fun x6 M5 => (Kf x6 M5)))))) KX)) KX)) : zCalIX l G Y_X8_chance 2 12 [vr 0 0, vi p1, vi p2] M Kf KX := by
  refine zCal_of (lv := [(0, vr 0 0), (1, vi p1), (2, vi p2)]) (by decide) rfl (zle rfl) rfl (fun hv => zlv_args (lv := [(0, vr 0 0), (1, vi p1), (2, vi p2)]) rfl hv) ?_
  refine Z_iload_n dX8_chance_0 rfl 1 rfl ?_
  refine Z_iconst (v := 0) (by decide) dX8_chance_1 ?_
  refine Z_ldc (v := 99999) zw_1419 dX8_chance_2 ?_
  refine Z_callSVX (as := [vi p1, vi 0, vi 99999]) rfl zcs_X8_chance_X8_requireWithin_110 rfl rfl (zle rfl) dX8_chance_4 ⟨zle rfl, zle rfl⟩ h (fun _ _ q => q) (fun M1 h => ?_)
  refine Z_iload_n dX8_chance_7 rfl 2 rfl ?_
  refine Z_iconst (v := 0) (by decide) dX8_chance_8 ?_
  refine Z_sipush (v := 9999) (by decide) dX8_chance_9 ?_
  refine Z_callSVX (as := [vi p2, vi 0, vi 9999]) rfl zcs_X8_chance_X8_requireWithin_110 rfl rfl (zle rfl) dX8_chance_12 ⟨zle rfl, zle rfl⟩ h (fun _ _ q => q) (fun M2 h => ?_)
  refine Z_iconst (v := 3) (by decide) dX8_chance_15 ?_
  refine Z_aload_n dX8_chance_16 rfl 0 rfl ?_
  refine Z_getR (s1 := 15) (i1 := 1) zfl_X8_28 rfl (fun q => by first | exact q | decide) dX8_chance_17 ?_
  refine Z_iload_n dX8_chance_20 rfl 1 rfl ?_
  refine Z_callVI (as := [vi p1]) zRm_M zcv_X8_chance_X5_baseAt_243 (ci := 9) rfl rfl rfl rfl (zle rfl) dX8_chance_21 ⟨zle rfl, zle rfl⟩ h (fun x4 M3 h => ?_)
  refine Z_iload_n dX8_chance_24 rfl 2 rfl ?_
  refine Z_callSI (as := [vi 3, vi x4, vi p2]) zRm_M zcs_X8_chance_X5_chanceAt_246 rfl rfl (zle rfl) dX8_chance_25 ⟨zle rfl, zle rfl⟩ h (fun x6 M5 h => ?_)
  exact Z_iret rfl rfl dX8_chance_28 (zle rfl) (zle rfl) ⟨_, rfl, h⟩
-- X8_decision
set_option maxRecDepth 100000 in
set_option maxHeartbeats 4000000 in
theorem zm_X8_decision {l : Launch} {G : zG} {p1 : Int32} {p2 : Int32} {M : zM} {Kf : Int32 → zM → Prop} {KX : String → zM → Prop} (h : (zCalVX l G Y_X8_requireIndex 1 6 [vi p1, vi (zmI M 21 1 1)] M (fun M1 => (zCalVX l G Y_X8_requireWithin 1 6 [vi p2, vi 0, vi 7] M1 (fun M2 => (zCalI l G Y_X0_cell 0 0 [vr 21 1, vi p1, vi p2] M2 (fun x4 M3 => (Kf x4 M3)))) KX)) KX)) : zCalIX l G Y_X8_decision 2 12 [vr 0 0, vi p1, vi p2] M Kf KX := by
  refine zCal_of (lv := [(0, vr 0 0), (1, vi p1), (2, vi p2)]) (by decide) rfl (zle rfl) rfl (fun hv => zlv_args (lv := [(0, vr 0 0), (1, vi p1), (2, vi p2)]) rfl hv) ?_
  refine Z_iload_n dX8_decision_0 rfl 1 rfl ?_
  refine Z_aload_n dX8_decision_1 rfl 0 rfl ?_
  refine Z_getR (s1 := 15) (i1 := 1) zfl_X8_28 rfl (fun q => by first | exact q | decide) dX8_decision_2 ?_
  refine Z_getR (s1 := 21) (i1 := 1) zfl_X8_154 rfl (fun q => by first | exact q | decide) dX8_decision_5 ?_
  refine Z_getI zfl_X8_158 dX8_decision_8 ?_
  refine Z_callSVX (as := [vi p1, vi (zmI M 21 1 1)]) rfl zcs_X8_decision_X8_requireIndex_216 rfl rfl (zle rfl) dX8_decision_11 ⟨zle rfl, zle rfl⟩ h (fun _ _ q => q) (fun M1 h => ?_)
  refine Z_iload_n dX8_decision_14 rfl 2 rfl ?_
  refine Z_iconst (v := 0) (by decide) dX8_decision_15 ?_
  refine Z_bipush (v := 7) (by decide) dX8_decision_16 ?_
  refine Z_callSVX (as := [vi p2, vi 0, vi 7]) rfl zcs_X8_decision_X8_requireWithin_110 rfl rfl (zle rfl) dX8_decision_18 ⟨zle rfl, zle rfl⟩ h (fun _ _ q => q) (fun M2 h => ?_)
  refine Z_aload_n dX8_decision_21 rfl 0 rfl ?_
  refine Z_getR (s1 := 15) (i1 := 1) zfl_X8_28 rfl (fun q => by first | exact q | decide) dX8_decision_22 ?_
  refine Z_getR (s1 := 21) (i1 := 1) zfl_X8_154 rfl (fun q => by first | exact q | decide) dX8_decision_25 ?_
  refine Z_iload_n dX8_decision_28 rfl 1 rfl ?_
  refine Z_iload_n dX8_decision_29 rfl 2 rfl ?_
  refine Z_callVI (as := [vi p1, vi p2]) zRm_M zcv_X8_decision_X0_cell_231 (ci := 4) rfl rfl rfl rfl (zle rfl) dX8_decision_30 ⟨zle rfl, zle rfl⟩ h (fun x4 M3 h => ?_)
  exact Z_iret rfl rfl dX8_decision_33 (zle rfl) (zle rfl) ⟨_, rfl, h⟩
-- X8_flowAt
set_option maxRecDepth 100000 in
set_option maxHeartbeats 4000000 in
theorem zm_X8_flowAt {l : Launch} {G : zG} {p1 : Int32} {M : zM} {Kf : zI → zM → Prop} {KX : String → zM → Prop} (h : (zCalVX l G Y_X8_requireIndex 1 6 [vi p1, vi (zmI M 15 1 12)] M (fun M1 => (vp_in p1 6 ∧ (Kf (17, (6 * 1 + p1.toNatClampNeg)) M1))) KX)) : zCalRX l G Y_X8_flowAt 1 6 [vr 0 0, vi p1] M Kf KX := by
  refine zCal_of (lv := [(0, vr 0 0), (1, vi p1)]) (by decide) rfl (zle rfl) rfl (fun hv => zlv_args (lv := [(0, vr 0 0), (1, vi p1)]) rfl hv) ?_
  refine Z_iload_n dX8_flowAt_0 rfl 1 rfl ?_
  refine Z_aload_n dX8_flowAt_1 rfl 0 rfl ?_
  refine Z_getR (s1 := 15) (i1 := 1) zfl_X8_28 rfl (fun q => by first | exact q | decide) dX8_flowAt_2 ?_
  refine Z_getI zfl_X8_96 dX8_flowAt_5 ?_
  refine Z_callSVX (as := [vi p1, vi (zmI M 15 1 12)]) rfl zcs_X8_flowAt_X8_requireIndex_216 rfl rfl (zle rfl) dX8_flowAt_8 ⟨zle rfl, zle rfl⟩ h (fun _ _ q => q) (fun M1 h => ?_)
  refine Z_aload_n dX8_flowAt_11 rfl 0 rfl ?_
  refine Z_getR (s1 := 15) (i1 := 1) zfl_X8_28 rfl (fun q => by first | exact q | decide) dX8_flowAt_12 ?_
  refine Z_getR (s1 := 16) (i1 := 1) zfl_X8_265 rfl (fun q => by first | exact q | decide) dX8_flowAt_15 ?_
  refine Z_iload_n dX8_flowAt_18 rfl 1 rfl ?_
  obtain ⟨g2, h⟩ := h
  refine Z_aald (s1 := 17) (i1 := (6 * 1 + p1.toNatClampNeg)) (n := 6) (t := 6) rfl (by decide) g2 rfl (fun z => zref_ok_16 g2 z) dX8_flowAt_19 ?_
  exact Z_aret rfl (by first | exact Or.inl ⟨_, rfl⟩ | exact Or.inr ⟨_, rfl⟩) (by first | exact Or.inl ⟨_, rfl⟩ | exact Or.inr ⟨_, rfl⟩) dX8_flowAt_20 (zle rfl) (zle rfl) ⟨_, rfl, h⟩
-- X8_packet
set_option maxRecDepth 100000 in
set_option maxHeartbeats 4000000 in
theorem zm_X8_packet {l : Launch} {G : zG} {p1 : Int32} {p2 : Int32} {M : zM} {Kf : Int32 → zM → Prop} {KX : String → zM → Prop} (h : (zCalVX l G Y_X8_requireIndex 1 6 [vi p1, vi (zmI M 19 1 1)] M (fun M1 => (zCalVX l G Y_X8_requireWithin 1 6 [vi p2, vi 0, vi 2] M1 (fun M2 => (zCalI l G Y_X3_cell 0 0 [vr 19 1, vi p1, vi p2] M2 (fun x4 M3 => (Kf x4 M3)))) KX)) KX)) : zCalIX l G Y_X8_packet 2 12 [vr 0 0, vi p1, vi p2] M Kf KX := by
  refine zCal_of (lv := [(0, vr 0 0), (1, vi p1), (2, vi p2)]) (by decide) rfl (zle rfl) rfl (fun hv => zlv_args (lv := [(0, vr 0 0), (1, vi p1), (2, vi p2)]) rfl hv) ?_
  refine Z_iload_n dX8_packet_0 rfl 1 rfl ?_
  refine Z_aload_n dX8_packet_1 rfl 0 rfl ?_
  refine Z_getR (s1 := 15) (i1 := 1) zfl_X8_28 rfl (fun q => by first | exact q | decide) dX8_packet_2 ?_
  refine Z_getR (s1 := 19) (i1 := 1) zfl_X8_138 rfl (fun q => by first | exact q | decide) dX8_packet_5 ?_
  refine Z_getI zfl_X8_142 dX8_packet_8 ?_
  refine Z_callSVX (as := [vi p1, vi (zmI M 19 1 1)]) rfl zcs_X8_packet_X8_requireIndex_216 rfl rfl (zle rfl) dX8_packet_11 ⟨zle rfl, zle rfl⟩ h (fun _ _ q => q) (fun M1 h => ?_)
  refine Z_iload_n dX8_packet_14 rfl 2 rfl ?_
  refine Z_iconst (v := 0) (by decide) dX8_packet_15 ?_
  refine Z_iconst (v := 2) (by decide) dX8_packet_16 ?_
  refine Z_callSVX (as := [vi p2, vi 0, vi 2]) rfl zcs_X8_packet_X8_requireWithin_110 rfl rfl (zle rfl) dX8_packet_17 ⟨zle rfl, zle rfl⟩ h (fun _ _ q => q) (fun M2 h => ?_)
  refine Z_aload_n dX8_packet_20 rfl 0 rfl ?_
  refine Z_getR (s1 := 15) (i1 := 1) zfl_X8_28 rfl (fun q => by first | exact q | decide) dX8_packet_21 ?_
  refine Z_getR (s1 := 19) (i1 := 1) zfl_X8_138 rfl (fun q => by first | exact q | decide) dX8_packet_24 ?_
  refine Z_iload_n dX8_packet_27 rfl 1 rfl ?_
  refine Z_iload_n dX8_packet_28 rfl 2 rfl ?_
  refine Z_callVI (as := [vi p1, vi p2]) zRm_M zcv_X8_packet_X3_cell_220 (ci := 7) rfl rfl rfl rfl (zle rfl) dX8_packet_29 ⟨zle rfl, zle rfl⟩ h (fun x4 M3 h => ?_)
  exact Z_iret rfl rfl dX8_packet_32 (zle rfl) (zle rfl) ⟨_, rfl, h⟩
