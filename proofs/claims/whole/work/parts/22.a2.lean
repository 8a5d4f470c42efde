/-! printed by wip/whole/drive.py -/
abbrev Y_X8_requireFlowOrNone : zY := (yX8_requireFlowOrNone, cX8_requireFlowOrNone, 2, none, 8, [])
theorem zcs_X8_requireFlowOrNone_X8_requireIndex_216 : zLS Y_X8_requireFlowOrNone 216 Y_X8_requireIndex 2 := ⟨zw_1345, zw_1346, zw_111, zw_1347, by decide +kernel, by decide, by decide⟩
abbrev Y_X8_restore : zY := (yX8_restore, cX8_restore, 2, (some .int), 8, [])
theorem zcs_X8_restore_X8_requireWithin_110 : zLS Y_X8_restore 110 Y_X8_requireWithin 3 := ⟨zw_1326, zw_1327, zw_111, zw_1328, by decide +kernel, by decide, by decide⟩
theorem zw_488 : Cond.fieldLink RX8 55 "EarlyDrops" "isSaved" "[Z" ∈ zAll := zin 488 (by decide +kernel) (by decide +kernel)
theorem zfl_X8_55 : zFL RX8 55 0 7 1 := ⟨12, RX8, TX8, 9, rfl, rfl, by decide, rfl, zw_488, zws_X8⟩
theorem zw_487 : Cond.fieldLink RX8 51 "EarlyDrops" "saved" "[LEarlyDrops$Router;" ∈ zAll := zin 487 (by decide +kernel) (by decide +kernel)
theorem zfl_X8_51 : zFL RX8 51 0 6 1 := ⟨12, RX8, TX8, 9, rfl, rfl, by decide, rfl, zw_487, zws_X8⟩
theorem zw_717 : Cond.methodLink RX8 89 yX5_copyFrom ∈ zAll := zin 717 (by decide +kernel) (by decide +kernel)
theorem zcv_X8_restore_X5_copyFrom_89 : zLV Y_X8_restore 89 Y_X5_copyFrom 1 RX5 := ⟨zw_717, zw_718, zw_719, zw_114, zw_720, by decide +kernel, by decide, by decide⟩
theorem zw_738 : Cond.methodLink RX8 93 yX2_forget ∈ zAll := zin 738 (by decide +kernel) (by decide +kernel)
theorem zw_741 : Cond.code yX2_forget cX2_forget 1 none ∈ zAll := zin 741 (by decide +kernel) (by decide +kernel)
theorem zw_739 : Cond.instanceMethod yX2_forget ∈ zAll := zin 739 (by decide +kernel) (by decide +kernel)
theorem zw_740 : Cond.selects RX2 yX2_forget yX2_forget ∈ zAll := zin 740 (by decide +kernel) (by decide +kernel)
theorem zcv_X8_restore_X2_forget_93 : zLV Y_X8_restore 93 Y_X2_forget 0 RX2 := ⟨zw_738, zw_739, zw_740, zw_119, zw_741, by decide +kernel, by decide, by decide⟩
theorem zw_324 : Cond.fieldLink RX8 135 "EarlyDrops$Router" "time" "I" ∈ zAll := zin 324 (by decide +kernel) (by decide +kernel)
theorem zfl_X8_135 : zFL RX8 135 15 7 0 := ⟨9, RX5, TX5, 16, rfl, rfl, by decide, rfl, zw_324, zws_X5⟩
abbrev Y_X8_save : zY := (yX8_save, cX8_save, 2, (some .int), 8, [])
theorem zcs_X8_save_X8_requireWithin_110 : zLS Y_X8_save 110 Y_X8_requireWithin 3 := ⟨zw_1326, zw_1327, zw_111, zw_1328, by decide +kernel, by decide, by decide⟩
theorem zcv_X8_save_X5_copyFrom_89 : zLV Y_X8_save 89 Y_X5_copyFrom 1 RX5 := ⟨zw_717, zw_718, zw_719, zw_114, zw_720, by decide +kernel, by decide, by decide⟩
abbrev Y_X8_size : zY := (yX8_size, cX8_size, 2, (some .int), 8, [])
theorem zcs_X8_size_X8_requireWithin_110 : zLS Y_X8_size 110 Y_X8_requireWithin 3 := ⟨zw_1326, zw_1327, zw_111, zw_1328, by decide +kernel, by decide, by decide⟩
theorem zw_304 : Cond.fieldLink RX8 114 "EarlyDrops$Router" "limit" "I" ∈ zAll := zin 304 (by decide +kernel) (by decide +kernel)
theorem zfl_X8_114 : zFL RX8 114 15 0 0 := ⟨9, RX5, TX5, 16, rfl, rfl, by decide, rfl, zw_304, zws_X5⟩
theorem zw_307 : Cond.fieldLink RX8 117 "EarlyDrops$Router" "rate" "I" ∈ zAll := zin 307 (by decide +kernel) (by decide +kernel)
theorem zfl_X8_117 : zFL RX8 117 15 1 0 := ⟨9, RX5, TX5, 16, rfl, rfl, by decide, rfl, zw_307, zws_X5⟩
theorem zw_310 : Cond.fieldLink RX8 120 "EarlyDrops$Router" "min" "I" ∈ zAll := zin 310 (by decide +kernel) (by decide +kernel)
theorem zfl_X8_120 : zFL RX8 120 15 2 0 := ⟨9, RX5, TX5, 16, rfl, rfl, by decide, rfl, zw_310, zws_X5⟩
theorem zw_313 : Cond.fieldLink RX8 123 "EarlyDrops$Router" "max" "I" ∈ zAll := zin 313 (by decide +kernel) (by decide +kernel)
theorem zfl_X8_123 : zFL RX8 123 15 3 0 := ⟨9, RX5, TX5, 16, rfl, rfl, by decide, rfl, zw_313, zws_X5⟩
theorem zw_316 : Cond.fieldLink RX8 126 "EarlyDrops$Router" "top" "I" ∈ zAll := zin 316 (by decide +kernel) (by decide +kernel)
theorem zfl_X8_126 : zFL RX8 126 15 4 0 := ⟨9, RX5, TX5, 16, rfl, rfl, by decide, rfl, zw_316, zws_X5⟩
theorem zw_319 : Cond.fieldLink RX8 129 "EarlyDrops$Router" "weight" "I" ∈ zAll := zin 319 (by decide +kernel) (by decide +kernel)
theorem zfl_X8_129 : zFL RX8 129 15 5 0 := ⟨9, RX5, TX5, 16, rfl, rfl, by decide, rfl, zw_319, zws_X5⟩
theorem zw_322 : Cond.fieldLink RX8 132 "EarlyDrops$Router" "gentle" "I" ∈ zAll := zin 322 (by decide +kernel) (by decide +kernel)
theorem zfl_X8_132 : zFL RX8 132 15 6 0 := ⟨9, RX5, TX5, 16, rfl, rfl, by decide, rfl, zw_322, zws_X5⟩
theorem zw_1332 : Cond.methodLink RX8 151 yX5_flowsOn ∈ zAll := zin 1332 (by decide +kernel) (by decide +kernel)
theorem zcv_X8_size_X5_flowsOn_151 : zLV Y_X8_size 151 Y_X5_flowsOn 0 RX5 := ⟨zw_1332, zw_926, zw_927, zw_114, zw_928, by decide +kernel, by decide, by decide⟩
abbrev Y_X8_sureBurst : zY := (yX8_sureBurst, cX8_sureBurst, 6, (some .int), 8, [])
theorem zcs_X8_sureBurst_X8_requireWithin_110 : zLS Y_X8_sureBurst 110 Y_X8_requireWithin 3 := ⟨zw_1326, zw_1327, zw_111, zw_1328, by decide +kernel, by decide, by decide⟩
theorem zw_1447 : Cond.constantDouble RX8 260 4636737291354636288 ∈ zAll := zin 1447 (by decide +kernel) (by decide +kernel)
theorem zcv_X8_sureBurst_X8_shareLetIn_256 : zLV Y_X8_sureBurst 256 Y_X8_shareLetIn 1 RX8 := ⟨zw_1434, zw_1436, zw_23, zw_111, zw_1437, by decide +kernel, by decide, by decide⟩
abbrev Y_X8_account : zY := (yX8_account, cX8_account, 3, (some .long), 9, [])
theorem zw_1393 : Cond.methodLink RX8 224 yX8_requireFlowOrNone ∈ zAll := zin 1393 (by decide +kernel) (by decide +kernel)
theorem zw_1396 : Cond.code yX8_requireFlowOrNone cX8_requireFlowOrNone 2 none ∈ zAll := zin 1396 (by decide +kernel) (by decide +kernel)
theorem zw_1395 : Cond.instanceMethod yX8_requireFlowOrNone ∈ zAll := zin 1395 (by decide +kernel) (by decide +kernel)
theorem zw_22 : Cond.selects RX8 yX8_requireFlowOrNone yX8_requireFlowOrNone ∈ zAll := zin 22 (by decide +kernel) (by decide +kernel)
theorem zcv_X8_account_X8_requireFlowOrNone_224 : zLV Y_X8_account 224 Y_X8_requireFlowOrNone 1 RX8 := ⟨zw_1393, zw_1395, zw_22, zw_111, zw_1396, by decide +kernel, by decide, by decide⟩
theorem zcs_X8_account_X8_requireWithin_110 : zLS Y_X8_account 110 Y_X8_requireWithin 3 := ⟨zw_1326, zw_1327, zw_111, zw_1328, by decide +kernel, by decide, by decide⟩
theorem zcv_X8_account_X5_total_227 : zLV Y_X8_account 227 Y_X5_total 2 RX5 := ⟨zw_954, zw_955, zw_956, zw_114, zw_957, by decide +kernel, by decide, by decide⟩
abbrev Y_X8_flow : zY := (yX8_flow, cX8_flow, 4, (some .int), 9, [])
theorem zw_1341 : Cond.methodLink RX8 164 yX8_flowAt ∈ zAll := zin 1341 (by decide +kernel) (by decide +kernel)
theorem zw_1344 : Cond.code yX8_flowAt cX8_flowAt 2 (some (.object "EarlyDrops$Flow")) ∈ zAll := zin 1344 (by decide +kernel) (by decide +kernel)
theorem zw_1343 : Cond.instanceMethod yX8_flowAt ∈ zAll := zin 1343 (by decide +kernel) (by decide +kernel)
theorem zw_21 : Cond.selects RX8 yX8_flowAt yX8_flowAt ∈ zAll := zin 21 (by decide +kernel) (by decide +kernel)
theorem zcv_X8_flow_X8_flowAt_164 : zLV Y_X8_flow 164 Y_X8_flowAt 1 RX8 := ⟨zw_1341, zw_1343, zw_21, zw_111, zw_1344, by decide +kernel, by decide, by decide⟩
theorem zcs_X8_flow_X8_requireWithin_110 : zLS Y_X8_flow 110 Y_X8_requireWithin 3 := ⟨zw_1326, zw_1327, zw_111, zw_1328, by decide +kernel, by decide, by decide⟩
theorem zw_242 : Cond.fieldLink RX8 168 "EarlyDrops$Flow" "first" "I" ∈ zAll := zin 242 (by decide +kernel) (by decide +kernel)
theorem zfl_X8_168 : zFL RX8 168 17 1 0 := ⟨5, RX1, TX1, 11, rfl, rfl, by decide, rfl, zw_242, zws_X1⟩
theorem zw_245 : Cond.fieldLink RX8 173 "EarlyDrops$Flow" "period" "I" ∈ zAll := zin 245 (by decide +kernel) (by decide +kernel)
theorem zfl_X8_173 : zFL RX8 173 17 2 0 := ⟨5, RX1, TX1, 11, rfl, rfl, by decide, rfl, zw_245, zws_X1⟩
theorem zw_248 : Cond.fieldLink RX8 176 "EarlyDrops$Flow" "start" "I" ∈ zAll := zin 248 (by decide +kernel) (by decide +kernel)
theorem zfl_X8_176 : zFL RX8 176 17 3 0 := ⟨5, RX1, TX1, 11, rfl, rfl, by decide, rfl, zw_248, zws_X1⟩
theorem zw_251 : Cond.fieldLink RX8 179 "EarlyDrops$Flow" "cap" "I" ∈ zAll := zin 251 (by decide +kernel) (by decide +kernel)
theorem zfl_X8_179 : zFL RX8 179 17 4 0 := ⟨5, RX1, TX1, 11, rfl, rfl, by decide, rfl, zw_251, zws_X1⟩
theorem zw_254 : Cond.fieldLink RX8 182 "EarlyDrops$Flow" "marks" "Z" ∈ zAll := zin 254 (by decide +kernel) (by decide +kernel)
theorem zfl_X8_182 : zFL RX8 182 17 5 0 := ⟨5, RX1, TX1, 11, rfl, rfl, by decide, rfl, zw_254, zws_X1⟩
theorem zw_258 : Cond.fieldLink RX8 186 "EarlyDrops$Flow" "on" "Z" ∈ zAll := zin 258 (by decide +kernel) (by decide +kernel)
theorem zfl_X8_186 : zFL RX8 186 17 6 0 := ⟨5, RX1, TX1, 11, rfl, rfl, by decide, rfl, zw_258, zws_X1⟩
theorem zw_260 : Cond.fieldLink RX8 189 "EarlyDrops$Flow" "window" "I" ∈ zAll := zin 260 (by decide +kernel) (by decide +kernel)
theorem zfl_X8_189 : zFL RX8 189 17 7 0 := ⟨5, RX1, TX1, 11, rfl, rfl, by decide, rfl, zw_260, zws_X1⟩
theorem zw_263 : Cond.fieldLink RX8 192 "EarlyDrops$Flow" "told" "Z" ∈ zAll := zin 263 (by decide +kernel) (by decide +kernel)
theorem zfl_X8_192 : zFL RX8 192 17 8 0 := ⟨5, RX1, TX1, 11, rfl, rfl, by decide, rfl, zw_263, zws_X1⟩
theorem zw_1361 : Cond.methodLink RX8 195 yX3_packetsOf ∈ zAll := zin 1361 (by decide +kernel) (by decide +kernel)
theorem zw_1364 : Cond.code yX3_packetsOf cX3_packetsOf 4 (some .int) ∈ zAll := zin 1364 (by decide +kernel) (by decide +kernel)
theorem zw_1362 : Cond.instanceMethod yX3_packetsOf ∈ zAll := zin 1362 (by decide +kernel) (by decide +kernel)
theorem zw_1363 : Cond.selects RX3 yX3_packetsOf yX3_packetsOf ∈ zAll := zin 1363 (by decide +kernel) (by decide +kernel)
theorem zcv_X8_flow_X3_packetsOf_195 : zLV Y_X8_flow 195 Y_X3_packetsOf 1 RX3 := ⟨zw_1361, zw_1362, zw_1363, zw_115, zw_1364, by decide +kernel, by decide, by decide⟩
theorem zw_1366 : Cond.methodLink RX8 198 yX1_ticksToSending ∈ zAll := zin 1366 (by decide +kernel) (by decide +kernel)
theorem zw_1369 : Cond.code yX1_ticksToSending cX1_ticksToSending 2 (some .int) ∈ zAll := zin 1369 (by decide +kernel) (by decide +kernel)
theorem zw_1367 : Cond.instanceMethod yX1_ticksToSending ∈ zAll := zin 1367 (by decide +kernel) (by decide +kernel)
theorem zw_1368 : Cond.selects RX1 yX1_ticksToSending yX1_ticksToSending ∈ zAll := zin 1368 (by decide +kernel) (by decide +kernel)
theorem zcv_X8_flow_X1_ticksToSending_198 : zLV Y_X8_flow 198 Y_X1_ticksToSending 1 RX1 := ⟨zw_1366, zw_1367, zw_1368, zw_117, zw_1369, by decide +kernel, by decide, by decide⟩
theorem zw_265 : Cond.fieldLink RX8 201 "EarlyDrops$Flow" "sendings" "I" ∈ zAll := zin 265 (by decide +kernel) (by decide +kernel)
theorem zfl_X8_201 : zFL RX8 201 17 9 0 := ⟨5, RX1, TX1, 11, rfl, rfl, by decide, rfl, zw_265, zws_X1⟩
abbrev Y_X8_letter : zY := (yX8_letter, cX8_letter, 4, (some .int), 9, [])
theorem zcv_X8_letter_X8_flowAt_164 : zLV Y_X8_letter 164 Y_X8_flowAt 1 RX8 := ⟨zw_1341, zw_1343, zw_21, zw_111, zw_1344, by decide +kernel, by decide, by decide⟩
theorem zw_238 : Cond.fieldLink RX8 204 "EarlyDrops$Flow" "name" "Ljava/lang/String;" ∈ zAll := zin 238 (by decide +kernel) (by decide +kernel)
theorem zfl_X8_204 : zFL RX8 204 17 0 2 := ⟨5, RX1, TX1, 11, rfl, rfl, by decide, rfl, zw_238, zws_X1⟩
theorem zw_1377 : Cond.methodLink RX8 208 yJ0_length_8abf5 ∈ zAll := zin 1377 (by decide +kernel) (by decide +kernel)
theorem zcv_X8_letter_J0_length_8abf5_208 : zLV Y_X8_letter 208 Y_J0_length_8abf5 0 RJ0 := ⟨zw_1377, zw_554, zw_555, zw_122, zw_556, by decide +kernel, by decide, by decide⟩
theorem zw_1378 : Cond.methodLink RX8 212 yJ0_charAt_5068e ∈ zAll := zin 1378 (by decide +kernel) (by decide +kernel)
theorem zcv_X8_letter_J0_charAt_5068e_212 : zLV Y_X8_letter 212 Y_J0_charAt_5068e 1 RJ0 := ⟨zw_1378, zw_563, zw_564, zw_122, zw_565, by decide +kernel, by decide, by decide⟩
abbrev Y_X8_meanWait : zY := (yX8_meanWait, cX8_meanWait, 4, (some .double), 9, [])
theorem zcv_X8_meanWait_X8_requireFlowOrNone_224 : zLV Y_X8_meanWait 224 Y_X8_requireFlowOrNone 1 RX8 := ⟨zw_1393, zw_1395, zw_22, zw_111, zw_1396, by decide +kernel, by decide, by decide⟩
theorem zcv_X8_meanWait_X5_total_227 : zLV Y_X8_meanWait 227 Y_X5_total 2 RX5 := ⟨zw_954, zw_955, zw_956, zw_114, zw_957, by decide +kernel, by decide, by decide⟩
abbrev Y_X8_reportByte : zY := (yX8_reportByte, cX8_reportByte, 2, (some .int), 17, [])
theorem zw_489 : Cond.fieldLink RX8 62 "EarlyDrops" "written" "Ljava/lang/StringBuilder;" ∈ zAll := zin 489 (by decide +kernel) (by decide +kernel)
theorem zfl_X8_62 : zFL RX8 62 0 8 1 := ⟨12, RX8, TX8, 9, rfl, rfl, by decide, rfl, zw_489, zws_X8⟩
abbrev Y_J4_length_8abf5 : zY := (yJ4_length_8abf5, cJ4_length_8abf5, 1, (some .int), 16, [])
theorem zw_1295 : Cond.methodLink RX8 322 yJ4_length_8abf5 ∈ zAll := zin 1295 (by decide +kernel) (by decide +kernel)
theorem zw_1135 : Cond.code yJ4_length_8abf5 cJ4_length_8abf5 1 (some .int) ∈ zAll := zin 1135 (by decide +kernel) (by decide +kernel)
theorem zw_1134 : Cond.instanceMethod yJ4_length_8abf5 ∈ zAll := zin 1134 (by decide +kernel) (by decide +kernel)
theorem zw_2245 : Cond.selects RJ4 yJ4_length_8abf5 yJ4_length_8abf5 ∈ zAll := zin 2245 (by decide +kernel) (by decide +kernel)
theorem zw_121 : Cond.initialized RJ4 ∈ zAll := zin 121 (by decide +kernel) (by decide +kernel)
theorem zcv_X8_reportByte_J4_length_8abf5_322 : zLV Y_X8_reportByte 322 Y_J4_length_8abf5 0 RJ4 := ⟨zw_1295, zw_1134, zw_2245, zw_121, zw_1135, by decide +kernel, by decide, by decide⟩
abbrev Y_J4_charAt_5068e : zY := (yJ4_charAt_5068e, cJ4_charAt_5068e, 2, (some .char), 16, [])
theorem zw_1300 : Cond.methodLink RX8 323 yJ4_charAt_5068e ∈ zAll := zin 1300 (by decide +kernel) (by decide +kernel)
theorem zw_1303 : Cond.code yJ4_charAt_5068e cJ4_charAt_5068e 2 (some .char) ∈ zAll := zin 1303 (by decide +kernel) (by decide +kernel)
theorem zw_1301 : Cond.instanceMethod yJ4_charAt_5068e ∈ zAll := zin 1301 (by decide +kernel) (by decide +kernel)
theorem zw_1302 : Cond.selects RJ4 yJ4_charAt_5068e yJ4_charAt_5068e ∈ zAll := zin 1302 (by decide +kernel) (by decide +kernel)
theorem zcv_X8_reportByte_J4_charAt_5068e_323 : zLV Y_X8_reportByte 323 Y_J4_charAt_5068e 1 RJ4 := ⟨zw_1300, zw_1301, zw_1302, zw_121, zw_1303, by decide +kernel, by decide, by decide⟩
abbrev Y_X8_writeFlow : zY := (yX8_writeFlow, cX8_writeFlow, 2, none, 17, [])
abbrev Y_J4_append_15ec4 : zY := (yJ4_append_15ec4, cJ4_append_15ec4, 2, (some (.object "java/lang/StringBuilder")), 16, [])
theorem zw_1279 : Cond.methodLink RX8 342 yJ4_append_15ec4 ∈ zAll := zin 1279 (by decide +kernel) (by decide +kernel)
theorem zw_1009 : Cond.code yJ4_append_15ec4 cJ4_append_15ec4 2 (some (.object "java/lang/StringBuilder")) ∈ zAll := zin 1009 (by decide +kernel) (by decide +kernel)
theorem zw_1007 : Cond.instanceMethod yJ4_append_15ec4 ∈ zAll := zin 1007 (by decide +kernel) (by decide +kernel)
theorem zw_1008 : Cond.selects RJ4 yJ4_append_15ec4 yJ4_append_15ec4 ∈ zAll := zin 1008 (by decide +kernel) (by decide +kernel)
theorem zcv_X8_writeFlow_J4_append_15ec4_342 : zLV Y_X8_writeFlow 342 Y_J4_append_15ec4 1 RJ4 := ⟨zw_1279, zw_1007, zw_1008, zw_121, zw_1009, by decide +kernel, by decide, by decide⟩
abbrev Y_J4_append_cf468 : zY := (yJ4_append_cf468, cJ4_append_cf468, 2, (some (.object "java/lang/StringBuilder")), 16, [])
theorem zw_1280 : Cond.methodLink RX8 315 yJ4_append_cf468 ∈ zAll := zin 1280 (by decide +kernel) (by decide +kernel)
theorem zw_1283 : Cond.code yJ4_append_cf468 cJ4_append_cf468 2 (some (.object "java/lang/StringBuilder")) ∈ zAll := zin 1283 (by decide +kernel) (by decide +kernel)
theorem zw_1281 : Cond.instanceMethod yJ4_append_cf468 ∈ zAll := zin 1281 (by decide +kernel) (by decide +kernel)
theorem zw_1282 : Cond.selects RJ4 yJ4_append_cf468 yJ4_append_cf468 ∈ zAll := zin 1282 (by decide +kernel) (by decide +kernel)
theorem zcv_X8_writeFlow_J4_append_cf468_315 : zLV Y_X8_writeFlow 315 Y_J4_append_cf468 1 RJ4 := ⟨zw_1280, zw_1281, zw_1282, zw_121, zw_1283, by decide +kernel, by decide, by decide⟩
theorem zw_268 : Cond.fieldLink RX8 345 "EarlyDrops$Flow" "accounts" "[J" ∈ zAll := zin 268 (by decide +kernel) (by decide +kernel)
theorem zfl_X8_345 : zFL RX8 345 17 10 1 := ⟨5, RX1, TX1, 11, rfl, rfl, by decide, rfl, zw_268, zws_X1⟩
abbrev Y_J4_append_bf812 : zY := (yJ4_append_bf812, cJ4_append_bf812, 2, (some (.object "java/lang/StringBuilder")), 16, [])
theorem zw_1293 : Cond.methodLink RX8 319 yJ4_append_bf812 ∈ zAll := zin 1293 (by decide +kernel) (by decide +kernel)
theorem zw_1092 : Cond.code yJ4_append_bf812 cJ4_append_bf812 2 (some (.object "java/lang/StringBuilder")) ∈ zAll := zin 1092 (by decide +kernel) (by decide +kernel)
theorem zw_1090 : Cond.instanceMethod yJ4_append_bf812 ∈ zAll := zin 1090 (by decide +kernel) (by decide +kernel)
theorem zw_1091 : Cond.selects RJ4 yJ4_append_bf812 yJ4_append_bf812 ∈ zAll := zin 1091 (by decide +kernel) (by decide +kernel)
theorem zcv_X8_writeFlow_J4_append_bf812_319 : zLV Y_X8_writeFlow 319 Y_J4_append_bf812 1 RJ4 := ⟨zw_1293, zw_1090, zw_1091, zw_121, zw_1092, by decide +kernel, by decide, by decide⟩
abbrev Y_X8_report : zY := (yX8_report, cX8_report, 2, (some .int), 18, [])
abbrev Y_J4_setLength_d00df : zY := (yJ4_setLength_d00df, cJ4_setLength_d00df, 2, none, 16, [])
theorem zw_991 : Cond.methodLink RX8 308 yJ4_setLength_d00df ∈ zAll := zin 991 (by decide +kernel) (by decide +kernel)
theorem zw_994 : Cond.code yJ4_setLength_d00df cJ4_setLength_d00df 2 none ∈ zAll := zin 994 (by decide +kernel) (by decide +kernel)
theorem zw_992 : Cond.instanceMethod yJ4_setLength_d00df ∈ zAll := zin 992 (by decide +kernel) (by decide +kernel)
theorem zw_993 : Cond.selects RJ4 yJ4_setLength_d00df yJ4_setLength_d00df ∈ zAll := zin 993 (by decide +kernel) (by decide +kernel)
theorem zcv_X8_report_J4_setLength_d00df_308 : zLV Y_X8_report 308 Y_J4_setLength_d00df 1 RJ4 := ⟨zw_991, zw_992, zw_993, zw_121, zw_994, by decide +kernel, by decide, by decide⟩
theorem zw_1275 : Cond.methodLink RX8 311 yX8_writeFlow ∈ zAll := zin 1275 (by decide +kernel) (by decide +kernel)
theorem zw_1278 : Cond.code yX8_writeFlow cX8_writeFlow 2 none ∈ zAll := zin 1278 (by decide +kernel) (by decide +kernel)
theorem zw_1277 : Cond.instanceMethod yX8_writeFlow ∈ zAll := zin 1277 (by decide +kernel) (by decide +kernel)
theorem zw_20 : Cond.selects RX8 yX8_writeFlow yX8_writeFlow ∈ zAll := zin 20 (by decide +kernel) (by decide +kernel)
theorem zcv_X8_report_X8_writeFlow_311 : zLV Y_X8_report 311 Y_X8_writeFlow 1 RX8 := ⟨zw_1275, zw_1277, zw_20, zw_111, zw_1278, by decide +kernel, by decide, by decide⟩
theorem zcv_X8_report_J4_append_cf468_315 : zLV Y_X8_report 315 Y_J4_append_cf468 1 RJ4 := ⟨zw_1280, zw_1281, zw_1282, zw_121, zw_1283, by decide +kernel, by decide, by decide⟩
theorem zcv_X8_report_J4_length_8abf5_322 : zLV Y_X8_report 322 Y_J4_length_8abf5 0 RJ4 := ⟨zw_1295, zw_1134, zw_2245, zw_121, zw_1135, by decide +kernel, by decide, by decide⟩
theorem zcv_X8_report_X3_cell_220 : zLV Y_X8_report 220 Y_X3_cell 2 RX3 := ⟨zw_1294, zw_886, zw_887, zw_115, zw_888, by decide +kernel, by decide, by decide⟩
theorem zcv_X8_report_J4_append_bf812_319 : zLV Y_X8_report 319 Y_J4_append_bf812 1 RJ4 := ⟨zw_1293, zw_1090, zw_1091, zw_121, zw_1092, by decide +kernel, by decide, by decide⟩
abbrev Y_X8_setGentle : zY := (yX8_setGentle, cX8_setGentle, 2, (some .int), 18, [])
theorem zcs_X8_setGentle_X8_requireWithin_110 : zLS Y_X8_setGentle 110 Y_X8_requireWithin 3 := ⟨zw_1326, zw_1327, zw_111, zw_1328, by decide +kernel, by decide, by decide⟩
theorem zw_791 : Cond.methodLink RX8 100 yX2_keep ∈ zAll := zin 791 (by decide +kernel) (by decide +kernel)
theorem zw_794 : Cond.code yX2_keep cX2_keep 2 none ∈ zAll := zin 794 (by decide +kernel) (by decide +kernel)
theorem zw_792 : Cond.instanceMethod yX2_keep ∈ zAll := zin 792 (by decide +kernel) (by decide +kernel)
theorem zw_793 : Cond.selects RX2 yX2_keep yX2_keep ∈ zAll := zin 793 (by decide +kernel) (by decide +kernel)
theorem zcv_X8_setGentle_X2_keep_100 : zLV Y_X8_setGentle 100 Y_X2_keep 1 RX2 := ⟨zw_791, zw_792, zw_793, zw_119, zw_794, by decide +kernel, by decide, by decide⟩
theorem zw_1561 : Cond.methodLink RX8 301 yX5_changeGentle ∈ zAll := zin 1561 (by decide +kernel) (by decide +kernel)
theorem zcv_X8_setGentle_X5_changeGentle_301 : zLV Y_X8_setGentle 301 Y_X5_changeGentle 1 RX5 := ⟨zw_1561, zw_918, zw_919, zw_114, zw_920, by decide +kernel, by decide, by decide⟩
abbrev Y_X8_setLimits : zY := (yX8_setLimits, cX8_setLimits, 3, (some .int), 18, [])
theorem zcs_X8_setLimits_X8_requireWithin_110 : zLS Y_X8_setLimits 110 Y_X8_requireWithin 3 := ⟨zw_1326, zw_1327, zw_111, zw_1328, by decide +kernel, by decide, by decide⟩
theorem zcv_X8_setLimits_X2_keep_100 : zLV Y_X8_setLimits 100 Y_X2_keep 1 RX2 := ⟨zw_791, zw_792, zw_793, zw_119, zw_794, by decide +kernel, by decide, by decide⟩
theorem zw_1537 : Cond.methodLink RX8 292 yX5_changeLimits ∈ zAll := zin 1537 (by decide +kernel) (by decide +kernel)
theorem zcv_X8_setLimits_X5_changeLimits_292 : zLV Y_X8_setLimits 292 Y_X5_changeLimits 2 RX5 := ⟨zw_1537, zw_906, zw_907, zw_114, zw_908, by decide +kernel, by decide, by decide⟩
abbrev Y_X8_setOn : zY := (yX8_setOn, cX8_setOn, 3, (some .int), 18, [])
theorem zcv_X8_setOn_X8_flowAt_164 : zLV Y_X8_setOn 164 Y_X8_flowAt 1 RX8 := ⟨zw_1341, zw_1343, zw_21, zw_111, zw_1344, by decide +kernel, by decide, by decide⟩
theorem zcv_X8_setOn_X2_keep_100 : zLV Y_X8_setOn 100 Y_X2_keep 1 RX2 := ⟨zw_791, zw_792, zw_793, zw_119, zw_794, by decide +kernel, by decide, by decide⟩
theorem zw_1569 : Cond.methodLink RX8 304 yX5_changeOn ∈ zAll := zin 1569 (by decide +kernel) (by decide +kernel)
theorem zcv_X8_setOn_X5_changeOn_304 : zLV Y_X8_setOn 304 Y_X5_changeOn 2 RX5 := ⟨zw_1569, zw_922, zw_923, zw_114, zw_924, by decide +kernel, by decide, by decide⟩
abbrev Y_X8_setTop : zY := (yX8_setTop, cX8_setTop, 2, (some .int), 18, [])
theorem zcs_X8_setTop_X8_requireWithin_110 : zLS Y_X8_setTop 110 Y_X8_requireWithin 3 := ⟨zw_1326, zw_1327, zw_111, zw_1328, by decide +kernel, by decide, by decide⟩
theorem zcv_X8_setTop_X2_keep_100 : zLV Y_X8_setTop 100 Y_X2_keep 1 RX2 := ⟨zw_791, zw_792, zw_793, zw_119, zw_794, by decide +kernel, by decide, by decide⟩
theorem zw_1545 : Cond.methodLink RX8 295 yX5_changeTop ∈ zAll := zin 1545 (by decide +kernel) (by decide +kernel)
theorem zcv_X8_setTop_X5_changeTop_295 : zLV Y_X8_setTop 295 Y_X5_changeTop 1 RX5 := ⟨zw_1545, zw_910, zw_911, zw_114, zw_912, by decide +kernel, by decide, by decide⟩
abbrev Y_X8_setWeight : zY := (yX8_setWeight, cX8_setWeight, 2, (some .int), 18, [])
theorem zcs_X8_setWeight_X8_requireWithin_110 : zLS Y_X8_setWeight 110 Y_X8_requireWithin 3 := ⟨zw_1326, zw_1327, zw_111, zw_1328, by decide +kernel, by decide, by decide⟩
theorem zcv_X8_setWeight_X2_keep_100 : zLV Y_X8_setWeight 100 Y_X2_keep 1 RX2 := ⟨zw_791, zw_792, zw_793, zw_119, zw_794, by decide +kernel, by decide, by decide⟩
theorem zw_1553 : Cond.methodLink RX8 298 yX5_changeWeight ∈ zAll := zin 1553 (by decide +kernel) (by decide +kernel)
theorem zcv_X8_setWeight_X5_changeWeight_298 : zLV Y_X8_setWeight 298 Y_X5_changeWeight 1 RX5 := ⟨zw_1553, zw_914, zw_915, zw_114, zw_916, by decide +kernel, by decide, by decide⟩
abbrev Y_X8_dropIn : zY := (yX8_dropIn, cX8_dropIn, 4, (some .int), 20, [])
theorem zw_485 : Cond.fieldLink RX8 41 "EarlyDrops" "ahead" "LEarlyDrops$Router;" ∈ zAll := zin 485 (by decide +kernel) (by decide +kernel)
theorem zfl_X8_41 : zFL RX8 41 0 4 1 := ⟨12, RX8, TX8, 9, rfl, rfl, by decide, rfl, zw_485, zws_X8⟩
theorem zcv_X8_dropIn_X5_copyFrom_89 : zLV Y_X8_dropIn 89 Y_X5_copyFrom 1 RX5 := ⟨zw_717, zw_718, zw_719, zw_114, zw_720, by decide +kernel, by decide, by decide⟩
theorem zcv_X8_dropIn_X5_dropped_238 : zLV Y_X8_dropIn 238 Y_X5_dropped 0 RX5 := ⟨zw_958, zw_959, zw_960, zw_114, zw_961, by decide +kernel, by decide, by decide⟩
theorem zw_986 : Cond.methodLink RX8 269 yX5_passTick ∈ zAll := zin 986 (by decide +kernel) (by decide +kernel)
theorem zcv_X8_dropIn_X5_passTick_269 : zLV Y_X8_dropIn 269 Y_X5_passTick 0 RX5 := ⟨zw_986, zw_817, zw_818, zw_114, zw_819, by decide +kernel, by decide, by decide⟩
theorem dX8_size_0 : decode cX8_size 0 = .ok (.iload_n 1, 1) := by decide +kernel
theorem dX8_size_1 : decode cX8_size 1 = .ok (.iconst 0, 1) := by decide +kernel
theorem dX8_size_2 : decode cX8_size 2 = .ok (.bipush 14, 2) := by decide +kernel
theorem dX8_size_4 : decode cX8_size 4 = .ok (.invokestatic 110, 3) := by decide +kernel
theorem dX8_size_7 : decode cX8_size 7 = .ok (.iload_n 1, 1) := by decide +kernel
theorem dX8_size_8 : decode cX8_size 8 = .ok (.tableswitch 190 0 13 #[72, 80, 88, 96, 104, 112, 120, 128, 136, 147, 155, 163, 171, 179], 72) := by decide +kernel
theorem dX8_size_80 : decode cX8_size 80 = .ok (.aload_n 0, 1) := by decide +kernel
theorem dX8_size_81 : decode cX8_size 81 = .ok (.getfield 28, 3) := by decide +kernel
theorem dX8_size_84 : decode cX8_size 84 = .ok (.getfield 114, 3) := by decide +kernel
theorem dX8_size_87 : decode cX8_size 87 = .ok (.ireturn, 1) := by decide +kernel
theorem dX8_size_88 : decode cX8_size 88 = .ok (.aload_n 0, 1) := by decide +kernel
theorem dX8_size_89 : decode cX8_size 89 = .ok (.getfield 28, 3) := by decide +kernel
theorem dX8_size_92 : decode cX8_size 92 = .ok (.getfield 117, 3) := by decide +kernel
theorem dX8_size_95 : decode cX8_size 95 = .ok (.ireturn, 1) := by decide +kernel
theorem dX8_size_96 : decode cX8_size 96 = .ok (.aload_n 0, 1) := by decide +kernel
theorem dX8_size_97 : decode cX8_size 97 = .ok (.getfield 28, 3) := by decide +kernel
theorem dX8_size_100 : decode cX8_size 100 = .ok (.getfield 120, 3) := by decide +kernel
theorem dX8_size_103 : decode cX8_size 103 = .ok (.ireturn, 1) := by decide +kernel
theorem dX8_size_104 : decode cX8_size 104 = .ok (.aload_n 0, 1) := by decide +kernel
theorem dX8_size_105 : decode cX8_size 105 = .ok (.getfield 28, 3) := by decide +kernel
theorem dX8_size_108 : decode cX8_size 108 = .ok (.getfield 123, 3) := by decide +kernel
theorem dX8_size_111 : decode cX8_size 111 = .ok (.ireturn, 1) := by decide +kernel
theorem dX8_size_112 : decode cX8_size 112 = .ok (.aload_n 0, 1) := by decide +kernel
theorem dX8_size_113 : decode cX8_size 113 = .ok (.getfield 28, 3) := by decide +kernel
theorem dX8_size_116 : decode cX8_size 116 = .ok (.getfield 126, 3) := by decide +kernel
theorem dX8_size_119 : decode cX8_size 119 = .ok (.ireturn, 1) := by decide +kernel
theorem dX8_size_120 : decode cX8_size 120 = .ok (.aload_n 0, 1) := by decide +kernel
theorem dX8_size_121 : decode cX8_size 121 = .ok (.getfield 28, 3) := by decide +kernel
theorem dX8_size_124 : decode cX8_size 124 = .ok (.getfield 129, 3) := by decide +kernel
theorem dX8_size_127 : decode cX8_size 127 = .ok (.ireturn, 1) := by decide +kernel
theorem dX8_size_128 : decode cX8_size 128 = .ok (.aload_n 0, 1) := by decide +kernel
theorem dX8_size_129 : decode cX8_size 129 = .ok (.getfield 28, 3) := by decide +kernel
theorem dX8_size_132 : decode cX8_size 132 = .ok (.getfield 132, 3) := by decide +kernel
theorem dX8_size_135 : decode cX8_size 135 = .ok (.ireturn, 1) := by decide +kernel
theorem dX8_size_136 : decode cX8_size 136 = .ok (.aload_n 0, 1) := by decide +kernel
theorem dX8_size_137 : decode cX8_size 137 = .ok (.getfield 28, 3) := by decide +kernel
theorem dX8_size_140 : decode cX8_size 140 = .ok (.getfield 135, 3) := by decide +kernel
theorem dX8_size_143 : decode cX8_size 143 = .ok (.ireturn, 1) := by decide +kernel
theorem dX8_size_144 : decode cX8_size 144 = .ok (.aload_n 0, 1) := by decide +kernel
theorem dX8_size_145 : decode cX8_size 145 = .ok (.getfield 28, 3) := by decide +kernel
theorem dX8_size_148 : decode cX8_size 148 = .ok (.getfield 138, 3) := by decide +kernel
theorem dX8_size_151 : decode cX8_size 151 = .ok (.getfield 142, 3) := by decide +kernel
theorem dX8_size_154 : decode cX8_size 154 = .ok (.ireturn, 1) := by decide +kernel
theorem dX8_size_155 : decode cX8_size 155 = .ok (.aload_n 0, 1) := by decide +kernel
theorem dX8_size_156 : decode cX8_size 156 = .ok (.getfield 28, 3) := by decide +kernel
theorem dX8_size_159 : decode cX8_size 159 = .ok (.getfield 145, 3) := by decide +kernel
theorem dX8_size_162 : decode cX8_size 162 = .ok (.ireturn, 1) := by decide +kernel
theorem dX8_size_163 : decode cX8_size 163 = .ok (.aload_n 0, 1) := by decide +kernel
theorem dX8_size_164 : decode cX8_size 164 = .ok (.getfield 28, 3) := by decide +kernel
theorem dX8_size_167 : decode cX8_size 167 = .ok (.getfield 148, 3) := by decide +kernel
theorem dX8_size_170 : decode cX8_size 170 = .ok (.ireturn, 1) := by decide +kernel
theorem dX8_size_171 : decode cX8_size 171 = .ok (.aload_n 0, 1) := by decide +kernel
theorem dX8_size_172 : decode cX8_size 172 = .ok (.getfield 28, 3) := by decide +kernel
theorem dX8_size_175 : decode cX8_size 175 = .ok (.getfield 96, 3) := by decide +kernel
theorem dX8_size_178 : decode cX8_size 178 = .ok (.ireturn, 1) := by decide +kernel
theorem dX8_size_179 : decode cX8_size 179 = .ok (.aload_n 0, 1) := by decide +kernel
theorem dX8_size_180 : decode cX8_size 180 = .ok (.getfield 28, 3) := by decide +kernel
theorem dX8_size_183 : decode cX8_size 183 = .ok (.invokevirtual 151, 3) := by decide +kernel
theorem dX8_size_186 : decode cX8_size 186 = .ok (.ireturn, 1) := by decide +kernel
theorem dX8_size_187 : decode cX8_size 187 = .ok (.aload_n 0, 1) := by decide +kernel
theorem dX8_size_188 : decode cX8_size 188 = .ok (.getfield 28, 3) := by decide +kernel
theorem dX8_size_191 : decode cX8_size 191 = .ok (.getfield 154, 3) := by decide +kernel
theorem dX8_size_194 : decode cX8_size 194 = .ok (.getfield 158, 3) := by decide +kernel
theorem dX8_size_197 : decode cX8_size 197 = .ok (.ireturn, 1) := by decide +kernel
theorem dX8_size_198 : decode cX8_size 198 = .ok (.aload_n 0, 1) := by decide +kernel
theorem dX8_size_199 : decode cX8_size 199 = .ok (.getfield 47, 3) := by decide +kernel
theorem dX8_size_202 : decode cX8_size 202 = .ok (.getfield 163, 3) := by decide +kernel
theorem dX8_size_205 : decode cX8_size 205 = .ok (.ireturn, 1) := by decide +kernel
theorem dX8_flow_0 : decode cX8_flow 0 = .ok (.aload_n 0, 1) := by decide +kernel
theorem dX8_flow_1 : decode cX8_flow 1 = .ok (.iload_n 1, 1) := by decide +kernel
theorem dX8_flow_2 : decode cX8_flow 2 = .ok (.invokevirtual 164, 3) := by decide +kernel
theorem dX8_flow_5 : decode cX8_flow 5 = .ok (.astore_n 3, 1) := by decide +kernel
theorem dX8_flow_6 : decode cX8_flow 6 = .ok (.iload_n 2, 1) := by decide +kernel
theorem dX8_flow_7 : decode cX8_flow 7 = .ok (.iconst 0, 1) := by decide +kernel
theorem dX8_flow_8 : decode cX8_flow 8 = .ok (.bipush 10, 2) := by decide +kernel
theorem dX8_flow_10 : decode cX8_flow 10 = .ok (.invokestatic 110, 3) := by decide +kernel
theorem dX8_flow_13 : decode cX8_flow 13 = .ok (.iload_n 2, 1) := by decide +kernel
theorem dX8_flow_14 : decode cX8_flow 14 = .ok (.tableswitch 142 0 9 #[54, 59, 64, 69, 74, 87, 100, 105, 118, 130], 54) := by decide +kernel
theorem dX8_flow_68 : decode cX8_flow 68 = .ok (.aload_n 3, 1) := by decide +kernel
theorem dX8_flow_69 : decode cX8_flow 69 = .ok (.getfield 168, 3) := by decide +kernel
theorem dX8_flow_72 : decode cX8_flow 72 = .ok (.ireturn, 1) := by decide +kernel
theorem dX8_flow_73 : decode cX8_flow 73 = .ok (.aload_n 3, 1) := by decide +kernel
theorem dX8_flow_74 : decode cX8_flow 74 = .ok (.getfield 173, 3) := by decide +kernel
theorem dX8_flow_77 : decode cX8_flow 77 = .ok (.ireturn, 1) := by decide +kernel
theorem dX8_flow_78 : decode cX8_flow 78 = .ok (.aload_n 3, 1) := by decide +kernel
theorem dX8_flow_79 : decode cX8_flow 79 = .ok (.getfield 176, 3) := by decide +kernel
theorem dX8_flow_82 : decode cX8_flow 82 = .ok (.ireturn, 1) := by decide +kernel
theorem dX8_flow_83 : decode cX8_flow 83 = .ok (.aload_n 3, 1) := by decide +kernel
theorem dX8_flow_84 : decode cX8_flow 84 = .ok (.getfield 179, 3) := by decide +kernel
theorem dX8_flow_87 : decode cX8_flow 87 = .ok (.ireturn, 1) := by decide +kernel
theorem dX8_flow_88 : decode cX8_flow 88 = .ok (.aload_n 3, 1) := by decide +kernel
theorem dX8_flow_89 : decode cX8_flow 89 = .ok (.getfield 182, 3) := by decide +kernel
theorem dX8_flow_92 : decode cX8_flow 92 = .ok (.ifCond .eq 7, 3) := by decide +kernel
theorem dX8_flow_95 : decode cX8_flow 95 = .ok (.iconst 1, 1) := by decide +kernel
theorem dX8_flow_96 : decode cX8_flow 96 = .ok (.goto 4, 3) := by decide +kernel
theorem dX8_flow_99 : decode cX8_flow 99 = .ok (.iconst 0, 1) := by decide +kernel
theorem dX8_flow_100 : decode cX8_flow 100 = .ok (.ireturn, 1) := by decide +kernel
theorem dX8_flow_101 : decode cX8_flow 101 = .ok (.aload_n 3, 1) := by decide +kernel
theorem dX8_flow_102 : decode cX8_flow 102 = .ok (.getfield 186, 3) := by decide +kernel
theorem dX8_flow_105 : decode cX8_flow 105 = .ok (.ifCond .eq 7, 3) := by decide +kernel
theorem dX8_flow_108 : decode cX8_flow 108 = .ok (.iconst 1, 1) := by decide +kernel
theorem dX8_flow_109 : decode cX8_flow 109 = .ok (.goto 4, 3) := by decide +kernel
theorem dX8_flow_112 : decode cX8_flow 112 = .ok (.iconst 0, 1) := by decide +kernel
theorem dX8_flow_113 : decode cX8_flow 113 = .ok (.ireturn, 1) := by decide +kernel
theorem dX8_flow_114 : decode cX8_flow 114 = .ok (.aload_n 3, 1) := by decide +kernel
theorem dX8_flow_115 : decode cX8_flow 115 = .ok (.getfield 189, 3) := by decide +kernel
theorem dX8_flow_118 : decode cX8_flow 118 = .ok (.ireturn, 1) := by decide +kernel
theorem dX8_flow_119 : decode cX8_flow 119 = .ok (.aload_n 3, 1) := by decide +kernel
theorem dX8_flow_120 : decode cX8_flow 120 = .ok (.getfield 192, 3) := by decide +kernel
theorem dX8_flow_123 : decode cX8_flow 123 = .ok (.ifCond .eq 7, 3) := by decide +kernel
theorem dX8_flow_126 : decode cX8_flow 126 = .ok (.iconst 1, 1) := by decide +kernel
theorem dX8_flow_127 : decode cX8_flow 127 = .ok (.goto 4, 3) := by decide +kernel
theorem dX8_flow_130 : decode cX8_flow 130 = .ok (.iconst 0, 1) := by decide +kernel
theorem dX8_flow_131 : decode cX8_flow 131 = .ok (.ireturn, 1) := by decide +kernel
theorem dX8_flow_132 : decode cX8_flow 132 = .ok (.aload_n 0, 1) := by decide +kernel
theorem dX8_flow_133 : decode cX8_flow 133 = .ok (.getfield 28, 3) := by decide +kernel
theorem dX8_flow_136 : decode cX8_flow 136 = .ok (.getfield 138, 3) := by decide +kernel
theorem dX8_flow_139 : decode cX8_flow 139 = .ok (.iload_n 1, 1) := by decide +kernel
theorem dX8_flow_140 : decode cX8_flow 140 = .ok (.invokevirtual 195, 3) := by decide +kernel
theorem dX8_flow_143 : decode cX8_flow 143 = .ok (.ireturn, 1) := by decide +kernel
theorem dX8_flow_144 : decode cX8_flow 144 = .ok (.aload_n 3, 1) := by decide +kernel
theorem dX8_flow_145 : decode cX8_flow 145 = .ok (.aload_n 0, 1) := by decide +kernel
theorem dX8_flow_146 : decode cX8_flow 146 = .ok (.getfield 28, 3) := by decide +kernel
theorem dX8_flow_149 : decode cX8_flow 149 = .ok (.getfield 135, 3) := by decide +kernel
theorem dX8_flow_152 : decode cX8_flow 152 = .ok (.invokevirtual 198, 3) := by decide +kernel
theorem dX8_flow_155 : decode cX8_flow 155 = .ok (.ireturn, 1) := by decide +kernel
theorem dX8_flow_156 : decode cX8_flow 156 = .ok (.aload_n 3, 1) := by decide +kernel
theorem dX8_flow_157 : decode cX8_flow 157 = .ok (.getfield 201, 3) := by decide +kernel
theorem dX8_flow_160 : decode cX8_flow 160 = .ok (.ireturn, 1) := by decide +kernel
theorem dX8_letter_0 : decode cX8_letter 0 = .ok (.aload_n 0, 1) := by decide +kernel
theorem dX8_letter_1 : decode cX8_letter 1 = .ok (.iload_n 1, 1) := by decide +kernel
theorem dX8_letter_2 : decode cX8_letter 2 = .ok (.invokevirtual 164, 3) := by decide +kernel
theorem dX8_letter_5 : decode cX8_letter 5 = .ok (.getfield 204, 3) := by decide +kernel
theorem dX8_letter_8 : decode cX8_letter 8 = .ok (.astore_n 3, 1) := by decide +kernel
theorem dX8_letter_9 : decode cX8_letter 9 = .ok (.iload_n 2, 1) := by decide +kernel
theorem dX8_letter_10 : decode cX8_letter 10 = .ok (.ifCond .lt 19, 3) := by decide +kernel
theorem dX8_letter_13 : decode cX8_letter 13 = .ok (.iload_n 2, 1) := by decide +kernel
theorem dX8_letter_14 : decode cX8_letter 14 = .ok (.aload_n 3, 1) := by decide +kernel
theorem dX8_letter_15 : decode cX8_letter 15 = .ok (.invokevirtual 208, 3) := by decide +kernel
theorem dX8_letter_18 : decode cX8_letter 18 = .ok (.if_icmp .ge 11, 3) := by decide +kernel
theorem dX8_letter_21 : decode cX8_letter 21 = .ok (.aload_n 3, 1) := by decide +kernel
theorem dX8_letter_22 : decode cX8_letter 22 = .ok (.iload_n 2, 1) := by decide +kernel
theorem dX8_letter_23 : decode cX8_letter 23 = .ok (.invokevirtual 212, 3) := by decide +kernel
theorem dX8_letter_26 : decode cX8_letter 26 = .ok (.goto 4, 3) := by decide +kernel
theorem dX8_letter_29 : decode cX8_letter 29 = .ok (.iconst (-1), 1) := by decide +kernel
theorem dX8_letter_30 : decode cX8_letter 30 = .ok (.ireturn, 1) := by decide +kernel
theorem dX8_account_0 : decode cX8_account 0 = .ok (.aload_n 0, 1) := by decide +kernel
theorem dX8_account_1 : decode cX8_account 1 = .ok (.iload_n 1, 1) := by decide +kernel
theorem dX8_account_2 : decode cX8_account 2 = .ok (.invokevirtual 224, 3) := by decide +kernel
theorem dX8_account_5 : decode cX8_account 5 = .ok (.iload_n 2, 1) := by decide +kernel
theorem dX8_account_6 : decode cX8_account 6 = .ok (.iconst 0, 1) := by decide +kernel
theorem dX8_account_7 : decode cX8_account 7 = .ok (.bipush 7, 2) := by decide +kernel
theorem dX8_account_9 : decode cX8_account 9 = .ok (.invokestatic 110, 3) := by decide +kernel
theorem dX8_account_12 : decode cX8_account 12 = .ok (.aload_n 0, 1) := by decide +kernel
theorem dX8_account_13 : decode cX8_account 13 = .ok (.getfield 28, 3) := by decide +kernel
theorem dX8_account_16 : decode cX8_account 16 = .ok (.iload_n 1, 1) := by decide +kernel
theorem dX8_account_17 : decode cX8_account 17 = .ok (.iload_n 2, 1) := by decide +kernel
theorem dX8_account_18 : decode cX8_account 18 = .ok (.invokevirtual 227, 3) := by decide +kernel
theorem dX8_account_21 : decode cX8_account 21 = .ok (.lreturn, 1) := by decide +kernel
theorem dX8_meanWait_0 : decode cX8_meanWait 0 = .ok (.aload_n 0, 1) := by decide +kernel
theorem dX8_meanWait_1 : decode cX8_meanWait 1 = .ok (.iload_n 1, 1) := by decide +kernel
theorem dX8_meanWait_2 : decode cX8_meanWait 2 = .ok (.invokevirtual 224, 3) := by decide +kernel
theorem dX8_meanWait_5 : decode cX8_meanWait 5 = .ok (.aload_n 0, 1) := by decide +kernel
theorem dX8_meanWait_6 : decode cX8_meanWait 6 = .ok (.getfield 28, 3) := by decide +kernel
theorem dX8_meanWait_9 : decode cX8_meanWait 9 = .ok (.iload_n 1, 1) := by decide +kernel
theorem dX8_meanWait_10 : decode cX8_meanWait 10 = .ok (.iconst 5, 1) := by decide +kernel
theorem dX8_meanWait_11 : decode cX8_meanWait 11 = .ok (.invokevirtual 227, 3) := by decide +kernel
theorem dX8_meanWait_14 : decode cX8_meanWait 14 = .ok (.lstore_n 2, 1) := by decide +kernel
theorem dX8_meanWait_15 : decode cX8_meanWait 15 = .ok (.lload_n 2, 1) := by decide +kernel
theorem dX8_meanWait_16 : decode cX8_meanWait 16 = .ok (.lconst 0, 1) := by decide +kernel
theorem dX8_meanWait_17 : decode cX8_meanWait 17 = .ok (.lcmp, 1) := by decide +kernel
theorem dX8_meanWait_18 : decode cX8_meanWait 18 = .ok (.ifCond .le 20, 3) := by decide +kernel
theorem dX8_meanWait_21 : decode cX8_meanWait 21 = .ok (.aload_n 0, 1) := by decide +kernel
theorem dX8_meanWait_22 : decode cX8_meanWait 22 = .ok (.getfield 28, 3) := by decide +kernel
theorem dX8_meanWait_25 : decode cX8_meanWait 25 = .ok (.iload_n 1, 1) := by decide +kernel
theorem dX8_meanWait_26 : decode cX8_meanWait 26 = .ok (.bipush 7, 2) := by decide +kernel
theorem dX8_meanWait_28 : decode cX8_meanWait 28 = .ok (.invokevirtual 227, 3) := by decide +kernel
theorem dX8_meanWait_31 : decode cX8_meanWait 31 = .ok (.l2d, 1) := by decide +kernel
theorem dX8_meanWait_32 : decode cX8_meanWait 32 = .ok (.lload_n 2, 1) := by decide +kernel
theorem dX8_meanWait_33 : decode cX8_meanWait 33 = .ok (.l2d, 1) := by decide +kernel
theorem dX8_meanWait_34 : decode cX8_meanWait 34 = .ok (.ddiv, 1) := by decide +kernel
theorem dX8_meanWait_35 : decode cX8_meanWait 35 = .ok (.goto 4, 3) := by decide +kernel
theorem dX8_meanWait_38 : decode cX8_meanWait 38 = .ok (.dconst 0, 1) := by decide +kernel
theorem dX8_meanWait_39 : decode cX8_meanWait 39 = .ok (.dreturn, 1) := by decide +kernel
theorem dX8_sureBurst_0 : decode cX8_sureBurst 0 = .ok (.iload_n 1, 1) := by decide +kernel
theorem dX8_sureBurst_1 : decode cX8_sureBurst 1 = .ok (.iconst 1, 1) := by decide +kernel
theorem dX8_sureBurst_2 : decode cX8_sureBurst 2 = .ok (.bipush 100, 2) := by decide +kernel
theorem dX8_sureBurst_4 : decode cX8_sureBurst 4 = .ok (.invokestatic 110, 3) := by decide +kernel
theorem dX8_sureBurst_7 : decode cX8_sureBurst 7 = .ok (.iload_n 1, 1) := by decide +kernel
theorem dX8_sureBurst_8 : decode cX8_sureBurst 8 = .ok (.i2d, 1) := by decide +kernel
theorem dX8_sureBurst_9 : decode cX8_sureBurst 9 = .ok (.ldc2_w 260, 3) := by decide +kernel
theorem dX8_sureBurst_12 : decode cX8_sureBurst 12 = .ok (.ddiv, 1) := by decide +kernel
theorem dX8_sureBurst_13 : decode cX8_sureBurst 13 = .ok (.dstore_n 2, 1) := by decide +kernel
theorem dX8_sureBurst_14 : decode cX8_sureBurst 14 = .ok (.iconst 0, 1) := by decide +kernel
theorem dX8_sureBurst_15 : decode cX8_sureBurst 15 = .ok (.istore 4, 2) := by decide +kernel
theorem dX8_sureBurst_17 : decode cX8_sureBurst 17 = .ok (.iconst 1, 1) := by decide +kernel
theorem dX8_sureBurst_18 : decode cX8_sureBurst 18 = .ok (.istore 5, 2) := by decide +kernel
theorem dX8_sureBurst_20 : decode cX8_sureBurst 20 = .ok (.iload 5, 2) := by decide +kernel
theorem dX8_sureBurst_22 : decode cX8_sureBurst 22 = .ok (.bipush 60, 2) := by decide +kernel
theorem dX8_sureBurst_24 : decode cX8_sureBurst 24 = .ok (.if_icmp .gt 24, 3) := by decide +kernel
theorem dX8_sureBurst_27 : decode cX8_sureBurst 27 = .ok (.aload_n 0, 1) := by decide +kernel
theorem dX8_sureBurst_28 : decode cX8_sureBurst 28 = .ok (.iload 5, 2) := by decide +kernel
theorem dX8_sureBurst_30 : decode cX8_sureBurst 30 = .ok (.invokevirtual 256, 3) := by decide +kernel
theorem dX8_sureBurst_33 : decode cX8_sureBurst 33 = .ok (.dload_n 2, 1) := by decide +kernel
theorem dX8_sureBurst_34 : decode cX8_sureBurst 34 = .ok (.dcmp .l, 1) := by decide +kernel
theorem dX8_sureBurst_35 : decode cX8_sureBurst 35 = .ok (.ifCond .lt 7, 3) := by decide +kernel
theorem dX8_sureBurst_38 : decode cX8_sureBurst 38 = .ok (.iload 5, 2) := by decide +kernel
theorem dX8_sureBurst_40 : decode cX8_sureBurst 40 = .ok (.istore 4, 2) := by decide +kernel
theorem dX8_sureBurst_42 : decode cX8_sureBurst 42 = .ok (.iinc 5 1, 3) := by decide +kernel
theorem dX8_sureBurst_45 : decode cX8_sureBurst 45 = .ok (.goto (-25), 3) := by decide +kernel
theorem dX8_sureBurst_48 : decode cX8_sureBurst 48 = .ok (.iload 4, 2) := by decide +kernel
theorem dX8_sureBurst_50 : decode cX8_sureBurst 50 = .ok (.ireturn, 1) := by decide +kernel
theorem dX8_dropIn_0 : decode cX8_dropIn 0 = .ok (.aload_n 0, 1) := by decide +kernel
theorem dX8_dropIn_1 : decode cX8_dropIn 1 = .ok (.getfield 41, 3) := by decide +kernel
theorem dX8_dropIn_4 : decode cX8_dropIn 4 = .ok (.aload_n 0, 1) := by decide +kernel
theorem dX8_dropIn_5 : decode cX8_dropIn 5 = .ok (.getfield 28, 3) := by decide +kernel
theorem dX8_dropIn_8 : decode cX8_dropIn 8 = .ok (.invokevirtual 89, 3) := by decide +kernel
theorem dX8_dropIn_11 : decode cX8_dropIn 11 = .ok (.aload_n 0, 1) := by decide +kernel
theorem dX8_dropIn_12 : decode cX8_dropIn 12 = .ok (.getfield 28, 3) := by decide +kernel
theorem dX8_dropIn_15 : decode cX8_dropIn 15 = .ok (.invokevirtual 238, 3) := by decide +kernel
theorem dX8_dropIn_18 : decode cX8_dropIn 18 = .ok (.lstore_n 1, 1) := by decide +kernel
theorem dX8_dropIn_19 : decode cX8_dropIn 19 = .ok (.iconst 1, 1) := by decide +kernel
theorem dX8_dropIn_20 : decode cX8_dropIn 20 = .ok (.istore_n 3, 1) := by decide +kernel
theorem dX8_dropIn_21 : decode cX8_dropIn 21 = .ok (.iload_n 3, 1) := by decide +kernel
theorem dX8_dropIn_22 : decode cX8_dropIn 22 = .ok (.sipush 200, 3) := by decide +kernel
theorem dX8_dropIn_25 : decode cX8_dropIn 25 = .ok (.if_icmp .gt 30, 3) := by decide +kernel
theorem dX8_dropIn_28 : decode cX8_dropIn 28 = .ok (.aload_n 0, 1) := by decide +kernel
theorem dX8_dropIn_29 : decode cX8_dropIn 29 = .ok (.getfield 41, 3) := by decide +kernel
theorem dX8_dropIn_32 : decode cX8_dropIn 32 = .ok (.invokevirtual 269, 3) := by decide +kernel
theorem dX8_dropIn_35 : decode cX8_dropIn 35 = .ok (.aload_n 0, 1) := by decide +kernel
theorem dX8_dropIn_36 : decode cX8_dropIn 36 = .ok (.getfield 41, 3) := by decide +kernel
theorem dX8_dropIn_39 : decode cX8_dropIn 39 = .ok (.invokevirtual 238, 3) := by decide +kernel
theorem dX8_dropIn_42 : decode cX8_dropIn 42 = .ok (.lload_n 1, 1) := by decide +kernel
theorem dX8_dropIn_43 : decode cX8_dropIn 43 = .ok (.lcmp, 1) := by decide +kernel
theorem dX8_dropIn_44 : decode cX8_dropIn 44 = .ok (.ifCond .le 5, 3) := by decide +kernel
theorem dX8_dropIn_47 : decode cX8_dropIn 47 = .ok (.iload_n 3, 1) := by decide +kernel
theorem dX8_dropIn_48 : decode cX8_dropIn 48 = .ok (.ireturn, 1) := by decide +kernel
theorem dX8_dropIn_49 : decode cX8_dropIn 49 = .ok (.iinc 3 1, 3) := by decide +kernel
theorem dX8_dropIn_52 : decode cX8_dropIn 52 = .ok (.goto (-31), 3) := by decide +kernel
theorem dX8_dropIn_55 : decode cX8_dropIn 55 = .ok (.iconst (-1), 1) := by decide +kernel
theorem dX8_dropIn_56 : decode cX8_dropIn 56 = .ok (.ireturn, 1) := by decide +kernel
theorem dX8_setLimits_0 : decode cX8_setLimits 0 = .ok (.iload_n 1, 1) := by decide +kernel
theorem dX8_setLimits_1 : decode cX8_setLimits 1 = .ok (.iconst 0, 1) := by decide +kernel
theorem dX8_setLimits_2 : decode cX8_setLimits 2 = .ok (.bipush 39, 2) := by decide +kernel
theorem dX8_setLimits_4 : decode cX8_setLimits 4 = .ok (.invokestatic 110, 3) := by decide +kernel
theorem dX8_setLimits_7 : decode cX8_setLimits 7 = .ok (.iload_n 2, 1) := by decide +kernel
theorem dX8_setLimits_8 : decode cX8_setLimits 8 = .ok (.iload_n 1, 1) := by decide +kernel
theorem dX8_setLimits_9 : decode cX8_setLimits 9 = .ok (.iconst 1, 1) := by decide +kernel
theorem dX8_setLimits_10 : decode cX8_setLimits 10 = .ok (.iadd, 1) := by decide +kernel
theorem dX8_setLimits_11 : decode cX8_setLimits 11 = .ok (.bipush 40, 2) := by decide +kernel
theorem dX8_setLimits_13 : decode cX8_setLimits 13 = .ok (.invokestatic 110, 3) := by decide +kernel
theorem dX8_setLimits_16 : decode cX8_setLimits 16 = .ok (.aload_n 0, 1) := by decide +kernel
theorem dX8_setLimits_17 : decode cX8_setLimits 17 = .ok (.getfield 47, 3) := by decide +kernel
theorem dX8_setLimits_20 : decode cX8_setLimits 20 = .ok (.aload_n 0, 1) := by decide +kernel
theorem dX8_setLimits_21 : decode cX8_setLimits 21 = .ok (.getfield 28, 3) := by decide +kernel
theorem dX8_setLimits_24 : decode cX8_setLimits 24 = .ok (.invokevirtual 100, 3) := by decide +kernel
theorem dX8_setLimits_27 : decode cX8_setLimits 27 = .ok (.aload_n 0, 1) := by decide +kernel
theorem dX8_setLimits_28 : decode cX8_setLimits 28 = .ok (.getfield 28, 3) := by decide +kernel
theorem dX8_setLimits_31 : decode cX8_setLimits 31 = .ok (.iload_n 1, 1) := by decide +kernel
theorem dX8_setLimits_32 : decode cX8_setLimits 32 = .ok (.iload_n 2, 1) := by decide +kernel
theorem dX8_setLimits_33 : decode cX8_setLimits 33 = .ok (.invokevirtual 292, 3) := by decide +kernel
theorem dX8_setLimits_36 : decode cX8_setLimits 36 = .ok (.ireturn, 1) := by decide +kernel
theorem dX8_setTop_0 : decode cX8_setTop 0 = .ok (.iload_n 1, 1) := by decide +kernel
theorem dX8_setTop_1 : decode cX8_setTop 1 = .ok (.iconst 0, 1) := by decide +kernel
theorem dX8_setTop_2 : decode cX8_setTop 2 = .ok (.ldc_w 282, 3) := by decide +kernel
theorem dX8_setTop_5 : decode cX8_setTop 5 = .ok (.invokestatic 110, 3) := by decide +kernel
theorem dX8_setTop_8 : decode cX8_setTop 8 = .ok (.aload_n 0, 1) := by decide +kernel
theorem dX8_setTop_9 : decode cX8_setTop 9 = .ok (.getfield 47, 3) := by decide +kernel
theorem dX8_setTop_12 : decode cX8_setTop 12 = .ok (.aload_n 0, 1) := by decide +kernel
theorem dX8_setTop_13 : decode cX8_setTop 13 = .ok (.getfield 28, 3) := by decide +kernel
theorem dX8_setTop_16 : decode cX8_setTop 16 = .ok (.invokevirtual 100, 3) := by decide +kernel
theorem dX8_setTop_19 : decode cX8_setTop 19 = .ok (.aload_n 0, 1) := by decide +kernel
theorem dX8_setTop_20 : decode cX8_setTop 20 = .ok (.getfield 28, 3) := by decide +kernel
theorem dX8_setTop_23 : decode cX8_setTop 23 = .ok (.iload_n 1, 1) := by decide +kernel
theorem dX8_setTop_24 : decode cX8_setTop 24 = .ok (.invokevirtual 295, 3) := by decide +kernel
theorem dX8_setTop_27 : decode cX8_setTop 27 = .ok (.ireturn, 1) := by decide +kernel
theorem dX8_setWeight_0 : decode cX8_setWeight 0 = .ok (.iload_n 1, 1) := by decide +kernel
theorem dX8_setWeight_1 : decode cX8_setWeight 1 = .ok (.iconst 0, 1) := by decide +kernel
theorem dX8_setWeight_2 : decode cX8_setWeight 2 = .ok (.bipush 10, 2) := by decide +kernel
theorem dX8_setWeight_4 : decode cX8_setWeight 4 = .ok (.invokestatic 110, 3) := by decide +kernel
theorem dX8_setWeight_7 : decode cX8_setWeight 7 = .ok (.aload_n 0, 1) := by decide +kernel
theorem dX8_setWeight_8 : decode cX8_setWeight 8 = .ok (.getfield 47, 3) := by decide +kernel
theorem dX8_setWeight_11 : decode cX8_setWeight 11 = .ok (.aload_n 0, 1) := by decide +kernel
theorem dX8_setWeight_12 : decode cX8_setWeight 12 = .ok (.getfield 28, 3) := by decide +kernel
theorem dX8_setWeight_15 : decode cX8_setWeight 15 = .ok (.invokevirtual 100, 3) := by decide +kernel
theorem dX8_setWeight_18 : decode cX8_setWeight 18 = .ok (.aload_n 0, 1) := by decide +kernel
theorem dX8_setWeight_19 : decode cX8_setWeight 19 = .ok (.getfield 28, 3) := by decide +kernel
theorem dX8_setWeight_22 : decode cX8_setWeight 22 = .ok (.iload_n 1, 1) := by decide +kernel
theorem dX8_setWeight_23 : decode cX8_setWeight 23 = .ok (.invokevirtual 298, 3) := by decide +kernel
theorem dX8_setWeight_26 : decode cX8_setWeight 26 = .ok (.ireturn, 1) := by decide +kernel
theorem dX8_setGentle_0 : decode cX8_setGentle 0 = .ok (.iload_n 1, 1) := by decide +kernel
theorem dX8_setGentle_1 : decode cX8_setGentle 1 = .ok (.iconst 0, 1) := by decide +kernel
theorem dX8_setGentle_2 : decode cX8_setGentle 2 = .ok (.iconst 1, 1) := by decide +kernel
theorem dX8_setGentle_3 : decode cX8_setGentle 3 = .ok (.invokestatic 110, 3) := by decide +kernel
theorem dX8_setGentle_6 : decode cX8_setGentle 6 = .ok (.aload_n 0, 1) := by decide +kernel
theorem dX8_setGentle_7 : decode cX8_setGentle 7 = .ok (.getfield 47, 3) := by decide +kernel
theorem dX8_setGentle_10 : decode cX8_setGentle 10 = .ok (.aload_n 0, 1) := by decide +kernel
theorem dX8_setGentle_11 : decode cX8_setGentle 11 = .ok (.getfield 28, 3) := by decide +kernel
theorem dX8_setGentle_14 : decode cX8_setGentle 14 = .ok (.invokevirtual 100, 3) := by decide +kernel
theorem dX8_setGentle_17 : decode cX8_setGentle 17 = .ok (.aload_n 0, 1) := by decide +kernel
theorem dX8_setGentle_18 : decode cX8_setGentle 18 = .ok (.getfield 28, 3) := by decide +kernel
theorem dX8_setGentle_21 : decode cX8_setGentle 21 = .ok (.iload_n 1, 1) := by decide +kernel
theorem dX8_setGentle_22 : decode cX8_setGentle 22 = .ok (.invokevirtual 301, 3) := by decide +kernel
theorem dX8_setGentle_25 : decode cX8_setGentle 25 = .ok (.ireturn, 1) := by decide +kernel
theorem dX8_setOn_0 : decode cX8_setOn 0 = .ok (.aload_n 0, 1) := by decide +kernel
theorem dX8_setOn_1 : decode cX8_setOn 1 = .ok (.iload_n 1, 1) := by decide +kernel
theorem dX8_setOn_2 : decode cX8_setOn 2 = .ok (.invokevirtual 164, 3) := by decide +kernel
theorem dX8_setOn_5 : decode cX8_setOn 5 = .ok (.getfield 186, 3) := by decide +kernel
theorem dX8_setOn_8 : decode cX8_setOn 8 = .ok (.iload_n 2, 1) := by decide +kernel
theorem dX8_setOn_9 : decode cX8_setOn 9 = .ok (.if_icmp .ne 6, 3) := by decide +kernel
theorem dX8_setOn_12 : decode cX8_setOn 12 = .ok (.bipush (-3), 2) := by decide +kernel
theorem dX8_setOn_14 : decode cX8_setOn 14 = .ok (.ireturn, 1) := by decide +kernel
theorem dX8_setOn_15 : decode cX8_setOn 15 = .ok (.aload_n 0, 1) := by decide +kernel
theorem dX8_setOn_16 : decode cX8_setOn 16 = .ok (.getfield 47, 3) := by decide +kernel
theorem dX8_setOn_19 : decode cX8_setOn 19 = .ok (.aload_n 0, 1) := by decide +kernel
theorem dX8_setOn_20 : decode cX8_setOn 20 = .ok (.getfield 28, 3) := by decide +kernel
theorem dX8_setOn_23 : decode cX8_setOn 23 = .ok (.invokevirtual 100, 3) := by decide +kernel
theorem dX8_setOn_26 : decode cX8_setOn 26 = .ok (.aload_n 0, 1) := by decide +kernel
theorem dX8_setOn_27 : decode cX8_setOn 27 = .ok (.getfield 28, 3) := by decide +kernel
theorem dX8_setOn_30 : decode cX8_setOn 30 = .ok (.iload_n 1, 1) := by decide +kernel
theorem dX8_setOn_31 : decode cX8_setOn 31 = .ok (.iload_n 2, 1) := by decide +kernel
theorem dX8_setOn_32 : decode cX8_setOn 32 = .ok (.invokevirtual 304, 3) := by decide +kernel
theorem dX8_setOn_35 : decode cX8_setOn 35 = .ok (.ireturn, 1) := by decide +kernel
theorem dX8_report_0 : decode cX8_report 0 = .ok (.aload_n 0, 1) := by decide +kernel
theorem dX8_report_1 : decode cX8_report 1 = .ok (.getfield 62, 3) := by decide +kernel
theorem dX8_report_4 : decode cX8_report 4 = .ok (.iconst 0, 1) := by decide +kernel
theorem dX8_report_5 : decode cX8_report 5 = .ok (.invokevirtual 308, 3) := by decide +kernel
theorem dX8_report_8 : decode cX8_report 8 = .ok (.iconst 0, 1) := by decide +kernel
theorem dX8_report_9 : decode cX8_report 9 = .ok (.istore_n 1, 1) := by decide +kernel
theorem dX8_report_10 : decode cX8_report 10 = .ok (.iload_n 1, 1) := by decide +kernel
theorem dX8_report_11 : decode cX8_report 11 = .ok (.aload_n 0, 1) := by decide +kernel
theorem dX8_report_12 : decode cX8_report 12 = .ok (.getfield 28, 3) := by decide +kernel
theorem dX8_report_15 : decode cX8_report 15 = .ok (.getfield 96, 3) := by decide +kernel
theorem dX8_report_18 : decode cX8_report 18 = .ok (.if_icmp .ge 28, 3) := by decide +kernel
theorem dX8_report_21 : decode cX8_report 21 = .ok (.iload_n 1, 1) := by decide +kernel
theorem dX8_report_22 : decode cX8_report 22 = .ok (.bipush 6, 2) := by decide +kernel
theorem dX8_report_24 : decode cX8_report 24 = .ok (.if_icmp .ge 22, 3) := by decide +kernel
theorem dX8_report_27 : decode cX8_report 27 = .ok (.aload_n 0, 1) := by decide +kernel
theorem dX8_report_28 : decode cX8_report 28 = .ok (.aload_n 0, 1) := by decide +kernel
theorem dX8_report_29 : decode cX8_report 29 = .ok (.getfield 28, 3) := by decide +kernel
theorem dX8_report_32 : decode cX8_report 32 = .ok (.getfield 265, 3) := by decide +kernel
theorem dX8_report_35 : decode cX8_report 35 = .ok (.iload_n 1, 1) := by decide +kernel
theorem dX8_report_36 : decode cX8_report 36 = .ok (.aaload, 1) := by decide +kernel
theorem dX8_report_37 : decode cX8_report 37 = .ok (.invokevirtual 311, 3) := by decide +kernel
theorem dX8_report_40 : decode cX8_report 40 = .ok (.iinc 1 1, 3) := by decide +kernel
theorem dX8_report_43 : decode cX8_report 43 = .ok (.goto (-33), 3) := by decide +kernel
theorem dX8_report_46 : decode cX8_report 46 = .ok (.aload_n 0, 1) := by decide +kernel
theorem dX8_report_47 : decode cX8_report 47 = .ok (.getfield 62, 3) := by decide +kernel
theorem dX8_report_50 : decode cX8_report 50 = .ok (.bipush 124, 2) := by decide +kernel
theorem dX8_report_52 : decode cX8_report 52 = .ok (.invokevirtual 315, 3) := by decide +kernel
theorem dX8_report_55 : decode cX8_report 55 = .ok (.pop, 1) := by decide +kernel
theorem dX8_report_56 : decode cX8_report 56 = .ok (.iconst 0, 1) := by decide +kernel
theorem dX8_report_57 : decode cX8_report 57 = .ok (.istore_n 1, 1) := by decide +kernel
theorem dX8_report_58 : decode cX8_report 58 = .ok (.iload_n 1, 1) := by decide +kernel
theorem dX8_report_59 : decode cX8_report 59 = .ok (.aload_n 0, 1) := by decide +kernel
theorem dX8_report_60 : decode cX8_report 60 = .ok (.getfield 28, 3) := by decide +kernel
theorem dX8_report_63 : decode cX8_report 63 = .ok (.getfield 138, 3) := by decide +kernel
theorem dX8_report_66 : decode cX8_report 66 = .ok (.getfield 142, 3) := by decide +kernel
theorem dX8_report_69 : decode cX8_report 69 = .ok (.if_icmp .ge 55, 3) := by decide +kernel
theorem dX8_report_72 : decode cX8_report 72 = .ok (.aload_n 0, 1) := by decide +kernel
theorem dX8_report_73 : decode cX8_report 73 = .ok (.getfield 62, 3) := by decide +kernel
theorem dX8_report_76 : decode cX8_report 76 = .ok (.aload_n 0, 1) := by decide +kernel
theorem dX8_report_77 : decode cX8_report 77 = .ok (.getfield 28, 3) := by decide +kernel
theorem dX8_report_80 : decode cX8_report 80 = .ok (.getfield 138, 3) := by decide +kernel
theorem dX8_report_83 : decode cX8_report 83 = .ok (.iload_n 1, 1) := by decide +kernel
theorem dX8_report_84 : decode cX8_report 84 = .ok (.iconst 0, 1) := by decide +kernel
theorem dX8_report_85 : decode cX8_report 85 = .ok (.invokevirtual 220, 3) := by decide +kernel
theorem dX8_report_88 : decode cX8_report 88 = .ok (.invokevirtual 319, 3) := by decide +kernel
theorem dX8_report_91 : decode cX8_report 91 = .ok (.pop, 1) := by decide +kernel
theorem dX8_report_92 : decode cX8_report 92 = .ok (.aload_n 0, 1) := by decide +kernel
theorem dX8_report_93 : decode cX8_report 93 = .ok (.getfield 28, 3) := by decide +kernel
theorem dX8_report_96 : decode cX8_report 96 = .ok (.getfield 138, 3) := by decide +kernel
theorem dX8_report_99 : decode cX8_report 99 = .ok (.iload_n 1, 1) := by decide +kernel
theorem dX8_report_100 : decode cX8_report 100 = .ok (.iconst 2, 1) := by decide +kernel
theorem dX8_report_101 : decode cX8_report 101 = .ok (.invokevirtual 220, 3) := by decide +kernel
theorem dX8_report_104 : decode cX8_report 104 = .ok (.iconst 1, 1) := by decide +kernel
theorem dX8_report_105 : decode cX8_report 105 = .ok (.if_icmp .ne 13, 3) := by decide +kernel
theorem dX8_report_108 : decode cX8_report 108 = .ok (.aload_n 0, 1) := by decide +kernel
theorem dX8_report_109 : decode cX8_report 109 = .ok (.getfield 62, 3) := by decide +kernel
theorem dX8_report_112 : decode cX8_report 112 = .ok (.bipush 42, 2) := by decide +kernel
theorem dX8_report_114 : decode cX8_report 114 = .ok (.invokevirtual 315, 3) := by decide +kernel
theorem dX8_report_117 : decode cX8_report 117 = .ok (.pop, 1) := by decide +kernel
theorem dX8_report_118 : decode cX8_report 118 = .ok (.iinc 1 1, 3) := by decide +kernel
theorem dX8_report_121 : decode cX8_report 121 = .ok (.goto (-63), 3) := by decide +kernel
theorem dX8_report_124 : decode cX8_report 124 = .ok (.aload_n 0, 1) := by decide +kernel
theorem dX8_report_125 : decode cX8_report 125 = .ok (.getfield 62, 3) := by decide +kernel
theorem dX8_report_128 : decode cX8_report 128 = .ok (.invokevirtual 322, 3) := by decide +kernel
theorem dX8_report_131 : decode cX8_report 131 = .ok (.ireturn, 1) := by decide +kernel
theorem dX8_reportByte_0 : decode cX8_reportByte 0 = .ok (.iload_n 1, 1) := by decide +kernel
theorem dX8_reportByte_1 : decode cX8_reportByte 1 = .ok (.ifCond .lt 25, 3) := by decide +kernel
theorem dX8_reportByte_4 : decode cX8_reportByte 4 = .ok (.iload_n 1, 1) := by decide +kernel
theorem dX8_reportByte_5 : decode cX8_reportByte 5 = .ok (.aload_n 0, 1) := by decide +kernel
theorem dX8_reportByte_6 : decode cX8_reportByte 6 = .ok (.getfield 62, 3) := by decide +kernel
theorem dX8_reportByte_9 : decode cX8_reportByte 9 = .ok (.invokevirtual 322, 3) := by decide +kernel
theorem dX8_reportByte_12 : decode cX8_reportByte 12 = .ok (.if_icmp .ge 14, 3) := by decide +kernel
theorem dX8_reportByte_15 : decode cX8_reportByte 15 = .ok (.aload_n 0, 1) := by decide +kernel
theorem dX8_reportByte_16 : decode cX8_reportByte 16 = .ok (.getfield 62, 3) := by decide +kernel
theorem dX8_reportByte_19 : decode cX8_reportByte 19 = .ok (.iload_n 1, 1) := by decide +kernel
theorem dX8_reportByte_20 : decode cX8_reportByte 20 = .ok (.invokevirtual 323, 3) := by decide +kernel
theorem dX8_reportByte_23 : decode cX8_reportByte 23 = .ok (.goto 4, 3) := by decide +kernel
theorem dX8_reportByte_26 : decode cX8_reportByte 26 = .ok (.iconst (-1), 1) := by decide +kernel
theorem dX8_reportByte_27 : decode cX8_reportByte 27 = .ok (.ireturn, 1) := by decide +kernel
theorem dX8_save_0 : decode cX8_save 0 = .ok (.iload_n 1, 1) := by decide +kernel
theorem dX8_save_1 : decode cX8_save 1 = .ok (.iconst 0, 1) := by decide +kernel
theorem dX8_save_2 : decode cX8_save 2 = .ok (.iconst 1, 1) := by decide +kernel
theorem dX8_save_3 : decode cX8_save 3 = .ok (.invokestatic 110, 3) := by decide +kernel
theorem dX8_save_6 : decode cX8_save 6 = .ok (.aload_n 0, 1) := by decide +kernel
theorem dX8_save_7 : decode cX8_save 7 = .ok (.getfield 51, 3) := by decide +kernel
theorem dX8_save_10 : decode cX8_save 10 = .ok (.iload_n 1, 1) := by decide +kernel
theorem dX8_save_11 : decode cX8_save 11 = .ok (.aaload, 1) := by decide +kernel
theorem dX8_save_12 : decode cX8_save 12 = .ok (.aload_n 0, 1) := by decide +kernel
theorem dX8_save_13 : decode cX8_save 13 = .ok (.getfield 28, 3) := by decide +kernel
theorem dX8_save_16 : decode cX8_save 16 = .ok (.invokevirtual 89, 3) := by decide +kernel
theorem dX8_save_19 : decode cX8_save 19 = .ok (.aload_n 0, 1) := by decide +kernel
theorem dX8_save_20 : decode cX8_save 20 = .ok (.getfield 55, 3) := by decide +kernel
theorem dX8_save_23 : decode cX8_save 23 = .ok (.iload_n 1, 1) := by decide +kernel
theorem dX8_save_24 : decode cX8_save 24 = .ok (.iconst 1, 1) := by decide +kernel
theorem dX8_save_25 : decode cX8_save 25 = .ok (.bastore, 1) := by decide +kernel
theorem dX8_save_26 : decode cX8_save 26 = .ok (.aload_n 0, 1) := by decide +kernel
theorem dX8_save_27 : decode cX8_save 27 = .ok (.getfield 28, 3) := by decide +kernel
theorem dX8_save_30 : decode cX8_save 30 = .ok (.getfield 135, 3) := by decide +kernel
theorem dX8_save_33 : decode cX8_save 33 = .ok (.ireturn, 1) := by decide +kernel
theorem dX8_restore_0 : decode cX8_restore 0 = .ok (.iload_n 1, 1) := by decide +kernel
theorem dX8_restore_1 : decode cX8_restore 1 = .ok (.iconst 0, 1) := by decide +kernel
theorem dX8_restore_2 : decode cX8_restore 2 = .ok (.iconst 1, 1) := by decide +kernel
theorem dX8_restore_3 : decode cX8_restore 3 = .ok (.invokestatic 110, 3) := by decide +kernel
theorem dX8_restore_6 : decode cX8_restore 6 = .ok (.aload_n 0, 1) := by decide +kernel
theorem dX8_restore_7 : decode cX8_restore 7 = .ok (.getfield 55, 3) := by decide +kernel
theorem dX8_restore_10 : decode cX8_restore 10 = .ok (.iload_n 1, 1) := by decide +kernel
theorem dX8_restore_11 : decode cX8_restore 11 = .ok (.baload, 1) := by decide +kernel
theorem dX8_restore_12 : decode cX8_restore 12 = .ok (.ifCond .ne 5, 3) := by decide +kernel
theorem dX8_restore_15 : decode cX8_restore 15 = .ok (.iconst (-1), 1) := by decide +kernel
theorem dX8_restore_16 : decode cX8_restore 16 = .ok (.ireturn, 1) := by decide +kernel
theorem dX8_restore_17 : decode cX8_restore 17 = .ok (.aload_n 0, 1) := by decide +kernel
theorem dX8_restore_18 : decode cX8_restore 18 = .ok (.getfield 28, 3) := by decide +kernel
theorem dX8_restore_21 : decode cX8_restore 21 = .ok (.aload_n 0, 1) := by decide +kernel
theorem dX8_restore_22 : decode cX8_restore 22 = .ok (.getfield 51, 3) := by decide +kernel
theorem dX8_restore_25 : decode cX8_restore 25 = .ok (.iload_n 1, 1) := by decide +kernel
theorem dX8_restore_26 : decode cX8_restore 26 = .ok (.aaload, 1) := by decide +kernel
theorem dX8_restore_27 : decode cX8_restore 27 = .ok (.invokevirtual 89, 3) := by decide +kernel
theorem dX8_restore_30 : decode cX8_restore 30 = .ok (.aload_n 0, 1) := by decide +kernel
theorem dX8_restore_31 : decode cX8_restore 31 = .ok (.getfield 47, 3) := by decide +kernel
theorem dX8_restore_34 : decode cX8_restore 34 = .ok (.invokevirtual 93, 3) := by decide +kernel
theorem dX8_restore_37 : decode cX8_restore 37 = .ok (.aload_n 0, 1) := by decide +kernel
theorem dX8_restore_38 : decode cX8_restore 38 = .ok (.getfield 28, 3) := by decide +kernel
theorem dX8_restore_41 : decode cX8_restore 41 = .ok (.getfield 135, 3) := by decide +kernel
theorem dX8_restore_44 : decode cX8_restore 44 = .ok (.ireturn, 1) := by decide +kernel
theorem dX8_requireFlowOrNone_0 : decode cX8_requireFlowOrNone 0 = .ok (.iload_n 1, 1) := by decide +kernel
theorem dX8_requireFlowOrNone_1 : decode cX8_requireFlowOrNone 1 = .ok (.iconst (-1), 1) := by decide +kernel
theorem dX8_requireFlowOrNone_2 : decode cX8_requireFlowOrNone 2 = .ok (.if_icmp .eq 14, 3) := by decide +kernel
theorem dX8_requireFlowOrNone_5 : decode cX8_requireFlowOrNone 5 = .ok (.iload_n 1, 1) := by decide +kernel
theorem dX8_requireFlowOrNone_6 : decode cX8_requireFlowOrNone 6 = .ok (.aload_n 0, 1) := by decide +kernel
theorem dX8_requireFlowOrNone_7 : decode cX8_requireFlowOrNone 7 = .ok (.getfield 28, 3) := by decide +kernel
theorem dX8_requireFlowOrNone_10 : decode cX8_requireFlowOrNone 10 = .ok (.getfield 96, 3) := by decide +kernel
theorem dX8_requireFlowOrNone_13 : decode cX8_requireFlowOrNone 13 = .ok (.invokestatic 216, 3) := by decide +kernel
theorem dX8_requireFlowOrNone_16 : decode cX8_requireFlowOrNone 16 = .ok (.return_, 1) := by decide +kernel
theorem dX8_writeFlow_0 : decode cX8_writeFlow 0 = .ok (.aload_n 0, 1) := by decide +kernel
theorem dX8_writeFlow_1 : decode cX8_writeFlow 1 = .ok (.getfield 62, 3) := by decide +kernel
theorem dX8_writeFlow_4 : decode cX8_writeFlow 4 = .ok (.aload_n 1, 1) := by decide +kernel
theorem dX8_writeFlow_5 : decode cX8_writeFlow 5 = .ok (.getfield 204, 3) := by decide +kernel
theorem dX8_writeFlow_8 : decode cX8_writeFlow 8 = .ok (.invokevirtual 342, 3) := by decide +kernel
theorem dX8_writeFlow_11 : decode cX8_writeFlow 11 = .ok (.pop, 1) := by decide +kernel
theorem dX8_writeFlow_12 : decode cX8_writeFlow 12 = .ok (.aload_n 0, 1) := by decide +kernel
theorem dX8_writeFlow_13 : decode cX8_writeFlow 13 = .ok (.getfield 62, 3) := by decide +kernel
theorem dX8_writeFlow_16 : decode cX8_writeFlow 16 = .ok (.bipush 58, 2) := by decide +kernel
theorem dX8_writeFlow_18 : decode cX8_writeFlow 18 = .ok (.invokevirtual 315, 3) := by decide +kernel
theorem dX8_writeFlow_21 : decode cX8_writeFlow 21 = .ok (.pop, 1) := by decide +kernel
theorem dX8_writeFlow_22 : decode cX8_writeFlow 22 = .ok (.aload_n 0, 1) := by decide +kernel
theorem dX8_writeFlow_23 : decode cX8_writeFlow 23 = .ok (.getfield 62, 3) := by decide +kernel
theorem dX8_writeFlow_26 : decode cX8_writeFlow 26 = .ok (.aload_n 1, 1) := by decide +kernel
theorem dX8_writeFlow_27 : decode cX8_writeFlow 27 = .ok (.getfield 345, 3) := by decide +kernel
theorem dX8_writeFlow_30 : decode cX8_writeFlow 30 = .ok (.iconst 0, 1) := by decide +kernel
theorem dX8_writeFlow_31 : decode cX8_writeFlow 31 = .ok (.laload, 1) := by decide +kernel
theorem dX8_writeFlow_32 : decode cX8_writeFlow 32 = .ok (.l2i, 1) := by decide +kernel
theorem dX8_writeFlow_33 : decode cX8_writeFlow 33 = .ok (.invokevirtual 319, 3) := by decide +kernel
theorem dX8_writeFlow_36 : decode cX8_writeFlow 36 = .ok (.pop, 1) := by decide +kernel
theorem dX8_writeFlow_37 : decode cX8_writeFlow 37 = .ok (.aload_n 0, 1) := by decide +kernel
theorem dX8_writeFlow_38 : decode cX8_writeFlow 38 = .ok (.getfield 62, 3) := by decide +kernel
theorem dX8_writeFlow_41 : decode cX8_writeFlow 41 = .ok (.bipush 47, 2) := by decide +kernel
theorem dX8_writeFlow_43 : decode cX8_writeFlow 43 = .ok (.invokevirtual 315, 3) := by decide +kernel
theorem dX8_writeFlow_46 : decode cX8_writeFlow 46 = .ok (.pop, 1) := by decide +kernel
theorem dX8_writeFlow_47 : decode cX8_writeFlow 47 = .ok (.aload_n 0, 1) := by decide +kernel
theorem dX8_writeFlow_48 : decode cX8_writeFlow 48 = .ok (.getfield 62, 3) := by decide +kernel
theorem dX8_writeFlow_51 : decode cX8_writeFlow 51 = .ok (.aload_n 1, 1) := by decide +kernel
theorem dX8_writeFlow_52 : decode cX8_writeFlow 52 = .ok (.getfield 345, 3) := by decide +kernel
theorem dX8_writeFlow_55 : decode cX8_writeFlow 55 = .ok (.iconst 5, 1) := by decide +kernel
theorem dX8_writeFlow_56 : decode cX8_writeFlow 56 = .ok (.laload, 1) := by decide +kernel
theorem dX8_writeFlow_57 : decode cX8_writeFlow 57 = .ok (.l2i, 1) := by decide +kernel
theorem dX8_writeFlow_58 : decode cX8_writeFlow 58 = .ok (.invokevirtual 319, 3) := by decide +kernel
theorem dX8_writeFlow_61 : decode cX8_writeFlow 61 = .ok (.pop, 1) := by decide +kernel
theorem dX8_writeFlow_62 : decode cX8_writeFlow 62 = .ok (.aload_n 1, 1) := by decide +kernel
theorem dX8_writeFlow_63 : decode cX8_writeFlow 63 = .ok (.getfield 192, 3) := by decide +kernel
theorem dX8_writeFlow_66 : decode cX8_writeFlow 66 = .ok (.ifCond .eq 13, 3) := by decide +kernel
theorem dX8_writeFlow_69 : decode cX8_writeFlow 69 = .ok (.aload_n 0, 1) := by decide +kernel
theorem dX8_writeFlow_70 : decode cX8_writeFlow 70 = .ok (.getfield 62, 3) := by decide +kernel
theorem dX8_writeFlow_73 : decode cX8_writeFlow 73 = .ok (.bipush 33, 2) := by decide +kernel
theorem dX8_writeFlow_75 : decode cX8_writeFlow 75 = .ok (.invokevirtual 315, 3) := by decide +kernel
theorem dX8_writeFlow_78 : decode cX8_writeFlow 78 = .ok (.pop, 1) := by decide +kernel
theorem dX8_writeFlow_79 : decode cX8_writeFlow 79 = .ok (.aload_n 0, 1) := by decide +kernel
theorem dX8_writeFlow_80 : decode cX8_writeFlow 80 = .ok (.getfield 62, 3) := by decide +kernel
theorem dX8_writeFlow_83 : decode cX8_writeFlow 83 = .ok (.bipush 32, 2) := by decide +kernel
theorem dX8_writeFlow_85 : decode cX8_writeFlow 85 = .ok (.invokevirtual 315, 3) := by decide +kernel
theorem dX8_writeFlow_88 : decode cX8_writeFlow 88 = .ok (.pop, 1) := by decide +kernel
theorem dX8_writeFlow_89 : decode cX8_writeFlow 89 = .ok (.return_, 1) := by decide +kernel
-- X8_requireFlowOrNone
set_option maxRecDepth 100000 in
set_option maxHeartbeats 4000000 in
theorem zm_X8_requireFlowOrNone {l : Launch} {G : zG} {p1 : Int32} {M : zM} {Kf : zM → Prop} {KX : String → zM → Prop} (h : ((p1 = (-1) → (Kf M)) ∧ (¬ p1 = (-1) → (zCalVX l G Y_X8_requireIndex 1 6 [vi p1, vi (zmI M 15 1 12)] M (fun M1 => (Kf M1)) KX)))) : zCalVX l G Y_X8_requireFlowOrNone 1 6 [vr 0 0, vi p1] M Kf KX := by
  refine zCal_of (lv := [(0, vr 0 0), (1, vi p1)]) (by decide) rfl (zle rfl) rfl (fun hv => zlv_args (lv := [(0, vr 0 0), (1, vi p1)]) rfl hv) ?_
  refine Z_iload_n dX8_requireFlowOrNone_0 rfl 1 rfl ?_
  refine Z_iconst (v := (-1)) (by decide) dX8_requireFlowOrNone_1 ?_
  refine Z_icmp_eq (tgt := 16) dX8_requireFlowOrNone_2 (by decide) (fun q => ?_) (fun q => ?_)
  · have h := h.1 q
    exact Z_vret rfl dX8_requireFlowOrNone_16 (zle rfl) (zle rfl) ⟨rfl, h⟩
  · have h := h.2 q
    refine Z_iload_n dX8_requireFlowOrNone_5 rfl 1 rfl ?_
    refine Z_aload_n dX8_requireFlowOrNone_6 rfl 0 rfl ?_
    refine Z_getR (s1 := 15) (i1 := 1) zfl_X8_28 rfl (fun q => by first | exact q | decide) dX8_requireFlowOrNone_7 ?_
    refine Z_getI zfl_X8_96 dX8_requireFlowOrNone_10 ?_
    refine Z_callSVX (as := [vi p1, vi (zmI M 15 1 12)]) rfl zcs_X8_requireFlowOrNone_X8_requireIndex_216 rfl rfl (zle rfl) dX8_requireFlowOrNone_13 ⟨zle rfl, zle rfl⟩ h (fun _ _ q => q) (fun M1 h => ?_)
    exact Z_vret rfl dX8_requireFlowOrNone_16 (zle rfl) (zle rfl) ⟨rfl, h⟩
-- X8_restore
set_option maxRecDepth 100000 in
set_option maxHeartbeats 4000000 in
theorem zm_X8_restore {l : Launch} {G : zG} {p1 : Int32} {M : zM} {Kf : Int32 → zM → Prop} {KX : String → zM → Prop} (h : (zCalVX l G Y_X8_requireWithin 1 6 [vi p1, vi 0, vi 1] M (fun M1 => (vp_in p1 2 ∧ ((¬ (zmI M1 13 0 p1.toNatClampNeg) = 0 → (vp_in p1 2 ∧ (zCalV l G Y_X5_copyFrom 0 0 [vr 15 1, vr 15 (11 + p1.toNatClampNeg)] M1 (fun M4 => (zCalV l G Y_X2_forget 0 0 [vr 10 0] M4 (fun M5 => (Kf (zmI M5 15 1 7) M5))))))) ∧ ((zmI M1 13 0 p1.toNatClampNeg) = 0 → (Kf (-1) M1))))) KX)) : zCalIX l G Y_X8_restore 1 6 [vr 0 0, vi p1] M Kf KX := by
  refine zCal_of (lv := [(0, vr 0 0), (1, vi p1)]) (by decide) rfl (zle rfl) rfl (fun hv => zlv_args (lv := [(0, vr 0 0), (1, vi p1)]) rfl hv) ?_
  refine Z_iload_n dX8_restore_0 rfl 1 rfl ?_
  refine Z_iconst (v := 0) (by decide) dX8_restore_1 ?_
  refine Z_iconst (v := 1) (by decide) dX8_restore_2 ?_
  refine Z_callSVX (as := [vi p1, vi 0, vi 1]) rfl zcs_X8_restore_X8_requireWithin_110 rfl rfl (zle rfl) dX8_restore_3 ⟨zle rfl, zle rfl⟩ h (fun _ _ q => q) (fun M1 h => ?_)
  refine Z_aload_n dX8_restore_6 rfl 0 rfl ?_
  refine Z_getR (s1 := 13) (i1 := 0) zfl_X8_55 rfl (fun q => by first | exact q | decide) dX8_restore_7 ?_
  refine Z_iload_n dX8_restore_10 rfl 1 rfl ?_
  obtain ⟨g2, h⟩ := h
  refine Z_zald (n := 2) rfl g2 dX8_restore_11 ?_
  refine Z_if_ne (tgt := 17) dX8_restore_12 (by decide) (fun q => ?_) (fun q => ?_)
  · have h := h.1 q
    refine Z_aload_n dX8_restore_17 rfl 0 rfl ?_
    refine Z_getR (s1 := 15) (i1 := 1) zfl_X8_28 rfl (fun q => by first | exact q | decide) dX8_restore_18 ?_
    refine Z_aload_n dX8_restore_21 rfl 0 rfl ?_
    refine Z_getR (s1 := 12) (i1 := 0) zfl_X8_51 rfl (fun q => by first | exact q | decide) dX8_restore_22 ?_
    refine Z_iload_n dX8_restore_25 rfl 1 rfl ?_
    obtain ⟨g3, h⟩ := h
    refine Z_aald (s1 := 15) (i1 := (11 + p1.toNatClampNeg)) (n := 2) (t := 7) rfl (by decide) g3 rfl (fun z => zref_ok_12 g3 z) dX8_restore_26 ?_
    refine Z_callVV (as := [vr 15 (11 + p1.toNatClampNeg)]) zRm_M zcv_X8_restore_X5_copyFrom_89 (ci := 9) rfl rfl rfl rfl (zle rfl) dX8_restore_27 ⟨zle rfl, zle rfl⟩ h (fun M4 h => ?_)
    refine Z_aload_n dX8_restore_30 rfl 0 rfl ?_
    refine Z_getR (s1 := 10) (i1 := 0) zfl_X8_47 rfl (fun q => by first | exact q | decide) dX8_restore_31 ?_
    refine Z_callVV (as := []) zRm_M zcv_X8_restore_X2_forget_93 (ci := 6) rfl rfl rfl rfl (zle rfl) dX8_restore_34 ⟨zle rfl, zle rfl⟩ h (fun M5 h => ?_)
    refine Z_aload_n dX8_restore_37 rfl 0 rfl ?_
    refine Z_getR (s1 := 15) (i1 := 1) zfl_X8_28 rfl (fun q => by first | exact q | decide) dX8_restore_38 ?_
    refine Z_getI zfl_X8_135 dX8_restore_41 ?_
    exact Z_iret rfl rfl dX8_restore_44 (zle rfl) (zle rfl) ⟨_, rfl, h⟩
  · have h := h.2 q
    refine Z_iconst (v := (-1)) (by decide) dX8_restore_15 ?_
    exact Z_iret rfl rfl dX8_restore_16 (zle rfl) (zle rfl) ⟨_, rfl, h⟩
-- X8_save
set_option maxRecDepth 100000 in
set_option maxHeartbeats 4000000 in
theorem zm_X8_save {l : Launch} {G : zG} {p1 : Int32} {M : zM} {Kf : Int32 → zM → Prop} {KX : String → zM → Prop} (h : (zCalVX l G Y_X8_requireWithin 1 6 [vi p1, vi 0, vi 1] M (fun M1 => (vp_in p1 2 ∧ (zCalV l G Y_X5_copyFrom 0 0 [vr 15 (11 + p1.toNatClampNeg), vr 15 1] M1 (fun M3 => (vp_in p1 2 ∧ (Kf (zmI (zsI M3 13 0 p1.toNatClampNeg 1) 15 1 7) (zsI M3 13 0 p1.toNatClampNeg 1))))))) KX)) : zCalIX l G Y_X8_save 1 6 [vr 0 0, vi p1] M Kf KX := by
  refine zCal_of (lv := [(0, vr 0 0), (1, vi p1)]) (by decide) rfl (zle rfl) rfl (fun hv => zlv_args (lv := [(0, vr 0 0), (1, vi p1)]) rfl hv) ?_
  refine Z_iload_n dX8_save_0 rfl 1 rfl ?_
  refine Z_iconst (v := 0) (by decide) dX8_save_1 ?_
  refine Z_iconst (v := 1) (by decide) dX8_save_2 ?_
  refine Z_callSVX (as := [vi p1, vi 0, vi 1]) rfl zcs_X8_save_X8_requireWithin_110 rfl rfl (zle rfl) dX8_save_3 ⟨zle rfl, zle rfl⟩ h (fun _ _ q => q) (fun M1 h => ?_)
  refine Z_aload_n dX8_save_6 rfl 0 rfl ?_
  refine Z_getR (s1 := 12) (i1 := 0) zfl_X8_51 rfl (fun q => by first | exact q | decide) dX8_save_7 ?_
  refine Z_iload_n dX8_save_10 rfl 1 rfl ?_
  obtain ⟨g2, h⟩ := h
  refine Z_aald (s1 := 15) (i1 := (11 + p1.toNatClampNeg)) (n := 2) (t := 7) rfl (by decide) g2 rfl (fun z => zref_ok_12 g2 z) dX8_save_11 ?_
  refine Z_aload_n dX8_save_12 rfl 0 rfl ?_
  refine Z_getR (s1 := 15) (i1 := 1) zfl_X8_28 rfl (fun q => by first | exact q | decide) dX8_save_13 ?_
  refine Z_callVV (as := [vr 15 1]) zRm_M zcv_X8_save_X5_copyFrom_89 (ci := 9) rfl rfl rfl rfl (zle rfl) dX8_save_16 ⟨zle rfl, zle rfl⟩ h (fun M3 h => ?_)
  refine Z_aload_n dX8_save_19 rfl 0 rfl ?_
  refine Z_getR (s1 := 13) (i1 := 0) zfl_X8_55 rfl (fun q => by first | exact q | decide) dX8_save_20 ?_
  refine Z_iload_n dX8_save_23 rfl 1 rfl ?_
  refine Z_iconst (v := 1) (by decide) dX8_save_24 ?_
  obtain ⟨g4, h⟩ := h
  refine Z_zast (n := 2) rfl g4 (by decide) dX8_save_25 ?_
  refine Z_aload_n dX8_save_26 rfl 0 rfl ?_
  refine Z_getR (s1 := 15) (i1 := 1) zfl_X8_28 rfl (fun q => by first | exact q | decide) dX8_save_27 ?_
  refine Z_getI zfl_X8_135 dX8_save_30 ?_
  exact Z_iret rfl rfl dX8_save_33 (zle rfl) (zle rfl) ⟨_, rfl, h⟩
-- X8_size
set_option maxRecDepth 100000 in
set_option maxHeartbeats 4000000 in
theorem zm_X8_size {l : Launch} {G : zG} {p1 : Int32} {M : zM} {Kf : Int32 → zM → Prop} {KX : String → zM → Prop} (h : (zCalVX l G Y_X8_requireWithin 1 6 [vi p1, vi 0, vi 14] M (fun M1 => ((p1 = 0 → (Kf (zmI M1 15 1 0) M1)) ∧ (p1 = 1 → (Kf (zmI M1 15 1 1) M1)) ∧ (p1 = 2 → (Kf (zmI M1 15 1 2) M1)) ∧ (p1 = 3 → (Kf (zmI M1 15 1 3) M1)) ∧ (p1 = 4 → (Kf (zmI M1 15 1 4) M1)) ∧ (p1 = 5 → (Kf (zmI M1 15 1 5) M1)) ∧ (p1 = 6 → (Kf (zmI M1 15 1 6) M1)) ∧ (p1 = 7 → (Kf (zmI M1 15 1 7) M1)) ∧ (p1 = 8 → (Kf (zmI M1 19 1 1) M1)) ∧ (p1 = 9 → (Kf (zmI M1 15 1 8) M1)) ∧ (p1 = 10 → (Kf (zmI M1 15 1 9) M1)) ∧ (p1 = 11 → (Kf (zmI M1 15 1 12) M1)) ∧ (p1 = 12 → (zCalI l G Y_X5_flowsOn 0 0 [vr 15 1] M1 (fun x3 M2 => (Kf x3 M2)))) ∧ (p1 = 13 → (Kf (zmI M1 21 1 1) M1)) ∧ (¬ p1 = 0 ∧ ¬ p1 = 1 ∧ ¬ p1 = 2 ∧ ¬ p1 = 3 ∧ ¬ p1 = 4 ∧ ¬ p1 = 5 ∧ ¬ p1 = 6 ∧ ¬ p1 = 7 ∧ ¬ p1 = 8 ∧ ¬ p1 = 9 ∧ ¬ p1 = 10 ∧ ¬ p1 = 11 ∧ ¬ p1 = 12 ∧ ¬ p1 = 13 → (Kf (zmI M1 10 0 2) M1)))) KX)) : zCalIX l G Y_X8_size 1 6 [vr 0 0, vi p1] M Kf KX := by
  refine zCal_of (lv := [(0, vr 0 0), (1, vi p1)]) (by decide) rfl (zle rfl) rfl (fun hv => zlv_args (lv := [(0, vr 0 0), (1, vi p1)]) rfl hv) ?_
  refine Z_iload_n dX8_size_0 rfl 1 rfl ?_
  refine Z_iconst (v := 0) (by decide) dX8_size_1 ?_
  refine Z_bipush (v := 14) (by decide) dX8_size_2 ?_
  refine Z_callSVX (as := [vi p1, vi 0, vi 14]) rfl zcs_X8_size_X8_requireWithin_110 rfl rfl (zle rfl) dX8_size_4 ⟨zle rfl, zle rfl⟩ h (fun _ _ q => q) (fun M1 h => ?_)
  refine Z_iload_n dX8_size_7 rfl 1 rfl ?_
  by_cases qs0 : p1 = 0
  · have h := h.1 qs0
    refine Z_tabIn (x := p1) dX8_size_8 (j := 0) (by rw [qs0]; decide) (off := 72) (tgt := 80) rfl (by decide) ?_
    refine Z_aload_n dX8_size_80 rfl 0 rfl ?_
    refine Z_getR (s1 := 15) (i1 := 1) zfl_X8_28 rfl (fun q => by first | exact q | decide) dX8_size_81 ?_
    refine Z_getI zfl_X8_114 dX8_size_84 ?_
    exact Z_iret rfl rfl dX8_size_87 (zle rfl) (zle rfl) ⟨_, rfl, h⟩
  by_cases qs1 : p1 = 1
  · have h := h.2.1 qs1
    refine Z_tabIn (x := p1) dX8_size_8 (j := 1) (by rw [qs1]; decide) (off := 80) (tgt := 88) rfl (by decide) ?_
    refine Z_aload_n dX8_size_88 rfl 0 rfl ?_
    refine Z_getR (s1 := 15) (i1 := 1) zfl_X8_28 rfl (fun q => by first | exact q | decide) dX8_size_89 ?_
    refine Z_getI zfl_X8_117 dX8_size_92 ?_
    exact Z_iret rfl rfl dX8_size_95 (zle rfl) (zle rfl) ⟨_, rfl, h⟩
  by_cases qs2 : p1 = 2
  · have h := h.2.2.1 qs2
    refine Z_tabIn (x := p1) dX8_size_8 (j := 2) (by rw [qs2]; decide) (off := 88) (tgt := 96) rfl (by decide) ?_
    refine Z_aload_n dX8_size_96 rfl 0 rfl ?_
    refine Z_getR (s1 := 15) (i1 := 1) zfl_X8_28 rfl (fun q => by first | exact q | decide) dX8_size_97 ?_
    refine Z_getI zfl_X8_120 dX8_size_100 ?_
    exact Z_iret rfl rfl dX8_size_103 (zle rfl) (zle rfl) ⟨_, rfl, h⟩
  by_cases qs3 : p1 = 3
  · have h := h.2.2.2.1 qs3
    refine Z_tabIn (x := p1) dX8_size_8 (j := 3) (by rw [qs3]; decide) (off := 96) (tgt := 104) rfl (by decide) ?_
    refine Z_aload_n dX8_size_104 rfl 0 rfl ?_
    refine Z_getR (s1 := 15) (i1 := 1) zfl_X8_28 rfl (fun q => by first | exact q | decide) dX8_size_105 ?_
    refine Z_getI zfl_X8_123 dX8_size_108 ?_
    exact Z_iret rfl rfl dX8_size_111 (zle rfl) (zle rfl) ⟨_, rfl, h⟩
  by_cases qs4 : p1 = 4
  · have h := h.2.2.2.2.1 qs4
    refine Z_tabIn (x := p1) dX8_size_8 (j := 4) (by rw [qs4]; decide) (off := 104) (tgt := 112) rfl (by decide) ?_
    refine Z_aload_n dX8_size_112 rfl 0 rfl ?_
    refine Z_getR (s1 := 15) (i1 := 1) zfl_X8_28 rfl (fun q => by first | exact q | decide) dX8_size_113 ?_
    refine Z_getI zfl_X8_126 dX8_size_116 ?_
    exact Z_iret rfl rfl dX8_size_119 (zle rfl) (zle rfl) ⟨_, rfl, h⟩
  by_cases qs5 : p1 = 5
  · have h := h.2.2.2.2.2.1 qs5
    refine Z_tabIn (x := p1) dX8_size_8 (j := 5) (by rw [qs5]; decide) (off := 112) (tgt := 120) rfl (by decide) ?_
    refine Z_aload_n dX8_size_120 rfl 0 rfl ?_
    refine Z_getR (s1 := 15) (i1 := 1) zfl_X8_28 rfl (fun q => by first | exact q | decide) dX8_size_121 ?_
    refine Z_getI zfl_X8_129 dX8_size_124 ?_
    exact Z_iret rfl rfl dX8_size_127 (zle rfl) (zle rfl) ⟨_, rfl, h⟩
  by_cases qs6 : p1 = 6
  · have h := h.2.2.2.2.2.2.1 qs6
    refine Z_tabIn (x := p1) dX8_size_8 (j := 6) (by rw [qs6]; decide) (off := 120) (tgt := 128) rfl (by decide) ?_
    refine Z_aload_n dX8_size_128 rfl 0 rfl ?_
    refine Z_getR (s1 := 15) (i1 := 1) zfl_X8_28 rfl (fun q => by first | exact q | decide) dX8_size_129 ?_
    refine Z_getI zfl_X8_132 dX8_size_132 ?_
    exact Z_iret rfl rfl dX8_size_135 (zle rfl) (zle rfl) ⟨_, rfl, h⟩
  by_cases qs7 : p1 = 7
  · have h := h.2.2.2.2.2.2.2.1 qs7
    refine Z_tabIn (x := p1) dX8_size_8 (j := 7) (by rw [qs7]; decide) (off := 128) (tgt := 136) rfl (by decide) ?_
    refine Z_aload_n dX8_size_136 rfl 0 rfl ?_
    refine Z_getR (s1 := 15) (i1 := 1) zfl_X8_28 rfl (fun q => by first | exact q | decide) dX8_size_137 ?_
    refine Z_getI zfl_X8_135 dX8_size_140 ?_
    exact Z_iret rfl rfl dX8_size_143 (zle rfl) (zle rfl) ⟨_, rfl, h⟩
  by_cases qs8 : p1 = 8
  · have h := h.2.2.2.2.2.2.2.2.1 qs8
    refine Z_tabIn (x := p1) dX8_size_8 (j := 8) (by rw [qs8]; decide) (off := 136) (tgt := 144) rfl (by decide) ?_
    refine Z_aload_n dX8_size_144 rfl 0 rfl ?_
    refine Z_getR (s1 := 15) (i1 := 1) zfl_X8_28 rfl (fun q => by first | exact q | decide) dX8_size_145 ?_
    refine Z_getR (s1 := 19) (i1 := 1) zfl_X8_138 rfl (fun q => by first | exact q | decide) dX8_size_148 ?_
    refine Z_getI zfl_X8_142 dX8_size_151 ?_
    exact Z_iret rfl rfl dX8_size_154 (zle rfl) (zle rfl) ⟨_, rfl, h⟩
  by_cases qs9 : p1 = 9
  · have h := h.2.2.2.2.2.2.2.2.2.1 qs9
    refine Z_tabIn (x := p1) dX8_size_8 (j := 9) (by rw [qs9]; decide) (off := 147) (tgt := 155) rfl (by decide) ?_
    refine Z_aload_n dX8_size_155 rfl 0 rfl ?_
    refine Z_getR (s1 := 15) (i1 := 1) zfl_X8_28 rfl (fun q => by first | exact q | decide) dX8_size_156 ?_
    refine Z_getI zfl_X8_145 dX8_size_159 ?_
    exact Z_iret rfl rfl dX8_size_162 (zle rfl) (zle rfl) ⟨_, rfl, h⟩
  by_cases qs10 : p1 = 10
  · have h := h.2.2.2.2.2.2.2.2.2.2.1 qs10
    refine Z_tabIn (x := p1) dX8_size_8 (j := 10) (by rw [qs10]; decide) (off := 155) (tgt := 163) rfl (by decide) ?_
    refine Z_aload_n dX8_size_163 rfl 0 rfl ?_
    refine Z_getR (s1 := 15) (i1 := 1) zfl_X8_28 rfl (fun q => by first | exact q | decide) dX8_size_164 ?_
    refine Z_getI zfl_X8_148 dX8_size_167 ?_
    exact Z_iret rfl rfl dX8_size_170 (zle rfl) (zle rfl) ⟨_, rfl, h⟩
  by_cases qs11 : p1 = 11
  · have h := h.2.2.2.2.2.2.2.2.2.2.2.1 qs11
    refine Z_tabIn (x := p1) dX8_size_8 (j := 11) (by rw [qs11]; decide) (off := 163) (tgt := 171) rfl (by decide) ?_
    refine Z_aload_n dX8_size_171 rfl 0 rfl ?_
    refine Z_getR (s1 := 15) (i1 := 1) zfl_X8_28 rfl (fun q => by first | exact q | decide) dX8_size_172 ?_
    refine Z_getI zfl_X8_96 dX8_size_175 ?_
    exact Z_iret rfl rfl dX8_size_178 (zle rfl) (zle rfl) ⟨_, rfl, h⟩
  by_cases qs12 : p1 = 12
  · have h := h.2.2.2.2.2.2.2.2.2.2.2.2.1 qs12
    refine Z_tabIn (x := p1) dX8_size_8 (j := 12) (by rw [qs12]; decide) (off := 171) (tgt := 179) rfl (by decide) ?_
    refine Z_aload_n dX8_size_179 rfl 0 rfl ?_
    refine Z_getR (s1 := 15) (i1 := 1) zfl_X8_28 rfl (fun q => by first | exact q | decide) dX8_size_180 ?_
    refine Z_callVI (as := []) zRm_M zcv_X8_size_X5_flowsOn_151 (ci := 9) rfl rfl rfl rfl (zle rfl) dX8_size_183 ⟨zle rfl, zle rfl⟩ h (fun x3 M2 h => ?_)
    exact Z_iret rfl rfl dX8_size_186 (zle rfl) (zle rfl) ⟨_, rfl, h⟩
  by_cases qs13 : p1 = 13
  · have h := h.2.2.2.2.2.2.2.2.2.2.2.2.2.1 qs13
    refine Z_tabIn (x := p1) dX8_size_8 (j := 13) (by rw [qs13]; decide) (off := 179) (tgt := 187) rfl (by decide) ?_
    refine Z_aload_n dX8_size_187 rfl 0 rfl ?_
    refine Z_getR (s1 := 15) (i1 := 1) zfl_X8_28 rfl (fun q => by first | exact q | decide) dX8_size_188 ?_
    refine Z_getR (s1 := 21) (i1 := 1) zfl_X8_154 rfl (fun q => by first | exact q | decide) dX8_size_191 ?_
    refine Z_getI zfl_X8_158 dX8_size_194 ?_
    exact Z_iret rfl rfl dX8_size_197 (zle rfl) (zle rfl) ⟨_, rfl, h⟩
  have h := h.2.2.2.2.2.2.2.2.2.2.2.2.2.2 ⟨qs0, qs1, qs2, qs3, qs4, qs5, qs6, qs7, qs8, qs9, qs10, qs11, qs12, qs13⟩
  refine Z_tabOut (x := p1) dX8_size_8 (zsw14 qs0 qs1 qs2 qs3 qs4 qs5 qs6 qs7 qs8 qs9 qs10 qs11 qs12 qs13) (tgt := 198) (by decide) ?_
  refine Z_aload_n dX8_size_198 rfl 0 rfl ?_
  refine Z_getR (s1 := 10) (i1 := 0) zfl_X8_47 rfl (fun q => by first | exact q | decide) dX8_size_199 ?_
  refine Z_getI zfl_X8_163 dX8_size_202 ?_
  exact Z_iret rfl rfl dX8_size_205 (zle rfl) (zle rfl) ⟨_, rfl, h⟩
-- X8_sureBurst
set_option maxRecDepth 100000 in
set_option maxHeartbeats 4000000 in
theorem zm_X8_sureBurst {l : Launch} {G : zG} {p1 : Int32} {M : zM} {Kf : Int32 → zM → Prop} {KX : String → zM → Prop} (h : (zCalVX l G Y_X8_requireWithin 1 6 [vi p1, vi 1, vi 100] M (fun M1 => (vf_n64 (FP.ddiv (FP.i2d p1) 4636737291354636288) ∧ zAt l G Y_X8_sureBurst (zEM G Y_X8_sureBurst 1 6 (zKI Kf, some KX)) 20 [(0, vr 0 0), (2, vd (FP.ddiv (FP.i2d p1) 4636737291354636288)), (4, vi 0), (5, vi 1)] [] M1 1 6)) KX)) : zCalIX l G Y_X8_sureBurst 1 6 [vr 0 0, vi p1] M Kf KX := by
  refine zCal_of (lv := [(0, vr 0 0), (1, vi p1)]) (by decide) rfl (zle rfl) rfl (fun hv => zlv_args (lv := [(0, vr 0 0), (1, vi p1)]) rfl hv) ?_
  refine Z_iload_n dX8_sureBurst_0 rfl 1 rfl ?_
  refine Z_iconst (v := 1) (by decide) dX8_sureBurst_1 ?_
  refine Z_bipush (v := 100) (by decide) dX8_sureBurst_2 ?_
  refine Z_callSVX (as := [vi p1, vi 1, vi 100]) rfl zcs_X8_sureBurst_X8_requireWithin_110 rfl rfl (zle rfl) dX8_sureBurst_4 ⟨zle rfl, zle rfl⟩ h (fun _ _ q => q) (fun M1 h => ?_)
  refine Z_iload_n dX8_sureBurst_7 rfl 1 rfl ?_
  refine Z_i2d dX8_sureBurst_8 ?_
  refine Z_ldc2d (v := 4636737291354636288) zw_1447 dX8_sureBurst_9 ?_
  obtain ⟨g2, h⟩ := h
  refine Z_ddiv dX8_sureBurst_12 g2 ?_
  refine Z_dstore_n (lv2 := [(2, vd (FP.ddiv (FP.i2d p1) 4636737291354636288)), (0, vr 0 0), (1, vi p1)]) dX8_sureBurst_13 rfl (by decide) rfl ?_
  refine Z_iconst (v := 0) (by decide) dX8_sureBurst_14 ?_
  refine Z_istore (lv2 := [(4, vi 0), (2, vd (FP.ddiv (FP.i2d p1) 4636737291354636288)), (0, vr 0 0), (1, vi p1)]) dX8_sureBurst_15 (by decide) rfl ?_
  refine Z_iconst (v := 1) (by decide) dX8_sureBurst_17 ?_
  refine Z_istore (lv2 := [(5, vi 1), (4, vi 0), (2, vd (FP.ddiv (FP.i2d p1) 4636737291354636288)), (0, vr 0 0), (1, vi p1)]) dX8_sureBurst_18 (by decide) rfl ?_
  exact Z_pick [3, 2, 1, 0] rfl h
set_option maxRecDepth 100000 in
set_option maxHeartbeats 4000000 in
theorem zb_X8_sureBurst_20 {l : Launch} {G : zG} {y2 : UInt64} {y4 : Int32} {y5 : Int32} {M : zM} {Kf : Int32 → zM → Prop} {KX : String → zM → Prop} (h : ((60 < y5 → (Kf y4 M)) ∧ (¬ 60 < y5 → (zCalD l G Y_X8_shareLetIn 0 0 [vr 0 0, vi y5] M (fun x2 M1 => (((Op.cmpValue (FP.dcmp x2 y2) .l) < 0 → zAt l G Y_X8_sureBurst (zEM G Y_X8_sureBurst 1 6 (zKI Kf, some KX)) 42 [(0, vr 0 0), (2, vd y2), (4, vi y4), (5, vi y5)] [] M1 1 6) ∧ (¬ (Op.cmpValue (FP.dcmp x2 y2) .l) < 0 → zAt l G Y_X8_sureBurst (zEM G Y_X8_sureBurst 1 6 (zKI Kf, some KX)) 42 [(0, vr 0 0), (2, vd y2), (4, vi y5), (5, vi y5)] [] M1 1 6))))))) : zAt l G Y_X8_sureBurst (zEM G Y_X8_sureBurst 1 6 (zKI Kf, some KX)) 20 [(0, vr 0 0), (2, vd y2), (4, vi y4), (5, vi y5)] [] M 1 6 := by
  refine Z_iload dX8_sureBurst_20 3 rfl ?_
  refine Z_bipush (v := 60) (by decide) dX8_sureBurst_22 ?_
  refine Z_icmp_gt (tgt := 48) dX8_sureBurst_24 (by decide) (fun q => ?_) (fun q => ?_)
  · have h := h.1 q
    refine Z_iload dX8_sureBurst_48 2 rfl ?_
    exact Z_iret rfl rfl dX8_sureBurst_50 (zle rfl) (zle rfl) ⟨_, rfl, h⟩
  · have h := h.2 q
    refine Z_aload_n dX8_sureBurst_27 rfl 0 rfl ?_
    refine Z_iload dX8_sureBurst_28 3 rfl ?_
    refine Z_callVD (as := [vi y5]) zRm_M zcv_X8_sureBurst_X8_shareLetIn_256 (ci := 12) rfl rfl rfl rfl (zle rfl) dX8_sureBurst_30 ⟨zle rfl, zle rfl⟩ h (fun x2 M1 h => ?_)
    refine Z_dload_n dX8_sureBurst_33 rfl 1 rfl ?_
    refine Z_dcmp dX8_sureBurst_34 ?_
    refine Z_if_lt (tgt := 42) dX8_sureBurst_35 (by decide) (fun q => ?_) (fun q => ?_)
    · have h := h.1 q
      exact h
    · have h := h.2 q
      refine Z_iload dX8_sureBurst_38 3 rfl ?_
      refine Z_istore (lv2 := [(4, vi y5), (0, vr 0 0), (2, vd y2), (5, vi y5)]) dX8_sureBurst_40 (by decide) rfl ?_
      exact Z_pick [1, 2, 0, 3] rfl h
set_option maxRecDepth 100000 in
set_option maxHeartbeats 4000000 in
theorem zb_X8_sureBurst_42 {l : Launch} {G : zG} {y2 : UInt64} {y4 : Int32} {y5 : Int32} {M : zM} {Kf : Int32 → zM → Prop} {KX : String → zM → Prop} (h : zAt l G Y_X8_sureBurst (zEM G Y_X8_sureBurst 1 6 (zKI Kf, some KX)) 20 [(0, vr 0 0), (2, vd y2), (4, vi y4), (5, vi (y5 + 1))] [] M 1 6) : zAt l G Y_X8_sureBurst (zEM G Y_X8_sureBurst 1 6 (zKI Kf, some KX)) 42 [(0, vr 0 0), (2, vd y2), (4, vi y4), (5, vi y5)] [] M 1 6 := by
  refine Z_iinc (v := (y5 + 1)) (lv2 := [(5, vi (y5 + 1)), (0, vr 0 0), (2, vd y2), (4, vi y4)]) dX8_sureBurst_42 3 rfl rfl (by decide) rfl ?_
  refine Z_goto (tgt := 20) dX8_sureBurst_45 (by decide) ?_
  exact Z_pick [1, 2, 3, 0] rfl h
-- X8_account
set_option maxRecDepth 100000 in
set_option maxHeartbeats 4000000 in
theorem zm_X8_account {l : Launch} {G : zG} {p1 : Int32} {p2 : Int32} {M : zM} {Kf : Int64 → zM → Prop} {KX : String → zM → Prop} (h : (zCalVX l G Y_X8_requireFlowOrNone 1 6 [vr 0 0, vi p1] M (fun M1 => (zCalVX l G Y_X8_requireWithin 1 6 [vi p2, vi 0, vi 7] M1 (fun M2 => (zCalL l G Y_X5_total 0 0 [vr 15 1, vi p1, vi p2] M2 (fun x4 M3 => (Kf x4 M3)))) KX)) KX)) : zCalLX l G Y_X8_account 2 12 [vr 0 0, vi p1, vi p2] M Kf KX := by
  refine zCal_of (lv := [(0, vr 0 0), (1, vi p1), (2, vi p2)]) (by decide) rfl (zle rfl) rfl (fun hv => zlv_args (lv := [(0, vr 0 0), (1, vi p1), (2, vi p2)]) rfl hv) ?_
  refine Z_aload_n dX8_account_0 rfl 0 rfl ?_
  refine Z_iload_n dX8_account_1 rfl 1 rfl ?_
  refine Z_callVVX (as := [vi p1]) rfl zcv_X8_account_X8_requireFlowOrNone_224 (ci := 12) rfl rfl rfl rfl (zle rfl) dX8_account_2 ⟨zle rfl, zle rfl⟩ h (fun _ _ q => q) (fun M1 h => ?_)
  refine Z_iload_n dX8_account_5 rfl 2 rfl ?_
  refine Z_iconst (v := 0) (by decide) dX8_account_6 ?_
  refine Z_bipush (v := 7) (by decide) dX8_account_7 ?_
  refine Z_callSVX (as := [vi p2, vi 0, vi 7]) rfl zcs_X8_account_X8_requireWithin_110 rfl rfl (zle rfl) dX8_account_9 ⟨zle rfl, zle rfl⟩ h (fun _ _ q => q) (fun M2 h => ?_)
  refine Z_aload_n dX8_account_12 rfl 0 rfl ?_
  refine Z_getR (s1 := 15) (i1 := 1) zfl_X8_28 rfl (fun q => by first | exact q | decide) dX8_account_13 ?_
  refine Z_iload_n dX8_account_16 rfl 1 rfl ?_
  refine Z_iload_n dX8_account_17 rfl 2 rfl ?_
  refine Z_callVL (as := [vi p1, vi p2]) zRm_M zcv_X8_account_X5_total_227 (ci := 9) rfl rfl rfl rfl (zle rfl) dX8_account_18 ⟨zle rfl, zle rfl⟩ h (fun x4 M3 h => ?_)
  exact Z_lret rfl dX8_account_21 (zle rfl) (zle rfl) ⟨_, rfl, h⟩
-- X8_flow
set_option maxRecDepth 100000 in
set_option maxHeartbeats 4000000 in
theorem zm_X8_flow {l : Launch} {G : zG} {p1 : Int32} {p2 : Int32} {M : zM} {Kf : Int32 → zM → Prop} {KX : String → zM → Prop} (h : (zCalRX l G Y_X8_flowAt 1 6 [vr 0 0, vi p1] M (fun x2 M1 => x2 = (17, (6 * 1 + p1.toNatClampNeg)) ∧ (zCalVX l G Y_X8_requireWithin 1 6 [vi p2, vi 0, vi 10] M1 (fun M3 => ((p2 = 0 → (Kf (zmI M3 17 (6 * 1 + p1.toNatClampNeg) 1) M3)) ∧ (p2 = 1 → (Kf (zmI M3 17 (6 * 1 + p1.toNatClampNeg) 2) M3)) ∧ (p2 = 2 → (Kf (zmI M3 17 (6 * 1 + p1.toNatClampNeg) 3) M3)) ∧ (p2 = 3 → (Kf (zmI M3 17 (6 * 1 + p1.toNatClampNeg) 4) M3)) ∧ (p2 = 4 → (((zmI M3 17 (6 * 1 + p1.toNatClampNeg) 5) = 0 → (Kf 0 M3)) ∧ (¬ (zmI M3 17 (6 * 1 + p1.toNatClampNeg) 5) = 0 → (Kf 1 M3)))) ∧ (p2 = 5 → (((zmI M3 17 (6 * 1 + p1.toNatClampNeg) 6) = 0 → (Kf 0 M3)) ∧ (¬ (zmI M3 17 (6 * 1 + p1.toNatClampNeg) 6) = 0 → (Kf 1 M3)))) ∧ (p2 = 6 → (Kf (zmI M3 17 (6 * 1 + p1.toNatClampNeg) 7) M3)) ∧ (p2 = 7 → (((zmI M3 17 (6 * 1 + p1.toNatClampNeg) 8) = 0 → (Kf 0 M3)) ∧ (¬ (zmI M3 17 (6 * 1 + p1.toNatClampNeg) 8) = 0 → (Kf 1 M3)))) ∧ (p2 = 8 → (zCalI l G Y_X3_packetsOf 0 0 [vr 19 1, vi p1] M3 (fun x5 M4 => (Kf x5 M4)))) ∧ (p2 = 9 → (zCalI l G Y_X1_ticksToSending 0 0 [vr 17 (6 * 1 + p1.toNatClampNeg), vi (zmI M3 15 1 7)] M3 (fun x7 M6 => (Kf x7 M6)))) ∧ (¬ p2 = 0 ∧ ¬ p2 = 1 ∧ ¬ p2 = 2 ∧ ¬ p2 = 3 ∧ ¬ p2 = 4 ∧ ¬ p2 = 5 ∧ ¬ p2 = 6 ∧ ¬ p2 = 7 ∧ ¬ p2 = 8 ∧ ¬ p2 = 9 → (Kf (zmI M3 17 (6 * 1 + p1.toNatClampNeg) 9) M3)))) KX)) KX)) : zCalIX l G Y_X8_flow 2 12 [vr 0 0, vi p1, vi p2] M Kf KX := by
  refine zCal_of (lv := [(0, vr 0 0), (1, vi p1), (2, vi p2)]) (by decide) rfl (zle rfl) rfl (fun hv => zlv_args (lv := [(0, vr 0 0), (1, vi p1), (2, vi p2)]) rfl hv) ?_
  refine Z_aload_n dX8_flow_0 rfl 0 rfl ?_
  refine Z_iload_n dX8_flow_1 rfl 1 rfl ?_
  refine Z_callVRX (as := [vi p1]) rfl zcv_X8_flow_X8_flowAt_164 (ci := 12) rfl rfl rfl rfl (zle rfl) dX8_flow_2 ⟨zle rfl, zle rfl⟩ h (fun _ _ q => q) (fun x2 M1 h => ?_)
  obtain ⟨rfl, h⟩ := h
  refine Z_astore_n (lv2 := [(3, vr 17 (6 * 1 + p1.toNatClampNeg)), (0, vr 0 0), (1, vi p1), (2, vi p2)]) dX8_flow_5 rfl (by decide) rfl ?_
  refine Z_iload_n dX8_flow_6 rfl 3 rfl ?_
  refine Z_iconst (v := 0) (by decide) dX8_flow_7 ?_
  refine Z_bipush (v := 10) (by decide) dX8_flow_8 ?_
  refine Z_callSVX (as := [vi p2, vi 0, vi 10]) rfl zcs_X8_flow_X8_requireWithin_110 rfl rfl (zle rfl) dX8_flow_10 ⟨zle rfl, zle rfl⟩ h (fun _ _ q => q) (fun M3 h => ?_)
  refine Z_iload_n dX8_flow_13 rfl 3 rfl ?_
  by_cases qs0 : p2 = 0
  · have h := h.1 qs0
    refine Z_tabIn (x := p2) dX8_flow_14 (j := 0) (by rw [qs0]; decide) (off := 54) (tgt := 68) rfl (by decide) ?_
    refine Z_aload_n dX8_flow_68 rfl 0 rfl ?_
    refine Z_getI zfl_X8_168 dX8_flow_69 ?_
    exact Z_iret rfl rfl dX8_flow_72 (zle rfl) (zle rfl) ⟨_, rfl, h⟩
  by_cases qs1 : p2 = 1
  · have h := h.2.1 qs1
    refine Z_tabIn (x := p2) dX8_flow_14 (j := 1) (by rw [qs1]; decide) (off := 59) (tgt := 73) rfl (by decide) ?_
    refine Z_aload_n dX8_flow_73 rfl 0 rfl ?_
    refine Z_getI zfl_X8_173 dX8_flow_74 ?_
    exact Z_iret rfl rfl dX8_flow_77 (zle rfl) (zle rfl) ⟨_, rfl, h⟩
  by_cases qs2 : p2 = 2
  · have h := h.2.2.1 qs2
    refine Z_tabIn (x := p2) dX8_flow_14 (j := 2) (by rw [qs2]; decide) (off := 64) (tgt := 78) rfl (by decide) ?_
    refine Z_aload_n dX8_flow_78 rfl 0 rfl ?_
    refine Z_getI zfl_X8_176 dX8_flow_79 ?_
    exact Z_iret rfl rfl dX8_flow_82 (zle rfl) (zle rfl) ⟨_, rfl, h⟩
  by_cases qs3 : p2 = 3
  · have h := h.2.2.2.1 qs3
    refine Z_tabIn (x := p2) dX8_flow_14 (j := 3) (by rw [qs3]; decide) (off := 69) (tgt := 83) rfl (by decide) ?_
    refine Z_aload_n dX8_flow_83 rfl 0 rfl ?_
    refine Z_getI zfl_X8_179 dX8_flow_84 ?_
    exact Z_iret rfl rfl dX8_flow_87 (zle rfl) (zle rfl) ⟨_, rfl, h⟩
  by_cases qs4 : p2 = 4
  · have h := h.2.2.2.2.1 qs4
    refine Z_tabIn (x := p2) dX8_flow_14 (j := 4) (by rw [qs4]; decide) (off := 74) (tgt := 88) rfl (by decide) ?_
    refine Z_aload_n dX8_flow_88 rfl 0 rfl ?_
    refine Z_getI zfl_X8_182 dX8_flow_89 ?_
    refine Z_if_eq (tgt := 99) dX8_flow_92 (by decide) (fun q => ?_) (fun q => ?_)
    · have h := h.1 q
      refine Z_iconst (v := 0) (by decide) dX8_flow_99 ?_
      exact Z_iret rfl rfl dX8_flow_100 (zle rfl) (zle rfl) ⟨_, rfl, h⟩
    · have h := h.2 q
      refine Z_iconst (v := 1) (by decide) dX8_flow_95 ?_
      refine Z_goto (tgt := 100) dX8_flow_96 (by decide) ?_
      exact Z_iret rfl rfl dX8_flow_100 (zle rfl) (zle rfl) ⟨_, rfl, h⟩
  by_cases qs5 : p2 = 5
  · have h := h.2.2.2.2.2.1 qs5
    refine Z_tabIn (x := p2) dX8_flow_14 (j := 5) (by rw [qs5]; decide) (off := 87) (tgt := 101) rfl (by decide) ?_
    refine Z_aload_n dX8_flow_101 rfl 0 rfl ?_
    refine Z_getI zfl_X8_186 dX8_flow_102 ?_
    refine Z_if_eq (tgt := 112) dX8_flow_105 (by decide) (fun q => ?_) (fun q => ?_)
    · have h := h.1 q
      refine Z_iconst (v := 0) (by decide) dX8_flow_112 ?_
      exact Z_iret rfl rfl dX8_flow_113 (zle rfl) (zle rfl) ⟨_, rfl, h⟩
    · have h := h.2 q
      refine Z_iconst (v := 1) (by decide) dX8_flow_108 ?_
      refine Z_goto (tgt := 113) dX8_flow_109 (by decide) ?_
      exact Z_iret rfl rfl dX8_flow_113 (zle rfl) (zle rfl) ⟨_, rfl, h⟩
  by_cases qs6 : p2 = 6
  · have h := h.2.2.2.2.2.2.1 qs6
    refine Z_tabIn (x := p2) dX8_flow_14 (j := 6) (by rw [qs6]; decide) (off := 100) (tgt := 114) rfl (by decide) ?_
    refine Z_aload_n dX8_flow_114 rfl 0 rfl ?_
    refine Z_getI zfl_X8_189 dX8_flow_115 ?_
    exact Z_iret rfl rfl dX8_flow_118 (zle rfl) (zle rfl) ⟨_, rfl, h⟩
  by_cases qs7 : p2 = 7
  · have h := h.2.2.2.2.2.2.2.1 qs7
    refine Z_tabIn (x := p2) dX8_flow_14 (j := 7) (by rw [qs7]; decide) (off := 105) (tgt := 119) rfl (by decide) ?_
    refine Z_aload_n dX8_flow_119 rfl 0 rfl ?_
    refine Z_getI zfl_X8_192 dX8_flow_120 ?_
    refine Z_if_eq (tgt := 130) dX8_flow_123 (by decide) (fun q => ?_) (fun q => ?_)
    · have h := h.1 q
      refine Z_iconst (v := 0) (by decide) dX8_flow_130 ?_
      exact Z_iret rfl rfl dX8_flow_131 (zle rfl) (zle rfl) ⟨_, rfl, h⟩
    · have h := h.2 q
      refine Z_iconst (v := 1) (by decide) dX8_flow_126 ?_
      refine Z_goto (tgt := 131) dX8_flow_127 (by decide) ?_
      exact Z_iret rfl rfl dX8_flow_131 (zle rfl) (zle rfl) ⟨_, rfl, h⟩
  by_cases qs8 : p2 = 8
  · have h := h.2.2.2.2.2.2.2.2.1 qs8
    refine Z_tabIn (x := p2) dX8_flow_14 (j := 8) (by rw [qs8]; decide) (off := 118) (tgt := 132) rfl (by decide) ?_
    refine Z_aload_n dX8_flow_132 rfl 1 rfl ?_
    refine Z_getR (s1 := 15) (i1 := 1) zfl_X8_28 rfl (fun q => by first | exact q | decide) dX8_flow_133 ?_
    refine Z_getR (s1 := 19) (i1 := 1) zfl_X8_138 rfl (fun q => by first | exact q | decide) dX8_flow_136 ?_
    refine Z_iload_n dX8_flow_139 rfl 2 rfl ?_
    refine Z_callVI (as := [vi p1]) zRm_M zcv_X8_flow_X3_packetsOf_195 (ci := 7) rfl rfl rfl rfl (zle rfl) dX8_flow_140 ⟨zle rfl, zle rfl⟩ h (fun x5 M4 h => ?_)
    exact Z_iret rfl rfl dX8_flow_143 (zle rfl) (zle rfl) ⟨_, rfl, h⟩
  by_cases qs9 : p2 = 9
  · have h := h.2.2.2.2.2.2.2.2.2.1 qs9
    refine Z_tabIn (x := p2) dX8_flow_14 (j := 9) (by rw [qs9]; decide) (off := 130) (tgt := 144) rfl (by decide) ?_
    refine Z_aload_n dX8_flow_144 rfl 0 rfl ?_
    refine Z_aload_n dX8_flow_145 rfl 1 rfl ?_
    refine Z_getR (s1 := 15) (i1 := 1) zfl_X8_28 rfl (fun q => by first | exact q | decide) dX8_flow_146 ?_
    refine Z_getI zfl_X8_135 dX8_flow_149 ?_
    refine Z_callVI (as := [vi (zmI M3 15 1 7)]) zRm_M zcv_X8_flow_X1_ticksToSending_198 (ci := 5) rfl rfl rfl rfl (zle rfl) dX8_flow_152 ⟨zle rfl, zle rfl⟩ h (fun x7 M6 h => ?_)
    exact Z_iret rfl rfl dX8_flow_155 (zle rfl) (zle rfl) ⟨_, rfl, h⟩
  have h := h.2.2.2.2.2.2.2.2.2.2 ⟨qs0, qs1, qs2, qs3, qs4, qs5, qs6, qs7, qs8, qs9⟩
  refine Z_tabOut (x := p2) dX8_flow_14 (zsw10 qs0 qs1 qs2 qs3 qs4 qs5 qs6 qs7 qs8 qs9) (tgt := 156) (by decide) ?_
  refine Z_aload_n dX8_flow_156 rfl 0 rfl ?_
  refine Z_getI zfl_X8_201 dX8_flow_157 ?_
  exact Z_iret rfl rfl dX8_flow_160 (zle rfl) (zle rfl) ⟨_, rfl, h⟩
-- X8_letter
set_option maxRecDepth 100000 in
set_option maxHeartbeats 4000000 in
theorem zm_X8_letter {l : Launch} {G : zG} {p1 : Int32} {p2 : Int32} {M : zM} {Kf : Int32 → zM → Prop} {KX : String → zM → Prop} (h : (zCalRX l G Y_X8_flowAt 1 6 [vr 0 0, vi p1] M (fun x2 M1 => x2 = (17, (6 * 1 + p1.toNatClampNeg)) ∧ ((p2 < 0 → (Kf (-1) M1)) ∧ (¬ p2 < 0 → (((∃ t, zmT M1 (zmN M1 17 (6 * 1 + p1.toNatClampNeg) 0) = some t) ∧ zCalI l G Y_J0_length_8abf5 0 0 [va (zmN M1 17 (6 * 1 + p1.toNatClampNeg) 0)] M1 (fun x4 M3 => ((x4 ≤ p2 → (Kf (-1) M3)) ∧ (¬ x4 ≤ p2 → (((∃ t, zmT M3 (zmN M1 17 (6 * 1 + p1.toNatClampNeg) 0) = some t) ∧ zCalI l G Y_J0_charAt_5068e 0 0 [va (zmN M1 17 (6 * 1 + p1.toNatClampNeg) 0), vi p2] M3 (fun x6 M5 => (Kf x6 M5)))))))))))) KX)) : zCalIX l G Y_X8_letter 1 6 [vr 0 0, vi p1, vi p2] M Kf KX := by
  refine zCal_of (lv := [(0, vr 0 0), (1, vi p1), (2, vi p2)]) (by decide) rfl (zle rfl) rfl (fun hv => zlv_args (lv := [(0, vr 0 0), (1, vi p1), (2, vi p2)]) rfl hv) ?_
  refine Z_aload_n dX8_letter_0 rfl 0 rfl ?_
  refine Z_iload_n dX8_letter_1 rfl 1 rfl ?_
  refine Z_callVRX (as := [vi p1]) rfl zcv_X8_letter_X8_flowAt_164 (ci := 12) rfl rfl rfl rfl (zle rfl) dX8_letter_2 ⟨zle rfl, zle rfl⟩ h (fun _ _ q => q) (fun x2 M1 h => ?_)
  obtain ⟨rfl, h⟩ := h
  refine Z_getN zfl_X8_204 dX8_letter_5 ?_
  refine Z_astoreA_n (lv2 := [(3, va (zmN M1 17 (6 * 1 + p1.toNatClampNeg) 0)), (0, vr 0 0), (1, vi p1), (2, vi p2)]) dX8_letter_8 rfl (by decide) rfl ?_
  refine Z_iload_n dX8_letter_9 rfl 3 rfl ?_
  refine Z_if_lt (tgt := 29) dX8_letter_10 (by decide) (fun q => ?_) (fun q => ?_)
  · have h := h.1 q
    refine Z_iconst (v := (-1)) (by decide) dX8_letter_29 ?_
    exact Z_iret rfl rfl dX8_letter_30 (zle rfl) (zle rfl) ⟨_, rfl, h⟩
  · have h := h.2 q
    refine Z_iload_n dX8_letter_13 rfl 3 rfl ?_
    refine Z_aloadA_n dX8_letter_14 rfl 0 rfl ?_
    obtain ⟨g8, h⟩ := h
    refine Z_callTI (as := []) zRm_M zcv_X8_letter_J0_length_8abf5_208 g8 rfl rfl (zle rfl) dX8_letter_15 ⟨zle rfl, zle rfl⟩ h (fun x4 M3 h => ?_)
    refine Z_icmp_ge (tgt := 29) dX8_letter_18 (by decide) (fun q => ?_) (fun q => ?_)
    · have h := h.1 q
      refine Z_iconst (v := (-1)) (by decide) dX8_letter_29 ?_
      exact Z_iret rfl rfl dX8_letter_30 (zle rfl) (zle rfl) ⟨_, rfl, h⟩
    · have h := h.2 q
      refine Z_aloadA_n dX8_letter_21 rfl 0 rfl ?_
      refine Z_iload_n dX8_letter_22 rfl 3 rfl ?_
      obtain ⟨g7, h⟩ := h
      refine Z_callTI (as := [vi p2]) zRm_M zcv_X8_letter_J0_charAt_5068e_212 g7 rfl rfl (zle rfl) dX8_letter_23 ⟨zle rfl, zle rfl⟩ h (fun x6 M5 h => ?_)
      refine Z_goto (tgt := 30) dX8_letter_26 (by decide) ?_
      exact Z_iret rfl rfl dX8_letter_30 (zle rfl) (zle rfl) ⟨_, rfl, h⟩
-- X8_meanWait
set_option maxRecDepth 100000 in
set_option maxHeartbeats 4000000 in
theorem zm_X8_meanWait {l : Launch} {G : zG} {p1 : Int32} {M : zM} {Kf : UInt64 → zM → Prop} {KX : String → zM → Prop} (h : (zCalVX l G Y_X8_requireFlowOrNone 1 6 [vr 0 0, vi p1] M (fun M1 => (zCalL l G Y_X5_total 0 0 [vr 15 1, vi p1, vi 5] M1 (fun x3 M2 => (((lg_cmp x3 0) ≤ 0 → (Kf FP.dconst0 M2)) ∧ (¬ (lg_cmp x3 0) ≤ 0 → (zCalL l G Y_X5_total 0 0 [vr 15 1, vi p1, vi 7] M2 (fun x5 M4 => (vf_n64 (FP.ddiv (FP.l2d x5) (FP.l2d x3)) ∧ (Kf (FP.ddiv (FP.l2d x5) (FP.l2d x3)) M4))))))))) KX)) : zCalDX l G Y_X8_meanWait 1 6 [vr 0 0, vi p1] M Kf KX := by
  refine zCal_of (lv := [(0, vr 0 0), (1, vi p1)]) (by decide) rfl (zle rfl) rfl (fun hv => zlv_args (lv := [(0, vr 0 0), (1, vi p1)]) rfl hv) ?_
  refine Z_aload_n dX8_meanWait_0 rfl 0 rfl ?_
  refine Z_iload_n dX8_meanWait_1 rfl 1 rfl ?_
  refine Z_callVVX (as := [vi p1]) rfl zcv_X8_meanWait_X8_requireFlowOrNone_224 (ci := 12) rfl rfl rfl rfl (zle rfl) dX8_meanWait_2 ⟨zle rfl, zle rfl⟩ h (fun _ _ q => q) (fun M1 h => ?_)
  refine Z_aload_n dX8_meanWait_5 rfl 0 rfl ?_
  refine Z_getR (s1 := 15) (i1 := 1) zfl_X8_28 rfl (fun q => by first | exact q | decide) dX8_meanWait_6 ?_
  refine Z_iload_n dX8_meanWait_9 rfl 1 rfl ?_
  refine Z_iconst (v := 5) (by decide) dX8_meanWait_10 ?_
  refine Z_callVL (as := [vi p1, vi 5]) zRm_M zcv_X8_meanWait_X5_total_227 (ci := 9) rfl rfl rfl rfl (zle rfl) dX8_meanWait_11 ⟨zle rfl, zle rfl⟩ h (fun x3 M2 h => ?_)
  refine Z_lstore_n (lv2 := [(2, vl x3), (0, vr 0 0), (1, vi p1)]) dX8_meanWait_14 rfl (by decide) rfl ?_
  refine Z_lload_n dX8_meanWait_15 rfl 0 rfl ?_
  refine Z_lconst (v := 0) (by decide) dX8_meanWait_16 ?_
  refine Z_lcmp dX8_meanWait_17 ?_
  refine Z_if_le (tgt := 38) dX8_meanWait_18 (by decide) (fun q => ?_) (fun q => ?_)
  · have h := h.1 q
    refine Z_dconst0 dX8_meanWait_38 ?_
    exact Z_dret rfl dX8_meanWait_39 (zle rfl) (zle rfl) ⟨_, rfl, h⟩
  · have h := h.2 q
    refine Z_aload_n dX8_meanWait_21 rfl 1 rfl ?_
    refine Z_getR (s1 := 15) (i1 := 1) zfl_X8_28 rfl (fun q => by first | exact q | decide) dX8_meanWait_22 ?_
    refine Z_iload_n dX8_meanWait_25 rfl 2 rfl ?_
    refine Z_bipush (v := 7) (by decide) dX8_meanWait_26 ?_
    refine Z_callVL (as := [vi p1, vi 7]) zRm_M zcv_X8_meanWait_X5_total_227 (ci := 9) rfl rfl rfl rfl (zle rfl) dX8_meanWait_28 ⟨zle rfl, zle rfl⟩ h (fun x5 M4 h => ?_)
    refine Z_l2d dX8_meanWait_31 ?_
    refine Z_lload_n dX8_meanWait_32 rfl 0 rfl ?_
    refine Z_l2d dX8_meanWait_33 ?_
    obtain ⟨g6, h⟩ := h
    refine Z_ddiv dX8_meanWait_34 g6 ?_
    refine Z_goto (tgt := 39) dX8_meanWait_35 (by decide) ?_
    exact Z_dret rfl dX8_meanWait_39 (zle rfl) (zle rfl) ⟨_, rfl, h⟩
-- X8_reportByte
set_option maxRecDepth 100000 in
set_option maxHeartbeats 4000000 in
theorem zm_X8_reportByte {l : Launch} {G : zG} {p1 : Int32} {M : zM} {Kf : Int32 → zM → Prop} (h : ((p1 < 0 → (Kf (-1) M)) ∧ (¬ p1 < 0 → (zCalI l G Y_J4_length_8abf5 0 0 [vr 14 0] M (fun x2 M1 => ((x2 ≤ p1 → (Kf (-1) M1)) ∧ (¬ x2 ≤ p1 → (zCalI l G Y_J4_charAt_5068e 0 0 [vr 14 0, vi p1] M1 (fun x4 M3 => (Kf x4 M3)))))))))) : zCalI l G Y_X8_reportByte 0 0 [vr 0 0, vi p1] M Kf := by
  refine zCal_of (lv := [(0, vr 0 0), (1, vi p1)]) (by decide) rfl (zle rfl) rfl (fun hv => zlv_args (lv := [(0, vr 0 0), (1, vi p1)]) rfl hv) ?_
  refine Z_iload_n dX8_reportByte_0 rfl 1 rfl ?_
  refine Z_if_lt (tgt := 26) dX8_reportByte_1 (by decide) (fun q => ?_) (fun q => ?_)
  · have h := h.1 q
    refine Z_iconst (v := (-1)) (by decide) dX8_reportByte_26 ?_
    exact Z_iret rfl rfl dX8_reportByte_27 (Nat.le_refl _) (Nat.le_refl _) ⟨_, rfl, h⟩
  · have h := h.2 q
    refine Z_iload_n dX8_reportByte_4 rfl 1 rfl ?_
    refine Z_aload_n dX8_reportByte_5 rfl 0 rfl ?_
    refine Z_getR (s1 := 14) (i1 := 0) zfl_X8_62 rfl (fun q => by first | exact q | decide) dX8_reportByte_6 ?_
    refine Z_callBI (as := []) zRm_M zcv_X8_reportByte_J4_length_8abf5_322 rfl rfl (zle rfl) dX8_reportByte_9 ⟨Nat.le_refl _, Nat.le_refl _⟩ h (fun x2 M1 h => ?_)
    refine Z_icmp_ge (tgt := 26) dX8_reportByte_12 (by decide) (fun q => ?_) (fun q => ?_)
    · have h := h.1 q
      refine Z_iconst (v := (-1)) (by decide) dX8_reportByte_26 ?_
      exact Z_iret rfl rfl dX8_reportByte_27 (Nat.le_refl _) (Nat.le_refl _) ⟨_, rfl, h⟩
    · have h := h.2 q
      refine Z_aload_n dX8_reportByte_15 rfl 0 rfl ?_
      refine Z_getR (s1 := 14) (i1 := 0) zfl_X8_62 rfl (fun q => by first | exact q | decide) dX8_reportByte_16 ?_
      refine Z_iload_n dX8_reportByte_19 rfl 1 rfl ?_
      refine Z_callBI (as := [vi p1]) zRm_M zcv_X8_reportByte_J4_charAt_5068e_323 rfl rfl (zle rfl) dX8_reportByte_20 ⟨Nat.le_refl _, Nat.le_refl _⟩ h (fun x4 M3 h => ?_)
      refine Z_goto (tgt := 27) dX8_reportByte_23 (by decide) ?_
      exact Z_iret rfl rfl dX8_reportByte_27 (Nat.le_refl _) (Nat.le_refl _) ⟨_, rfl, h⟩
-- X8_writeFlow
set_option maxRecDepth 100000 in
set_option maxHeartbeats 4000000 in
theorem zm_X8_writeFlow {l : Launch} {G : zG} {p1 : Nat} {mc ms : Nat} {M : zM} {Kf : zM → Prop} (h : ((∃ mc1 ms2 : Nat, (0 + mc1) ≤ mc ∧ (0 + ms2) ≤ ms ∧ zCalR l G Y_J4_append_15ec4 mc1 ms2 [vr 14 0, va (zmN M 17 p1 0)] M (fun x4 M3 => x4 = (14, 0) ∧ ((∃ mc5 ms6 : Nat, ((0 + mc1) + mc5) ≤ mc ∧ ((0 + ms2) + ms6) ≤ ms ∧ zCalR l G Y_J4_append_cf468 mc5 ms6 [vr 14 0, vi 58] M3 (fun x8 M7 => x8 = (14, 0) ∧ ((∃ mc10 ms11 : Nat, (((0 + mc1) + mc5) + mc10) ≤ mc ∧ (((0 + ms2) + ms6) + ms11) ≤ ms ∧ zCalR l G Y_J4_append_bf812 mc10 ms11 [vr 14 0, vi ((zmL M7 18 p1 0) : Int64).toInt32] M7 (fun x13 M12 => x13 = (14, 0) ∧ ((∃ mc14 ms15 : Nat, ((((0 + mc1) + mc5) + mc10) + mc14) ≤ mc ∧ ((((0 + ms2) + ms6) + ms11) + ms15) ≤ ms ∧ zCalR l G Y_J4_append_cf468 mc14 ms15 [vr 14 0, vi 47] M12 (fun x17 M16 => x17 = (14, 0) ∧ ((∃ mc19 ms20 : Nat, (((((0 + mc1) + mc5) + mc10) + mc14) + mc19) ≤ mc ∧ (((((0 + ms2) + ms6) + ms11) + ms15) + ms20) ≤ ms ∧ zCalR l G Y_J4_append_bf812 mc19 ms20 [vr 14 0, vi ((zmL M16 18 p1 5) : Int64).toInt32] M16 (fun x22 M21 => x22 = (14, 0) ∧ (((zmI M21 17 p1 8) = 0 → zAt l G Y_X8_writeFlow (zEM G Y_X8_writeFlow mc ms (zKV Kf, none)) 79 [(0, vr 0 0)] [] M21 (((((0 + mc1) + mc5) + mc10) + mc14) + mc19) (((((0 + ms2) + ms6) + ms11) + ms15) + ms20)) ∧ (¬ (zmI M21 17 p1 8) = 0 → ((∃ mc23 ms24 : Nat, ((((((0 + mc1) + mc5) + mc10) + mc14) + mc19) + mc23) ≤ mc ∧ ((((((0 + ms2) + ms6) + ms11) + ms15) + ms20) + ms24) ≤ ms ∧ zCalR l G Y_J4_append_cf468 mc23 ms24 [vr 14 0, vi 33] M21 (fun x26 M25 => x26 = (14, 0) ∧ zAt l G Y_X8_writeFlow (zEM G Y_X8_writeFlow mc ms (zKV Kf, none)) 79 [(0, vr 0 0)] [] M25 ((((((0 + mc1) + mc5) + mc10) + mc14) + mc19) + mc23) ((((((0 + ms2) + ms6) + ms11) + ms15) + ms20) + ms24)))))))))))))))))))))) : zCalV l G Y_X8_writeFlow mc ms [vr 0 0, vr 17 p1] M Kf := by
  refine zCal_of (lv := [(0, vr 0 0), (1, vr 17 p1)]) (by decide) rfl (zle rfl) rfl (fun hv => zlv_args (lv := [(0, vr 0 0), (1, vr 17 p1)]) rfl hv) ?_
  refine Z_aload_n dX8_writeFlow_0 rfl 0 rfl ?_
  refine Z_getR (s1 := 14) (i1 := 0) zfl_X8_62 rfl (fun q => by first | exact q | decide) dX8_writeFlow_1 ?_
  refine Z_aload_n dX8_writeFlow_4 rfl 1 rfl ?_
  refine Z_getN zfl_X8_204 dX8_writeFlow_5 ?_
  obtain ⟨mc1, ms2, hmM3, hnM3, h⟩ := h
  refine Z_callBR (as := [va (zmN M 17 p1 0)]) zRm_M zcv_X8_writeFlow_J4_append_15ec4_342 rfl rfl (zle rfl) dX8_writeFlow_8 ⟨hmM3, hnM3⟩ h (fun x4 M3 h => ?_)
  obtain ⟨rfl, h⟩ := h
  refine Z_pop rfl dX8_writeFlow_11 ?_
  refine Z_aload_n dX8_writeFlow_12 rfl 0 rfl ?_
  refine Z_getR (s1 := 14) (i1 := 0) zfl_X8_62 rfl (fun q => by first | exact q | decide) dX8_writeFlow_13 ?_
  refine Z_bipush (v := 58) (by decide) dX8_writeFlow_16 ?_
  obtain ⟨mc5, ms6, hmM7, hnM7, h⟩ := h
  refine Z_callBR (as := [vi 58]) zRm_M zcv_X8_writeFlow_J4_append_cf468_315 rfl rfl (zle rfl) dX8_writeFlow_18 ⟨hmM7, hnM7⟩ h (fun x8 M7 h => ?_)
  obtain ⟨rfl, h⟩ := h
  refine Z_pop rfl dX8_writeFlow_21 ?_
  refine Z_aload_n dX8_writeFlow_22 rfl 0 rfl ?_
  refine Z_getR (s1 := 14) (i1 := 0) zfl_X8_62 rfl (fun q => by first | exact q | decide) dX8_writeFlow_23 ?_
  refine Z_aload_n dX8_writeFlow_26 rfl 1 rfl ?_
  refine Z_getR (s1 := 18) (i1 := p1) zfl_X8_345 rfl (fun q => by first | exact q | decide) dX8_writeFlow_27 ?_
  refine Z_iconst (v := 0) (by decide) dX8_writeFlow_30 ?_
  refine Z_laldK (n := 8) (j := 0) rfl (by decide) (zvin (by decide)) dX8_writeFlow_31 ?_
  refine Z_l2i dX8_writeFlow_32 ?_
  obtain ⟨mc10, ms11, hmM12, hnM12, h⟩ := h
  refine Z_callBR (as := [vi ((zmL M7 18 p1 0) : Int64).toInt32]) zRm_M zcv_X8_writeFlow_J4_append_bf812_319 rfl rfl (zle rfl) dX8_writeFlow_33 ⟨hmM12, hnM12⟩ h (fun x13 M12 h => ?_)
  obtain ⟨rfl, h⟩ := h
  refine Z_pop rfl dX8_writeFlow_36 ?_
  refine Z_aload_n dX8_writeFlow_37 rfl 0 rfl ?_
  refine Z_getR (s1 := 14) (i1 := 0) zfl_X8_62 rfl (fun q => by first | exact q | decide) dX8_writeFlow_38 ?_
  refine Z_bipush (v := 47) (by decide) dX8_writeFlow_41 ?_
  obtain ⟨mc14, ms15, hmM16, hnM16, h⟩ := h
  refine Z_callBR (as := [vi 47]) zRm_M zcv_X8_writeFlow_J4_append_cf468_315 rfl rfl (zle rfl) dX8_writeFlow_43 ⟨hmM16, hnM16⟩ h (fun x17 M16 h => ?_)
  obtain ⟨rfl, h⟩ := h
  refine Z_pop rfl dX8_writeFlow_46 ?_
  refine Z_aload_n dX8_writeFlow_47 rfl 0 rfl ?_
  refine Z_getR (s1 := 14) (i1 := 0) zfl_X8_62 rfl (fun q => by first | exact q | decide) dX8_writeFlow_48 ?_
  refine Z_aload_n dX8_writeFlow_51 rfl 1 rfl ?_
  refine Z_getR (s1 := 18) (i1 := p1) zfl_X8_345 rfl (fun q => by first | exact q | decide) dX8_writeFlow_52 ?_
  refine Z_iconst (v := 5) (by decide) dX8_writeFlow_55 ?_
  refine Z_laldK (n := 8) (j := 5) rfl (by decide) (zvin (by decide)) dX8_writeFlow_56 ?_
  refine Z_l2i dX8_writeFlow_57 ?_
  obtain ⟨mc19, ms20, hmM21, hnM21, h⟩ := h
  refine Z_callBR (as := [vi ((zmL M16 18 p1 5) : Int64).toInt32]) zRm_M zcv_X8_writeFlow_J4_append_bf812_319 rfl rfl (zle rfl) dX8_writeFlow_58 ⟨hmM21, hnM21⟩ h (fun x22 M21 h => ?_)
  obtain ⟨rfl, h⟩ := h
  refine Z_pop rfl dX8_writeFlow_61 ?_
  refine Z_aload_n dX8_writeFlow_62 rfl 1 rfl ?_
  refine Z_getI zfl_X8_192 dX8_writeFlow_63 ?_
  refine Z_if_eq (tgt := 79) dX8_writeFlow_66 (by decide) (fun q => ?_) (fun q => ?_)
  · have h := h.1 q
    exact Z_pick [0] rfl h
  · have h := h.2 q
    refine Z_aload_n dX8_writeFlow_69 rfl 0 rfl ?_
    refine Z_getR (s1 := 14) (i1 := 0) zfl_X8_62 rfl (fun q => by first | exact q | decide) dX8_writeFlow_70 ?_
    refine Z_bipush (v := 33) (by decide) dX8_writeFlow_73 ?_
    obtain ⟨mc23, ms24, hmM25, hnM25, h⟩ := h
    refine Z_callBR (as := [vi 33]) zRm_M zcv_X8_writeFlow_J4_append_cf468_315 rfl rfl (zle rfl) dX8_writeFlow_75 ⟨hmM25, hnM25⟩ h (fun x26 M25 h => ?_)
    obtain ⟨rfl, h⟩ := h
    refine Z_pop rfl dX8_writeFlow_78 ?_
    exact Z_pick [0] rfl h
set_option maxRecDepth 100000 in
set_option maxHeartbeats 4000000 in
theorem zb_X8_writeFlow_79 {l : Launch} {G : zG}  {mc ms : Nat} {c k : Nat} {M : zM} {Kf : zM → Prop} (h : ((∃ mc1 ms2 : Nat, (c + mc1) ≤ mc ∧ (k + ms2) ≤ ms ∧ zCalR l G Y_J4_append_cf468 mc1 ms2 [vr 14 0, vi 32] M (fun x4 M3 => x4 = (14, 0) ∧ ((c + mc1) ≤ mc ∧ (k + ms2) ≤ ms ∧ Kf M3))))) : zAt l G Y_X8_writeFlow (zEM G Y_X8_writeFlow mc ms (zKV Kf, none)) 79 [(0, vr 0 0)] [] M c k := by
  refine Z_aload_n dX8_writeFlow_79 rfl 0 rfl ?_
  refine Z_getR (s1 := 14) (i1 := 0) zfl_X8_62 rfl (fun q => by first | exact q | decide) dX8_writeFlow_80 ?_
  refine Z_bipush (v := 32) (by decide) dX8_writeFlow_83 ?_
  obtain ⟨mc1, ms2, hmM3, hnM3, h⟩ := h
  refine Z_callBR (as := [vi 32]) zRm_M zcv_X8_writeFlow_J4_append_cf468_315 rfl rfl (zle rfl) dX8_writeFlow_85 ⟨hmM3, hnM3⟩ h (fun x4 M3 h => ?_)
  obtain ⟨rfl, h⟩ := h
  refine Z_pop rfl dX8_writeFlow_88 ?_
  obtain ⟨hc, hk, h⟩ := h
  exact Z_vret rfl dX8_writeFlow_89 hc hk ⟨rfl, h⟩
-- X8_report
set_option maxRecDepth 100000 in
set_option maxHeartbeats 4000000 in
theorem zm_X8_report {l : Launch} {G : zG} {mc ms : Nat} {M : zM} {Kf : Int32 → zM → Prop} (h : ((∃ mc1 ms2 : Nat, (0 + mc1) ≤ mc ∧ (0 + ms2) ≤ ms ∧ zCalV l G Y_J4_setLength_d00df mc1 ms2 [vr 14 0, vi 0] M (fun M3 => zAt l G Y_X8_report (zEM G Y_X8_report mc ms (zKI Kf, none)) 10 [(0, vr 0 0), (1, vi 0)] [] M3 (0 + mc1) (0 + ms2))))) : zCalI l G Y_X8_report mc ms [vr 0 0] M Kf := by
  refine zCal_of (lv := [(0, vr 0 0)]) (by decide) rfl (zle rfl) rfl (fun hv => zlv_args (lv := [(0, vr 0 0)]) rfl hv) ?_
  refine Z_aload_n dX8_report_0 rfl 0 rfl ?_
  refine Z_getR (s1 := 14) (i1 := 0) zfl_X8_62 rfl (fun q => by first | exact q | decide) dX8_report_1 ?_
  refine Z_iconst (v := 0) (by decide) dX8_report_4 ?_
  obtain ⟨mc1, ms2, hmM3, hnM3, h⟩ := h
  refine Z_callBV (as := [vi 0]) zRm_M zcv_X8_report_J4_setLength_d00df_308 rfl rfl (zle rfl) dX8_report_5 ⟨hmM3, hnM3⟩ h (fun M3 h => ?_)
  refine Z_iconst (v := 0) (by decide) dX8_report_8 ?_
  refine Z_istore_n (lv2 := [(1, vi 0), (0, vr 0 0)]) dX8_report_9 rfl (by decide) rfl ?_
  exact Z_pick [1, 0] rfl h
set_option maxRecDepth 100000 in
set_option maxHeartbeats 4000000 in
theorem zb_X8_report_10 {l : Launch} {G : zG} {y1 : Int32} {mc ms : Nat} {c k : Nat} {M : zM} {Kf : Int32 → zM → Prop} (h : (((zmI M 15 1 12) ≤ y1 → zAt l G Y_X8_report (zEM G Y_X8_report mc ms (zKI Kf, none)) 46 [(0, vr 0 0)] [] M c k) ∧ (¬ (zmI M 15 1 12) ≤ y1 → ((6 ≤ y1 → zAt l G Y_X8_report (zEM G Y_X8_report mc ms (zKI Kf, none)) 46 [(0, vr 0 0)] [] M c k) ∧ (¬ 6 ≤ y1 → (vp_in y1 6 ∧ ((∃ mc2 ms3 : Nat, (c + mc2) ≤ mc ∧ (k + ms3) ≤ ms ∧ zCalV l G Y_X8_writeFlow mc2 ms3 [vr 0 0, vr 17 (6 * 1 + y1.toNatClampNeg)] M (fun M4 => zAt l G Y_X8_report (zEM G Y_X8_report mc ms (zKI Kf, none)) 10 [(0, vr 0 0), (1, vi (y1 + 1))] [] M4 (c + mc2) (k + ms3)))))))))) : zAt l G Y_X8_report (zEM G Y_X8_report mc ms (zKI Kf, none)) 10 [(0, vr 0 0), (1, vi y1)] [] M c k := by
  refine Z_iload_n dX8_report_10 rfl 1 rfl ?_
  refine Z_aload_n dX8_report_11 rfl 0 rfl ?_
  refine Z_getR (s1 := 15) (i1 := 1) zfl_X8_28 rfl (fun q => by first | exact q | decide) dX8_report_12 ?_
  refine Z_getI zfl_X8_96 dX8_report_15 ?_
  refine Z_icmp_ge (tgt := 46) dX8_report_18 (by decide) (fun q => ?_) (fun q => ?_)
  · have h := h.1 q
    exact Z_pick [0] rfl h
  · have h := h.2 q
    refine Z_iload_n dX8_report_21 rfl 1 rfl ?_
    refine Z_bipush (v := 6) (by decide) dX8_report_22 ?_
    refine Z_icmp_ge (tgt := 46) dX8_report_24 (by decide) (fun q => ?_) (fun q => ?_)
    · have h := h.1 q
      exact Z_pick [0] rfl h
    · have h := h.2 q
      refine Z_aload_n dX8_report_27 rfl 0 rfl ?_
      refine Z_aload_n dX8_report_28 rfl 0 rfl ?_
      refine Z_getR (s1 := 15) (i1 := 1) zfl_X8_28 rfl (fun q => by first | exact q | decide) dX8_report_29 ?_
      refine Z_getR (s1 := 16) (i1 := 1) zfl_X8_265 rfl (fun q => by first | exact q | decide) dX8_report_32 ?_
      refine Z_iload_n dX8_report_35 rfl 1 rfl ?_
      obtain ⟨g1, h⟩ := h
      refine Z_aald (s1 := 17) (i1 := (6 * 1 + y1.toNatClampNeg)) (n := 6) (t := 6) rfl (by decide) g1 rfl (fun z => zref_ok_16 g1 z) dX8_report_36 ?_
      obtain ⟨mc2, ms3, hmM4, hnM4, h⟩ := h
      refine Z_callVV (as := [vr 17 (6 * 1 + y1.toNatClampNeg)]) zRm_M zcv_X8_report_X8_writeFlow_311 (ci := 12) rfl rfl rfl rfl (zle rfl) dX8_report_37 ⟨hmM4, hnM4⟩ h (fun M4 h => ?_)
      refine Z_iinc (v := (y1 + 1)) (lv2 := [(1, vi (y1 + 1)), (0, vr 0 0)]) dX8_report_40 1 rfl rfl (by decide) rfl ?_
      refine Z_goto (tgt := 10) dX8_report_43 (by decide) ?_
      exact Z_pick [1, 0] rfl h
set_option maxRecDepth 100000 in
set_option maxHeartbeats 4000000 in
theorem zb_X8_report_46 {l : Launch} {G : zG}  {mc ms : Nat} {c k : Nat} {M : zM} {Kf : Int32 → zM → Prop} (h : ((∃ mc1 ms2 : Nat, (c + mc1) ≤ mc ∧ (k + ms2) ≤ ms ∧ zCalR l G Y_J4_append_cf468 mc1 ms2 [vr 14 0, vi 124] M (fun x4 M3 => x4 = (14, 0) ∧ zAt l G Y_X8_report (zEM G Y_X8_report mc ms (zKI Kf, none)) 58 [(0, vr 0 0), (1, vi 0)] [] M3 (c + mc1) (k + ms2))))) : zAt l G Y_X8_report (zEM G Y_X8_report mc ms (zKI Kf, none)) 46 [(0, vr 0 0)] [] M c k := by
  refine Z_aload_n dX8_report_46 rfl 0 rfl ?_
  refine Z_getR (s1 := 14) (i1 := 0) zfl_X8_62 rfl (fun q => by first | exact q | decide) dX8_report_47 ?_
  refine Z_bipush (v := 124) (by decide) dX8_report_50 ?_
  obtain ⟨mc1, ms2, hmM3, hnM3, h⟩ := h
  refine Z_callBR (as := [vi 124]) zRm_M zcv_X8_report_J4_append_cf468_315 rfl rfl (zle rfl) dX8_report_52 ⟨hmM3, hnM3⟩ h (fun x4 M3 h => ?_)
  obtain ⟨rfl, h⟩ := h
  refine Z_pop rfl dX8_report_55 ?_
  refine Z_iconst (v := 0) (by decide) dX8_report_56 ?_
  refine Z_istore_n (lv2 := [(1, vi 0), (0, vr 0 0)]) dX8_report_57 rfl (by decide) rfl ?_
  exact Z_pick [1, 0] rfl h
set_option maxRecDepth 100000 in
set_option maxHeartbeats 4000000 in
theorem zb_X8_report_58 {l : Launch} {G : zG} {y1 : Int32} {mc ms : Nat} {c k : Nat} {M : zM} {Kf : Int32 → zM → Prop} (h : (((zmI M 19 1 1) ≤ y1 → ((c ≤ mc ∧ k ≤ ms ∧ zCalI l G Y_J4_length_8abf5 0 0 [vr 14 0] M (fun x2 M1 => (c ≤ mc ∧ k ≤ ms ∧ Kf x2 M1))))) ∧ (¬ (zmI M 19 1 1) ≤ y1 → ((c ≤ mc ∧ k ≤ ms ∧ zCalI l G Y_X3_cell 0 0 [vr 19 1, vi y1, vi 0] M (fun x4 M3 => ((∃ mc5 ms6 : Nat, (c + mc5) ≤ mc ∧ (k + ms6) ≤ ms ∧ zCalR l G Y_J4_append_bf812 mc5 ms6 [vr 14 0, vi x4] M3 (fun x8 M7 => x8 = (14, 0) ∧ (((c + mc5) ≤ mc ∧ (k + ms6) ≤ ms ∧ zCalI l G Y_X3_cell 0 0 [vr 19 1, vi y1, vi 2] M7 (fun x10 M9 => ((¬ x10 = 1 → zAt l G Y_X8_report (zEM G Y_X8_report mc ms (zKI Kf, none)) 118 [(0, vr 0 0), (1, vi y1)] [] M9 (c + mc5) (k + ms6)) ∧ (x10 = 1 → ((∃ mc11 ms12 : Nat, ((c + mc5) + mc11) ≤ mc ∧ ((k + ms6) + ms12) ≤ ms ∧ zCalR l G Y_J4_append_cf468 mc11 ms12 [vr 14 0, vi 42] M9 (fun x14 M13 => x14 = (14, 0) ∧ zAt l G Y_X8_report (zEM G Y_X8_report mc ms (zKI Kf, none)) 118 [(0, vr 0 0), (1, vi y1)] [] M13 ((c + mc5) + mc11) ((k + ms6) + ms12)))))))))))))))))) : zAt l G Y_X8_report (zEM G Y_X8_report mc ms (zKI Kf, none)) 58 [(0, vr 0 0), (1, vi y1)] [] M c k := by
  refine Z_iload_n dX8_report_58 rfl 1 rfl ?_
  refine Z_aload_n dX8_report_59 rfl 0 rfl ?_
  refine Z_getR (s1 := 15) (i1 := 1) zfl_X8_28 rfl (fun q => by first | exact q | decide) dX8_report_60 ?_
  refine Z_getR (s1 := 19) (i1 := 1) zfl_X8_138 rfl (fun q => by first | exact q | decide) dX8_report_63 ?_
  refine Z_getI zfl_X8_142 dX8_report_66 ?_
  refine Z_icmp_ge (tgt := 124) dX8_report_69 (by decide) (fun q => ?_) (fun q => ?_)
  · have h := h.1 q
    refine Z_aload_n dX8_report_124 rfl 0 rfl ?_
    refine Z_getR (s1 := 14) (i1 := 0) zfl_X8_62 rfl (fun q => by first | exact q | decide) dX8_report_125 ?_
    obtain ⟨hcm, hkm, h⟩ := h
    refine Z_callBI (as := []) zRm_M zcv_X8_report_J4_length_8abf5_322 rfl rfl (zle rfl) dX8_report_128 ⟨hcm, hkm⟩ h (fun x2 M1 h => ?_)
    obtain ⟨hc, hk, h⟩ := h
    exact Z_iret rfl rfl dX8_report_131 hc hk ⟨_, rfl, h⟩
  · have h := h.2 q
    refine Z_aload_n dX8_report_72 rfl 0 rfl ?_
    refine Z_getR (s1 := 14) (i1 := 0) zfl_X8_62 rfl (fun q => by first | exact q | decide) dX8_report_73 ?_
    refine Z_aload_n dX8_report_76 rfl 0 rfl ?_
    refine Z_getR (s1 := 15) (i1 := 1) zfl_X8_28 rfl (fun q => by first | exact q | decide) dX8_report_77 ?_
    refine Z_getR (s1 := 19) (i1 := 1) zfl_X8_138 rfl (fun q => by first | exact q | decide) dX8_report_80 ?_
    refine Z_iload_n dX8_report_83 rfl 1 rfl ?_
    refine Z_iconst (v := 0) (by decide) dX8_report_84 ?_
    obtain ⟨hcm, hkm, h⟩ := h
    refine Z_callVI (as := [vi y1, vi 0]) zRm_M zcv_X8_report_X3_cell_220 (ci := 7) rfl rfl rfl rfl (zle rfl) dX8_report_85 ⟨hcm, hkm⟩ h (fun x4 M3 h => ?_)
    obtain ⟨mc5, ms6, hmM7, hnM7, h⟩ := h
    refine Z_callBR (as := [vi x4]) zRm_M zcv_X8_report_J4_append_bf812_319 rfl rfl (zle rfl) dX8_report_88 ⟨hmM7, hnM7⟩ h (fun x8 M7 h => ?_)
    obtain ⟨rfl, h⟩ := h
    refine Z_pop rfl dX8_report_91 ?_
    refine Z_aload_n dX8_report_92 rfl 0 rfl ?_
    refine Z_getR (s1 := 15) (i1 := 1) zfl_X8_28 rfl (fun q => by first | exact q | decide) dX8_report_93 ?_
    refine Z_getR (s1 := 19) (i1 := 1) zfl_X8_138 rfl (fun q => by first | exact q | decide) dX8_report_96 ?_
    refine Z_iload_n dX8_report_99 rfl 1 rfl ?_
    refine Z_iconst (v := 2) (by decide) dX8_report_100 ?_
    obtain ⟨hcm, hkm, h⟩ := h
    refine Z_callVI (as := [vi y1, vi 2]) zRm_M zcv_X8_report_X3_cell_220 (ci := 7) rfl rfl rfl rfl (zle rfl) dX8_report_101 ⟨hcm, hkm⟩ h (fun x10 M9 h => ?_)
    refine Z_iconst (v := 1) (by decide) dX8_report_104 ?_
    refine Z_icmp_ne (tgt := 118) dX8_report_105 (by decide) (fun q => ?_) (fun q => ?_)
    · have h := h.1 q
      exact h
    · have h := h.2 q
      refine Z_aload_n dX8_report_108 rfl 0 rfl ?_
      refine Z_getR (s1 := 14) (i1 := 0) zfl_X8_62 rfl (fun q => by first | exact q | decide) dX8_report_109 ?_
      refine Z_bipush (v := 42) (by decide) dX8_report_112 ?_
      obtain ⟨mc11, ms12, hmM13, hnM13, h⟩ := h
      refine Z_callBR (as := [vi 42]) zRm_M zcv_X8_report_J4_append_cf468_315 rfl rfl (zle rfl) dX8_report_114 ⟨hmM13, hnM13⟩ h (fun x14 M13 h => ?_)
      obtain ⟨rfl, h⟩ := h
      refine Z_pop rfl dX8_report_117 ?_
      exact h
set_option maxRecDepth 100000 in
set_option maxHeartbeats 4000000 in
theorem zb_X8_report_118 {l : Launch} {G : zG} {y1 : Int32} {mc ms : Nat} {c k : Nat} {M : zM} {Kf : Int32 → zM → Prop} (h : zAt l G Y_X8_report (zEM G Y_X8_report mc ms (zKI Kf, none)) 58 [(0, vr 0 0), (1, vi (y1 + 1))] [] M c k) : zAt l G Y_X8_report (zEM G Y_X8_report mc ms (zKI Kf, none)) 118 [(0, vr 0 0), (1, vi y1)] [] M c k := by
  refine Z_iinc (v := (y1 + 1)) (lv2 := [(1, vi (y1 + 1)), (0, vr 0 0)]) dX8_report_118 1 rfl rfl (by decide) rfl ?_
  refine Z_goto (tgt := 58) dX8_report_121 (by decide) ?_
  exact Z_pick [1, 0] rfl h
-- X8_setGentle
set_option maxRecDepth 100000 in
set_option maxHeartbeats 4000000 in
theorem zm_X8_setGentle {l : Launch} {G : zG} {p1 : Int32} {M : zM} {Kf : Int32 → zM → Prop} {KX : String → zM → Prop} (h : (zCalVX l G Y_X8_requireWithin 1 6 [vi p1, vi 0, vi 1] M (fun M1 => (zCalV l G Y_X2_keep 0 0 [vr 10 0, vr 15 1] M1 (fun M2 => (zCalI l G Y_X5_changeGentle 0 0 [vr 15 1, vi p1] M2 (fun x4 M3 => (Kf x4 M3)))))) KX)) : zCalIX l G Y_X8_setGentle 1 6 [vr 0 0, vi p1] M Kf KX := by
  refine zCal_of (lv := [(0, vr 0 0), (1, vi p1)]) (by decide) rfl (zle rfl) rfl (fun hv => zlv_args (lv := [(0, vr 0 0), (1, vi p1)]) rfl hv) ?_
  refine Z_iload_n dX8_setGentle_0 rfl 1 rfl ?_
  refine Z_iconst (v := 0) (by decide) dX8_setGentle_1 ?_
  refine Z_iconst (v := 1) (by decide) dX8_setGentle_2 ?_
  refine Z_callSVX (as := [vi p1, vi 0, vi 1]) rfl zcs_X8_setGentle_X8_requireWithin_110 rfl rfl (zle rfl) dX8_setGentle_3 ⟨zle rfl, zle rfl⟩ h (fun _ _ q => q) (fun M1 h => ?_)
  refine Z_aload_n dX8_setGentle_6 rfl 0 rfl ?_
  refine Z_getR (s1 := 10) (i1 := 0) zfl_X8_47 rfl (fun q => by first | exact q | decide) dX8_setGentle_7 ?_
  refine Z_aload_n dX8_setGentle_10 rfl 0 rfl ?_
  refine Z_getR (s1 := 15) (i1 := 1) zfl_X8_28 rfl (fun q => by first | exact q | decide) dX8_setGentle_11 ?_
  refine Z_callVV (as := [vr 15 1]) zRm_M zcv_X8_setGentle_X2_keep_100 (ci := 6) rfl rfl rfl rfl (zle rfl) dX8_setGentle_14 ⟨zle rfl, zle rfl⟩ h (fun M2 h => ?_)
  refine Z_aload_n dX8_setGentle_17 rfl 0 rfl ?_
  refine Z_getR (s1 := 15) (i1 := 1) zfl_X8_28 rfl (fun q => by first | exact q | decide) dX8_setGentle_18 ?_
  refine Z_iload_n dX8_setGentle_21 rfl 1 rfl ?_
  refine Z_callVI (as := [vi p1]) zRm_M zcv_X8_setGentle_X5_changeGentle_301 (ci := 9) rfl rfl rfl rfl (zle rfl) dX8_setGentle_22 ⟨zle rfl, zle rfl⟩ h (fun x4 M3 h => ?_)
  exact Z_iret rfl rfl dX8_setGentle_25 (zle rfl) (zle rfl) ⟨_, rfl, h⟩
-- X8_setLimits
set_option maxRecDepth 100000 in
set_option maxHeartbeats 4000000 in
theorem zm_X8_setLimits {l : Launch} {G : zG} {p1 : Int32} {p2 : Int32} {M : zM} {Kf : Int32 → zM → Prop} {KX : String → zM → Prop} (h : (zCalVX l G Y_X8_requireWithin 1 6 [vi p1, vi 0, vi 39] M (fun M1 => (zCalVX l G Y_X8_requireWithin 1 6 [vi p2, vi (p1 + 1), vi 40] M1 (fun M2 => (zCalV l G Y_X2_keep 0 0 [vr 10 0, vr 15 1] M2 (fun M3 => (zCalI l G Y_X5_changeLimits 0 0 [vr 15 1, vi p1, vi p2] M3 (fun x5 M4 => (Kf x5 M4)))))) KX)) KX)) : zCalIX l G Y_X8_setLimits 2 12 [vr 0 0, vi p1, vi p2] M Kf KX := by
  refine zCal_of (lv := [(0, vr 0 0), (1, vi p1), (2, vi p2)]) (by decide) rfl (zle rfl) rfl (fun hv => zlv_args (lv := [(0, vr 0 0), (1, vi p1), (2, vi p2)]) rfl hv) ?_
  refine Z_iload_n dX8_setLimits_0 rfl 1 rfl ?_
  refine Z_iconst (v := 0) (by decide) dX8_setLimits_1 ?_
  refine Z_bipush (v := 39) (by decide) dX8_setLimits_2 ?_
  refine Z_callSVX (as := [vi p1, vi 0, vi 39]) rfl zcs_X8_setLimits_X8_requireWithin_110 rfl rfl (zle rfl) dX8_setLimits_4 ⟨zle rfl, zle rfl⟩ h (fun _ _ q => q) (fun M1 h => ?_)
  refine Z_iload_n dX8_setLimits_7 rfl 2 rfl ?_
  refine Z_iload_n dX8_setLimits_8 rfl 1 rfl ?_
  refine Z_iconst (v := 1) (by decide) dX8_setLimits_9 ?_
  refine Z_iadd dX8_setLimits_10 ?_
  refine Z_bipush (v := 40) (by decide) dX8_setLimits_11 ?_
  refine Z_callSVX (as := [vi p2, vi (p1 + 1), vi 40]) rfl zcs_X8_setLimits_X8_requireWithin_110 rfl rfl (zle rfl) dX8_setLimits_13 ⟨zle rfl, zle rfl⟩ h (fun _ _ q => q) (fun M2 h => ?_)
  refine Z_aload_n dX8_setLimits_16 rfl 0 rfl ?_
  refine Z_getR (s1 := 10) (i1 := 0) zfl_X8_47 rfl (fun q => by first | exact q | decide) dX8_setLimits_17 ?_
  refine Z_aload_n dX8_setLimits_20 rfl 0 rfl ?_
  refine Z_getR (s1 := 15) (i1 := 1) zfl_X8_28 rfl (fun q => by first | exact q | decide) dX8_setLimits_21 ?_
  refine Z_callVV (as := [vr 15 1]) zRm_M zcv_X8_setLimits_X2_keep_100 (ci := 6) rfl rfl rfl rfl (zle rfl) dX8_setLimits_24 ⟨zle rfl, zle rfl⟩ h (fun M3 h => ?_)
  refine Z_aload_n dX8_setLimits_27 rfl 0 rfl ?_
  refine Z_getR (s1 := 15) (i1 := 1) zfl_X8_28 rfl (fun q => by first | exact q | decide) dX8_setLimits_28 ?_
  refine Z_iload_n dX8_setLimits_31 rfl 1 rfl ?_
  refine Z_iload_n dX8_setLimits_32 rfl 2 rfl ?_
  refine Z_callVI (as := [vi p1, vi p2]) zRm_M zcv_X8_setLimits_X5_changeLimits_292 (ci := 9) rfl rfl rfl rfl (zle rfl) dX8_setLimits_33 ⟨zle rfl, zle rfl⟩ h (fun x5 M4 h => ?_)
  exact Z_iret rfl rfl dX8_setLimits_36 (zle rfl) (zle rfl) ⟨_, rfl, h⟩
-- X8_setOn
set_option maxRecDepth 100000 in
set_option maxHeartbeats 4000000 in
theorem zm_X8_setOn {l : Launch} {G : zG} {p1 : Int32} {p2 : Int32} {M : zM} {Kf : Int32 → zM → Prop} {KX : String → zM → Prop} (h : (zCalRX l G Y_X8_flowAt 1 6 [vr 0 0, vi p1] M (fun x2 M1 => x2 = (17, (6 * 1 + p1.toNatClampNeg)) ∧ ((¬ (zmI M1 17 (6 * 1 + p1.toNatClampNeg) 6) = p2 → (zCalV l G Y_X2_keep 0 0 [vr 10 0, vr 15 1] M1 (fun M3 => (zCalI l G Y_X5_changeOn 0 0 [vr 15 1, vi p1, vi p2] M3 (fun x5 M4 => (Kf x5 M4)))))) ∧ ((zmI M1 17 (6 * 1 + p1.toNatClampNeg) 6) = p2 → (Kf (-3) M1)))) KX)) : zCalIX l G Y_X8_setOn 1 6 [vr 0 0, vi p1, vi p2] M Kf KX := by
  refine zCal_of (lv := [(0, vr 0 0), (1, vi p1), (2, vi p2)]) (by decide) rfl (zle rfl) rfl (fun hv => zlv_args (lv := [(0, vr 0 0), (1, vi p1), (2, vi p2)]) rfl hv) ?_
  refine Z_aload_n dX8_setOn_0 rfl 0 rfl ?_
  refine Z_iload_n dX8_setOn_1 rfl 1 rfl ?_
  refine Z_callVRX (as := [vi p1]) rfl zcv_X8_setOn_X8_flowAt_164 (ci := 12) rfl rfl rfl rfl (zle rfl) dX8_setOn_2 ⟨zle rfl, zle rfl⟩ h (fun _ _ q => q) (fun x2 M1 h => ?_)
  obtain ⟨rfl, h⟩ := h
  refine Z_getI zfl_X8_186 dX8_setOn_5 ?_
  refine Z_iload_n dX8_setOn_8 rfl 2 rfl ?_
  refine Z_icmp_ne (tgt := 15) dX8_setOn_9 (by decide) (fun q => ?_) (fun q => ?_)
  · have h := h.1 q
    refine Z_aload_n dX8_setOn_15 rfl 0 rfl ?_
    refine Z_getR (s1 := 10) (i1 := 0) zfl_X8_47 rfl (fun q => by first | exact q | decide) dX8_setOn_16 ?_
    refine Z_aload_n dX8_setOn_19 rfl 0 rfl ?_
    refine Z_getR (s1 := 15) (i1 := 1) zfl_X8_28 rfl (fun q => by first | exact q | decide) dX8_setOn_20 ?_
    refine Z_callVV (as := [vr 15 1]) zRm_M zcv_X8_setOn_X2_keep_100 (ci := 6) rfl rfl rfl rfl (zle rfl) dX8_setOn_23 ⟨zle rfl, zle rfl⟩ h (fun M3 h => ?_)
    refine Z_aload_n dX8_setOn_26 rfl 0 rfl ?_
    refine Z_getR (s1 := 15) (i1 := 1) zfl_X8_28 rfl (fun q => by first | exact q | decide) dX8_setOn_27 ?_
    refine Z_iload_n dX8_setOn_30 rfl 1 rfl ?_
    refine Z_iload_n dX8_setOn_31 rfl 2 rfl ?_
    refine Z_callVI (as := [vi p1, vi p2]) zRm_M zcv_X8_setOn_X5_changeOn_304 (ci := 9) rfl rfl rfl rfl (zle rfl) dX8_setOn_32 ⟨zle rfl, zle rfl⟩ h (fun x5 M4 h => ?_)
    exact Z_iret rfl rfl dX8_setOn_35 (zle rfl) (zle rfl) ⟨_, rfl, h⟩
  · have h := h.2 q
    refine Z_bipush (v := (-3)) (by decide) dX8_setOn_12 ?_
    exact Z_iret rfl rfl dX8_setOn_14 (zle rfl) (zle rfl) ⟨_, rfl, h⟩
-- X8_setTop
set_option maxRecDepth 100000 in
set_option maxHeartbeats 4000000 in
theorem zm_X8_setTop {l : Launch} {G : zG} {p1 : Int32} {M : zM} {Kf : Int32 → zM → Prop} {KX : String → zM → Prop} (h : (zCalVX l G Y_X8_requireWithin 1 6 [vi p1, vi 0, vi 65536] M (fun M1 => (zCalV l G Y_X2_keep 0 0 [vr 10 0, vr 15 1] M1 (fun M2 => (zCalI l G Y_X5_changeTop 0 0 [vr 15 1, vi p1] M2 (fun x4 M3 => (Kf x4 M3)))))) KX)) : zCalIX l G Y_X8_setTop 1 6 [vr 0 0, vi p1] M Kf KX := by
  refine zCal_of (lv := [(0, vr 0 0), (1, vi p1)]) (by decide) rfl (zle rfl) rfl (fun hv => zlv_args (lv := [(0, vr 0 0), (1, vi p1)]) rfl hv) ?_
  refine Z_iload_n dX8_setTop_0 rfl 1 rfl ?_
  refine Z_iconst (v := 0) (by decide) dX8_setTop_1 ?_
  refine Z_ldcw (v := 65536) zw_1438 dX8_setTop_2 ?_
  refine Z_callSVX (as := [vi p1, vi 0, vi 65536]) rfl zcs_X8_setTop_X8_requireWithin_110 rfl rfl (zle rfl) dX8_setTop_5 ⟨zle rfl, zle rfl⟩ h (fun _ _ q => q) (fun M1 h => ?_)
  refine Z_aload_n dX8_setTop_8 rfl 0 rfl ?_
  refine Z_getR (s1 := 10) (i1 := 0) zfl_X8_47 rfl (fun q => by first | exact q | decide) dX8_setTop_9 ?_
  refine Z_aload_n dX8_setTop_12 rfl 0 rfl ?_
  refine Z_getR (s1 := 15) (i1 := 1) zfl_X8_28 rfl (fun q => by first | exact q | decide) dX8_setTop_13 ?_
  refine Z_callVV (as := [vr 15 1]) zRm_M zcv_X8_setTop_X2_keep_100 (ci := 6) rfl rfl rfl rfl (zle rfl) dX8_setTop_16 ⟨zle rfl, zle rfl⟩ h (fun M2 h => ?_)
  refine Z_aload_n dX8_setTop_19 rfl 0 rfl ?_
  refine Z_getR (s1 := 15) (i1 := 1) zfl_X8_28 rfl (fun q => by first | exact q | decide) dX8_setTop_20 ?_
  refine Z_iload_n dX8_setTop_23 rfl 1 rfl ?_
  refine Z_callVI (as := [vi p1]) zRm_M zcv_X8_setTop_X5_changeTop_295 (ci := 9) rfl rfl rfl rfl (zle rfl) dX8_setTop_24 ⟨zle rfl, zle rfl⟩ h (fun x4 M3 h => ?_)
  exact Z_iret rfl rfl dX8_setTop_27 (zle rfl) (zle rfl) ⟨_, rfl, h⟩
-- X8_setWeight
set_option maxRecDepth 100000 in
set_option maxHeartbeats 4000000 in
theorem zm_X8_setWeight {l : Launch} {G : zG} {p1 : Int32} {M : zM} {Kf : Int32 → zM → Prop} {KX : String → zM → Prop} (h : (zCalVX l G Y_X8_requireWithin 1 6 [vi p1, vi 0, vi 10] M (fun M1 => (zCalV l G Y_X2_keep 0 0 [vr 10 0, vr 15 1] M1 (fun M2 => (zCalI l G Y_X5_changeWeight 0 0 [vr 15 1, vi p1] M2 (fun x4 M3 => (Kf x4 M3)))))) KX)) : zCalIX l G Y_X8_setWeight 1 6 [vr 0 0, vi p1] M Kf KX := by
  refine zCal_of (lv := [(0, vr 0 0), (1, vi p1)]) (by decide) rfl (zle rfl) rfl (fun hv => zlv_args (lv := [(0, vr 0 0), (1, vi p1)]) rfl hv) ?_
  refine Z_iload_n dX8_setWeight_0 rfl 1 rfl ?_
  refine Z_iconst (v := 0) (by decide) dX8_setWeight_1 ?_
  refine Z_bipush (v := 10) (by decide) dX8_setWeight_2 ?_
  refine Z_callSVX (as := [vi p1, vi 0, vi 10]) rfl zcs_X8_setWeight_X8_requireWithin_110 rfl rfl (zle rfl) dX8_setWeight_4 ⟨zle rfl, zle rfl⟩ h (fun _ _ q => q) (fun M1 h => ?_)
  refine Z_aload_n dX8_setWeight_7 rfl 0 rfl ?_
  refine Z_getR (s1 := 10) (i1 := 0) zfl_X8_47 rfl (fun q => by first | exact q | decide) dX8_setWeight_8 ?_
  refine Z_aload_n dX8_setWeight_11 rfl 0 rfl ?_
  refine Z_getR (s1 := 15) (i1 := 1) zfl_X8_28 rfl (fun q => by first | exact q | decide) dX8_setWeight_12 ?_
  refine Z_callVV (as := [vr 15 1]) zRm_M zcv_X8_setWeight_X2_keep_100 (ci := 6) rfl rfl rfl rfl (zle rfl) dX8_setWeight_15 ⟨zle rfl, zle rfl⟩ h (fun M2 h => ?_)
  refine Z_aload_n dX8_setWeight_18 rfl 0 rfl ?_
  refine Z_getR (s1 := 15) (i1 := 1) zfl_X8_28 rfl (fun q => by first | exact q | decide) dX8_setWeight_19 ?_
  refine Z_iload_n dX8_setWeight_22 rfl 1 rfl ?_
  refine Z_callVI (as := [vi p1]) zRm_M zcv_X8_setWeight_X5_changeWeight_298 (ci := 9) rfl rfl rfl rfl (zle rfl) dX8_setWeight_23 ⟨zle rfl, zle rfl⟩ h (fun x4 M3 h => ?_)
  exact Z_iret rfl rfl dX8_setWeight_26 (zle rfl) (zle rfl) ⟨_, rfl, h⟩
-- X8_dropIn
set_option maxRecDepth 100000 in
set_option maxHeartbeats 4000000 in
theorem zm_X8_dropIn {l : Launch} {G : zG} {M : zM} {Kf : Int32 → zM → Prop} (h : (zCalV l G Y_X5_copyFrom 0 0 [vr 15 2, vr 15 1] M (fun M1 => (zCalL l G Y_X5_dropped 0 0 [vr 15 1] M1 (fun x3 M2 => zAt l G Y_X8_dropIn (zEI G Y_X8_dropIn Kf) 21 [(0, vr 0 0), (1, vl x3), (3, vi 1)] [] M2 0 0))))) : zCalI l G Y_X8_dropIn 0 0 [vr 0 0] M Kf := by
  refine zCal_of (lv := [(0, vr 0 0)]) (by decide) rfl (zle rfl) rfl (fun hv => zlv_args (lv := [(0, vr 0 0)]) rfl hv) ?_
  refine Z_aload_n dX8_dropIn_0 rfl 0 rfl ?_
  refine Z_getR (s1 := 15) (i1 := 2) zfl_X8_41 rfl (fun q => by first | exact q | decide) dX8_dropIn_1 ?_
  refine Z_aload_n dX8_dropIn_4 rfl 0 rfl ?_
  refine Z_getR (s1 := 15) (i1 := 1) zfl_X8_28 rfl (fun q => by first | exact q | decide) dX8_dropIn_5 ?_
  refine Z_callVV (as := [vr 15 1]) zRm_M zcv_X8_dropIn_X5_copyFrom_89 (ci := 9) rfl rfl rfl rfl (zle rfl) dX8_dropIn_8 ⟨Nat.le_refl _, Nat.le_refl _⟩ h (fun M1 h => ?_)
  refine Z_aload_n dX8_dropIn_11 rfl 0 rfl ?_
  refine Z_getR (s1 := 15) (i1 := 1) zfl_X8_28 rfl (fun q => by first | exact q | decide) dX8_dropIn_12 ?_
  refine Z_callVL (as := []) zRm_M zcv_X8_dropIn_X5_dropped_238 (ci := 9) rfl rfl rfl rfl (zle rfl) dX8_dropIn_15 ⟨Nat.le_refl _, Nat.le_refl _⟩ h (fun x3 M2 h => ?_)
  refine Z_lstore_n (lv2 := [(1, vl x3), (0, vr 0 0)]) dX8_dropIn_18 rfl (by decide) rfl ?_
  refine Z_iconst (v := 1) (by decide) dX8_dropIn_19 ?_
  refine Z_istore_n (lv2 := [(3, vi 1), (1, vl x3), (0, vr 0 0)]) dX8_dropIn_20 rfl (by decide) rfl ?_
  exact Z_pick [2, 1, 0] rfl h
set_option maxRecDepth 100000 in
set_option maxHeartbeats 4000000 in
theorem zb_X8_dropIn_21 {l : Launch} {G : zG} {y1 : Int64} {y3 : Int32} {M : zM} {Kf : Int32 → zM → Prop} (h : ((200 < y3 → (Kf (-1) M)) ∧ (¬ 200 < y3 → (zCalV l G Y_X5_passTick 0 0 [vr 15 2] M (fun M1 => (zCalL l G Y_X5_dropped 0 0 [vr 15 2] M1 (fun x3 M2 => (((lg_cmp x3 y1) ≤ 0 → zAt l G Y_X8_dropIn (zEI G Y_X8_dropIn Kf) 21 [(0, vr 0 0), (1, vl y1), (3, vi (y3 + 1))] [] M2 0 0) ∧ (¬ (lg_cmp x3 y1) ≤ 0 → (Kf y3 M2)))))))))) : zAt l G Y_X8_dropIn (zEI G Y_X8_dropIn Kf) 21 [(0, vr 0 0), (1, vl y1), (3, vi y3)] [] M 0 0 := by
  refine Z_iload_n dX8_dropIn_21 rfl 2 rfl ?_
  refine Z_sipush (v := 200) (by decide) dX8_dropIn_22 ?_
  refine Z_icmp_gt (tgt := 55) dX8_dropIn_25 (by decide) (fun q => ?_) (fun q => ?_)
  · have h := h.1 q
    refine Z_iconst (v := (-1)) (by decide) dX8_dropIn_55 ?_
    exact Z_iret rfl rfl dX8_dropIn_56 (Nat.le_refl _) (Nat.le_refl _) ⟨_, rfl, h⟩
  · have h := h.2 q
    refine Z_aload_n dX8_dropIn_28 rfl 0 rfl ?_
    refine Z_getR (s1 := 15) (i1 := 2) zfl_X8_41 rfl (fun q => by first | exact q | decide) dX8_dropIn_29 ?_
    refine Z_callVV (as := []) zRm_M zcv_X8_dropIn_X5_passTick_269 (ci := 9) rfl rfl rfl rfl (zle rfl) dX8_dropIn_32 ⟨Nat.le_refl _, Nat.le_refl _⟩ h (fun M1 h => ?_)
    refine Z_aload_n dX8_dropIn_35 rfl 0 rfl ?_
    refine Z_getR (s1 := 15) (i1 := 2) zfl_X8_41 rfl (fun q => by first | exact q | decide) dX8_dropIn_36 ?_
    refine Z_callVL (as := []) zRm_M zcv_X8_dropIn_X5_dropped_238 (ci := 9) rfl rfl rfl rfl (zle rfl) dX8_dropIn_39 ⟨Nat.le_refl _, Nat.le_refl _⟩ h (fun x3 M2 h => ?_)
    refine Z_lload_n dX8_dropIn_42 rfl 1 rfl ?_
    refine Z_lcmp dX8_dropIn_43 ?_
    refine Z_if_le (tgt := 49) dX8_dropIn_44 (by decide) (fun q => ?_) (fun q => ?_)
    · have h := h.1 q
      refine Z_iinc (v := (y3 + 1)) (lv2 := [(3, vi (y3 + 1)), (0, vr 0 0), (1, vl y1)]) dX8_dropIn_49 2 rfl rfl (by decide) rfl ?_
      refine Z_goto (tgt := 21) dX8_dropIn_52 (by decide) ?_
      exact Z_pick [1, 2, 0] rfl h
    · have h := h.2 q
      refine Z_iload_n dX8_dropIn_47 rfl 2 rfl ?_
      exact Z_iret rfl rfl dX8_dropIn_48 (Nat.le_refl _) (Nat.le_refl _) ⟨_, rfl, h⟩
