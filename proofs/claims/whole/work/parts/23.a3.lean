/-! printed by wip/whole/drive.py -/
abbrev Y_X8_droppedBehind : zY := (yX8_droppedBehind, cX8_droppedBehind, 3, (some .long), 20, [])
theorem zcv_X8_droppedBehind_X5_dropped_238 : zLV Y_X8_droppedBehind 238 Y_X5_dropped 0 RX5 := ⟨zw_958, zw_959, zw_960, zw_114, zw_961, by decide +kernel, by decide, by decide⟩
theorem zcv_X8_droppedBehind_X5_passTick_269 : zLV Y_X8_droppedBehind 269 Y_X5_passTick 0 RX5 := ⟨zw_986, zw_817, zw_818, zw_114, zw_819, by decide +kernel, by decide, by decide⟩
abbrev Y_X8_longest : zY := (yX8_longest, cX8_longest, 4, (some .int), 20, [])
theorem zcs_X8_longest_X8_requireWithin_110 : zLS Y_X8_longest 110 Y_X8_requireWithin 3 := ⟨zw_1326, zw_1327, zw_111, zw_1328, by decide +kernel, by decide, by decide⟩
theorem zcv_X8_longest_X5_copyFrom_89 : zLV Y_X8_longest 89 Y_X5_copyFrom 1 RX5 := ⟨zw_717, zw_718, zw_719, zw_114, zw_720, by decide +kernel, by decide, by decide⟩
theorem zcv_X8_longest_X5_passTick_269 : zLV Y_X8_longest 269 Y_X5_passTick 0 RX5 := ⟨zw_986, zw_817, zw_818, zw_114, zw_819, by decide +kernel, by decide, by decide⟩
theorem zw_1487 : Cond.methodLink RX8 272 Lib.Math.max.name ∈ zAll := zin 1487 (by decide +kernel) (by decide +kernel)
abbrev Y_X8_lookAhead : zY := (yX8_lookAhead, cX8_lookAhead, 3, none, 20, [])
theorem zcv_X8_lookAhead_X5_copyFrom_89 : zLV Y_X8_lookAhead 89 Y_X5_copyFrom 1 RX5 := ⟨zw_717, zw_718, zw_719, zw_114, zw_720, by decide +kernel, by decide, by decide⟩
theorem zcv_X8_lookAhead_X5_passTick_269 : zLV Y_X8_lookAhead 269 Y_X5_passTick 0 RX5 := ⟨zw_986, zw_817, zw_818, zw_114, zw_819, by decide +kernel, by decide, by decide⟩
abbrev Y_X8_send : zY := (yX8_send, cX8_send, 3, (some .int), 20, [])
theorem zcs_X8_send_X8_requireIndex_216 : zLS Y_X8_send 216 Y_X8_requireIndex 2 := ⟨zw_1345, zw_1346, zw_111, zw_1347, by decide +kernel, by decide, by decide⟩
theorem zcs_X8_send_X8_requireWithin_110 : zLS Y_X8_send 110 Y_X8_requireWithin 3 := ⟨zw_1326, zw_1327, zw_111, zw_1328, by decide +kernel, by decide, by decide⟩
theorem zcv_X8_send_X2_keep_100 : zLV Y_X8_send 100 Y_X2_keep 1 RX2 := ⟨zw_791, zw_792, zw_793, zw_119, zw_794, by decide +kernel, by decide, by decide⟩
theorem zw_1529 : Cond.methodLink RX8 289 yX5_arriveAll ∈ zAll := zin 1529 (by decide +kernel) (by decide +kernel)
theorem zcv_X8_send_X5_arriveAll_289 : zLV Y_X8_send 289 Y_X5_arriveAll 2 RX5 := ⟨zw_1529, zw_902, zw_903, zw_114, zw_904, by decide +kernel, by decide, by decide⟩
abbrev Y_X8_accountIn : zY := (yX8_accountIn, cX8_accountIn, 4, (some .long), 21, [])
theorem zcv_X8_accountIn_X8_requireFlowOrNone_224 : zLV Y_X8_accountIn 224 Y_X8_requireFlowOrNone 1 RX8 := ⟨zw_1393, zw_1395, zw_22, zw_111, zw_1396, by decide +kernel, by decide, by decide⟩
theorem zcs_X8_accountIn_X8_requireWithin_110 : zLS Y_X8_accountIn 110 Y_X8_requireWithin 3 := ⟨zw_1326, zw_1327, zw_111, zw_1328, by decide +kernel, by decide, by decide⟩
theorem zw_1455 : Cond.methodLink RX8 262 yX8_lookAhead ∈ zAll := zin 1455 (by decide +kernel) (by decide +kernel)
theorem zw_1458 : Cond.code yX8_lookAhead cX8_lookAhead 3 none ∈ zAll := zin 1458 (by decide +kernel) (by decide +kernel)
theorem zw_1457 : Cond.instanceMethod yX8_lookAhead ∈ zAll := zin 1457 (by decide +kernel) (by decide +kernel)
theorem zw_24 : Cond.selects RX8 yX8_lookAhead yX8_lookAhead ∈ zAll := zin 24 (by decide +kernel) (by decide +kernel)
theorem zcv_X8_accountIn_X8_lookAhead_262 : zLV Y_X8_accountIn 262 Y_X8_lookAhead 1 RX8 := ⟨zw_1455, zw_1457, zw_24, zw_111, zw_1458, by decide +kernel, by decide, by decide⟩
theorem zcv_X8_accountIn_X5_total_227 : zLV Y_X8_accountIn 227 Y_X5_total 2 RX5 := ⟨zw_954, zw_955, zw_956, zw_114, zw_957, by decide +kernel, by decide, by decide⟩
abbrev Y_X8_averageIn : zY := (yX8_averageIn, cX8_averageIn, 2, (some .int), 21, [])
theorem zcs_X8_averageIn_X8_requireWithin_110 : zLS Y_X8_averageIn 110 Y_X8_requireWithin 3 := ⟨zw_1326, zw_1327, zw_111, zw_1328, by decide +kernel, by decide, by decide⟩
theorem zcv_X8_averageIn_X8_lookAhead_262 : zLV Y_X8_averageIn 262 Y_X8_lookAhead 1 RX8 := ⟨zw_1455, zw_1457, zw_24, zw_111, zw_1458, by decide +kernel, by decide, by decide⟩
abbrev Y_X8_bestTop : zY := (yX8_bestTop, cX8_bestTop, 8, (some .int), 21, [])
theorem zcs_X8_bestTop_X8_requireWithin_110 : zLS Y_X8_bestTop 110 Y_X8_requireWithin 3 := ⟨zw_1326, zw_1327, zw_111, zw_1328, by decide +kernel, by decide, by decide⟩
theorem zw_1495 : Cond.constantLong RX8 276 (-1) ∈ zAll := zin 1495 (by decide +kernel) (by decide +kernel)
theorem zcv_X8_bestTop_X5_copyFrom_89 : zLV Y_X8_bestTop 89 Y_X5_copyFrom 1 RX5 := ⟨zw_717, zw_718, zw_719, zw_114, zw_720, by decide +kernel, by decide, by decide⟩
theorem zfp_X8_126 : zFP RX8 126 15 4 0 .int := ⟨9, RX5, TX5, 16, tyX5, ⟨rfl, rfl, by decide, rfl, zw_316, zws_X5⟩, tyX5_ok, nmX5, rfl, by decide +kernel⟩
theorem zw_1496 : Cond.methodLink RX8 278 yX8_droppedBehind ∈ zAll := zin 1496 (by decide +kernel) (by decide +kernel)
theorem zw_1499 : Cond.code yX8_droppedBehind cX8_droppedBehind 3 (some .long) ∈ zAll := zin 1499 (by decide +kernel) (by decide +kernel)
theorem zw_1498 : Cond.instanceMethod yX8_droppedBehind ∈ zAll := zin 1498 (by decide +kernel) (by decide +kernel)
theorem zw_25 : Cond.selects RX8 yX8_droppedBehind yX8_droppedBehind ∈ zAll := zin 25 (by decide +kernel) (by decide +kernel)
theorem zcv_X8_bestTop_X8_droppedBehind_278 : zLV Y_X8_bestTop 278 Y_X8_droppedBehind 1 RX8 := ⟨zw_1496, zw_1498, zw_25, zw_111, zw_1499, by decide +kernel, by decide, by decide⟩
abbrev Y_X8_bestWeight : zY := (yX8_bestWeight, cX8_bestWeight, 8, (some .int), 21, [])
theorem zcs_X8_bestWeight_X8_requireWithin_110 : zLS Y_X8_bestWeight 110 Y_X8_requireWithin 3 := ⟨zw_1326, zw_1327, zw_111, zw_1328, by decide +kernel, by decide, by decide⟩
theorem zcv_X8_bestWeight_X5_copyFrom_89 : zLV Y_X8_bestWeight 89 Y_X5_copyFrom 1 RX5 := ⟨zw_717, zw_718, zw_719, zw_114, zw_720, by decide +kernel, by decide, by decide⟩
theorem zfp_X8_129 : zFP RX8 129 15 5 0 .int := ⟨9, RX5, TX5, 16, tyX5, ⟨rfl, rfl, by decide, rfl, zw_319, zws_X5⟩, tyX5_ok, nmX5, rfl, by decide +kernel⟩
theorem zcv_X8_bestWeight_X8_droppedBehind_278 : zLV Y_X8_bestWeight 278 Y_X8_droppedBehind 1 RX8 := ⟨zw_1496, zw_1498, zw_25, zw_111, zw_1499, by decide +kernel, by decide, by decide⟩
abbrev Y_X8_gain : zY := (yX8_gain, cX8_gain, 4, (some .long), 21, [])
theorem zcs_X8_gain_X8_requireWithin_110 : zLS Y_X8_gain 110 Y_X8_requireWithin 3 := ⟨zw_1326, zw_1327, zw_111, zw_1328, by decide +kernel, by decide, by decide⟩
theorem zcv_X8_gain_X5_copyFrom_89 : zLV Y_X8_gain 89 Y_X5_copyFrom 1 RX5 := ⟨zw_717, zw_718, zw_719, zw_114, zw_720, by decide +kernel, by decide, by decide⟩
theorem zcv_X8_gain_X8_droppedBehind_278 : zLV Y_X8_gain 278 Y_X8_droppedBehind 1 RX8 := ⟨zw_1496, zw_1498, zw_25, zw_111, zw_1499, by decide +kernel, by decide, by decide⟩
theorem zw_332 : Cond.fieldLink RX8 283 "EarlyDrops$Router" "early" "Z" ∈ zAll := zin 332 (by decide +kernel) (by decide +kernel)
theorem zfp_X8_283 : zFP RX8 283 15 11 0 .boolean := ⟨9, RX5, TX5, 16, tyX5, ⟨rfl, rfl, by decide, rfl, zw_332, zws_X5⟩, tyX5_ok, nmX5, rfl, by decide +kernel⟩
abbrev Y_X8_queueIn : zY := (yX8_queueIn, cX8_queueIn, 2, (some .int), 21, [])
theorem zcs_X8_queueIn_X8_requireWithin_110 : zLS Y_X8_queueIn 110 Y_X8_requireWithin 3 := ⟨zw_1326, zw_1327, zw_111, zw_1328, by decide +kernel, by decide, by decide⟩
theorem zcv_X8_queueIn_X8_lookAhead_262 : zLV Y_X8_queueIn 262 Y_X8_lookAhead 1 RX8 := ⟨zw_1455, zw_1457, zw_24, zw_111, zw_1458, by decide +kernel, by decide, by decide⟩
abbrev Y_X8_tick : zY := (yX8_tick, cX8_tick, 2, (some .int), 21, [])
theorem zcs_X8_tick_X8_requireWithin_110 : zLS Y_X8_tick 110 Y_X8_requireWithin 3 := ⟨zw_1326, zw_1327, zw_111, zw_1328, by decide +kernel, by decide, by decide⟩
theorem zcv_X8_tick_X2_keep_100 : zLV Y_X8_tick 100 Y_X2_keep 1 RX2 := ⟨zw_791, zw_792, zw_793, zw_119, zw_794, by decide +kernel, by decide, by decide⟩
theorem zw_1521 : Cond.methodLink RX8 286 yX5_passTicks ∈ zAll := zin 1521 (by decide +kernel) (by decide +kernel)
theorem zcv_X8_tick_X5_passTicks_286 : zLV Y_X8_tick 286 Y_X5_passTicks 1 RX5 := ⟨zw_1521, zw_813, zw_814, zw_114, zw_815, by decide +kernel, by decide, by decide⟩
abbrev Y_X8_windowIn : zY := (yX8_windowIn, cX8_windowIn, 3, (some .int), 21, [])
theorem zcs_X8_windowIn_X8_requireIndex_216 : zLS Y_X8_windowIn 216 Y_X8_requireIndex 2 := ⟨zw_1345, zw_1346, zw_111, zw_1347, by decide +kernel, by decide, by decide⟩
theorem zcs_X8_windowIn_X8_requireWithin_110 : zLS Y_X8_windowIn 110 Y_X8_requireWithin 3 := ⟨zw_1326, zw_1327, zw_111, zw_1328, by decide +kernel, by decide, by decide⟩
theorem zcv_X8_windowIn_X8_lookAhead_262 : zLV Y_X8_windowIn 262 Y_X8_lookAhead 1 RX8 := ⟨zw_1455, zw_1457, zw_24, zw_111, zw_1458, by decide +kernel, by decide, by decide⟩
abbrev Y_X8_load : zY := (yX8_load, cX8_load, 3, (some .int), 22, [])
theorem zw_482 : Cond.fieldLink RX8 21 "EarlyDrops" "setup" "LEarlyDrops$Setup;" ∈ zAll := zin 482 (by decide +kernel) (by decide +kernel)
theorem zfl_X8_21 : zFL RX8 21 0 1 1 := ⟨12, RX8, TX8, 9, rfl, rfl, by decide, rfl, zw_482, zws_X8⟩
theorem zw_524 : Cond.methodLink RX8 78 yX7_readAll ∈ zAll := zin 524 (by decide +kernel) (by decide +kernel)
theorem zw_527 : Cond.code yX7_readAll cX7_readAll 2 (some .boolean) ∈ zAll := zin 527 (by decide +kernel) (by decide +kernel)
theorem zw_525 : Cond.instanceMethod yX7_readAll ∈ zAll := zin 525 (by decide +kernel) (by decide +kernel)
theorem zw_526 : Cond.selects RX7 yX7_readAll yX7_readAll ∈ zAll := zin 526 (by decide +kernel) (by decide +kernel)
theorem zcv_X8_load_X7_readAll_78 : zLV Y_X8_load 78 Y_X7_readAll 0 RX7 := ⟨zw_524, zw_525, zw_526, zw_113, zw_527, by decide +kernel, by decide, by decide⟩
theorem zw_713 : Cond.methodLink RX8 82 yX4_empty ∈ zAll := zin 713 (by decide +kernel) (by decide +kernel)
theorem zw_716 : Cond.code yX4_empty cX4_empty 1 none ∈ zAll := zin 716 (by decide +kernel) (by decide +kernel)
theorem zw_714 : Cond.instanceMethod yX4_empty ∈ zAll := zin 714 (by decide +kernel) (by decide +kernel)
theorem zw_715 : Cond.selects RX4 yX4_empty yX4_empty ∈ zAll := zin 715 (by decide +kernel) (by decide +kernel)
theorem zcv_X8_load_X4_empty_82 : zLV Y_X8_load 82 Y_X4_empty 0 RX4 := ⟨zw_713, zw_714, zw_715, zw_112, zw_716, by decide +kernel, by decide, by decide⟩
theorem zw_380 : Cond.fieldLink RX8 88 "EarlyDrops$Setup" "router" "LEarlyDrops$Router;" ∈ zAll := zin 380 (by decide +kernel) (by decide +kernel)
theorem zfl_X8_88 : zFL RX8 88 3 1 1 := ⟨11, RX7, TX7, 3, rfl, rfl, by decide, rfl, zw_380, zws_X7⟩
theorem zcv_X8_load_X5_copyFrom_89 : zLV Y_X8_load 89 Y_X5_copyFrom 1 RX5 := ⟨zw_717, zw_718, zw_719, zw_114, zw_720, by decide +kernel, by decide, by decide⟩
theorem zcv_X8_load_X2_forget_93 : zLV Y_X8_load 93 Y_X2_forget 0 RX2 := ⟨zw_738, zw_739, zw_740, zw_119, zw_741, by decide +kernel, by decide, by decide⟩
theorem zw_164 : Cond.fieldLink RX8 85 "EarlyDrops$Reader" "error" "I" ∈ zAll := zin 164 (by decide +kernel) (by decide +kernel)
theorem zfl_X8_85 : zFL RX8 85 1 5 0 := ⟨8, RX4, TX4, 7, rfl, rfl, by decide, rfl, zw_164, zws_X4⟩
abbrev Y_X8_run : zY := (yX8_run, cX8_run, 2, (some .int), 23, [])
theorem zw_483 : Cond.fieldLink RX8 37 "EarlyDrops" "script" "LEarlyDrops$Script;" ∈ zAll := zin 483 (by decide +kernel) (by decide +kernel)
theorem zfl_X8_37 : zFL RX8 37 0 2 1 := ⟨12, RX8, TX8, 9, rfl, rfl, by decide, rfl, zw_483, zws_X8⟩
theorem zw_746 : Cond.methodLink RX8 99 yX6_readAll ∈ zAll := zin 746 (by decide +kernel) (by decide +kernel)
theorem zw_749 : Cond.code yX6_readAll cX6_readAll 2 (some .boolean) ∈ zAll := zin 749 (by decide +kernel) (by decide +kernel)
theorem zw_747 : Cond.instanceMethod yX6_readAll ∈ zAll := zin 747 (by decide +kernel) (by decide +kernel)
theorem zw_748 : Cond.selects RX6 yX6_readAll yX6_readAll ∈ zAll := zin 748 (by decide +kernel) (by decide +kernel)
theorem zcv_X8_run_X6_readAll_99 : zLV Y_X8_run 99 Y_X6_readAll 0 RX6 := ⟨zw_746, zw_747, zw_748, zw_118, zw_749, by decide +kernel, by decide, by decide⟩
theorem zcv_X8_run_X4_empty_82 : zLV Y_X8_run 82 Y_X4_empty 0 RX4 := ⟨zw_713, zw_714, zw_715, zw_112, zw_716, by decide +kernel, by decide, by decide⟩
theorem zcv_X8_run_X2_keep_100 : zLV Y_X8_run 100 Y_X2_keep 1 RX2 := ⟨zw_791, zw_792, zw_793, zw_119, zw_794, by decide +kernel, by decide, by decide⟩
theorem zw_799 : Cond.methodLink RX8 103 yX6_perform ∈ zAll := zin 799 (by decide +kernel) (by decide +kernel)
theorem zw_802 : Cond.code yX6_perform cX6_perform 4 (some .int) ∈ zAll := zin 802 (by decide +kernel) (by decide +kernel)
theorem zw_800 : Cond.instanceMethod yX6_perform ∈ zAll := zin 800 (by decide +kernel) (by decide +kernel)
theorem zw_801 : Cond.selects RX6 yX6_perform yX6_perform ∈ zAll := zin 801 (by decide +kernel) (by decide +kernel)
theorem zcv_X8_run_X6_perform_103 : zLV Y_X8_run 103 Y_X6_perform 0 RX6 := ⟨zw_799, zw_800, zw_801, zw_118, zw_802, by decide +kernel, by decide, by decide⟩
theorem dX8_load_0 : decode cX8_load 0 = .ok (.aload_n 0, 1) := by decide +kernel
theorem dX8_load_1 : decode cX8_load 1 = .ok (.getfield 21, 3) := by decide +kernel
theorem dX8_load_4 : decode cX8_load 4 = .ok (.invokevirtual 78, 3) := by decide +kernel
theorem dX8_load_7 : decode cX8_load 7 = .ok (.istore_n 1, 1) := by decide +kernel
theorem dX8_load_8 : decode cX8_load 8 = .ok (.aload_n 0, 1) := by decide +kernel
theorem dX8_load_9 : decode cX8_load 9 = .ok (.getfield 10, 3) := by decide +kernel
theorem dX8_load_12 : decode cX8_load 12 = .ok (.invokevirtual 82, 3) := by decide +kernel
theorem dX8_load_15 : decode cX8_load 15 = .ok (.iload_n 1, 1) := by decide +kernel
theorem dX8_load_16 : decode cX8_load 16 = .ok (.ifCond .ne 14, 3) := by decide +kernel
theorem dX8_load_19 : decode cX8_load 19 = .ok (.bipush (-10), 2) := by decide +kernel
theorem dX8_load_21 : decode cX8_load 21 = .ok (.aload_n 0, 1) := by decide +kernel
theorem dX8_load_22 : decode cX8_load 22 = .ok (.getfield 10, 3) := by decide +kernel
theorem dX8_load_25 : decode cX8_load 25 = .ok (.getfield 85, 3) := by decide +kernel
theorem dX8_load_28 : decode cX8_load 28 = .ok (.isub, 1) := by decide +kernel
theorem dX8_load_29 : decode cX8_load 29 = .ok (.ireturn, 1) := by decide +kernel
theorem dX8_load_30 : decode cX8_load 30 = .ok (.aload_n 0, 1) := by decide +kernel
theorem dX8_load_31 : decode cX8_load 31 = .ok (.getfield 28, 3) := by decide +kernel
theorem dX8_load_34 : decode cX8_load 34 = .ok (.aload_n 0, 1) := by decide +kernel
theorem dX8_load_35 : decode cX8_load 35 = .ok (.getfield 21, 3) := by decide +kernel
theorem dX8_load_38 : decode cX8_load 38 = .ok (.getfield 88, 3) := by decide +kernel
theorem dX8_load_41 : decode cX8_load 41 = .ok (.invokevirtual 89, 3) := by decide +kernel
theorem dX8_load_44 : decode cX8_load 44 = .ok (.aload_n 0, 1) := by decide +kernel
theorem dX8_load_45 : decode cX8_load 45 = .ok (.getfield 47, 3) := by decide +kernel
theorem dX8_load_48 : decode cX8_load 48 = .ok (.invokevirtual 93, 3) := by decide +kernel
theorem dX8_load_51 : decode cX8_load 51 = .ok (.iconst 0, 1) := by decide +kernel
theorem dX8_load_52 : decode cX8_load 52 = .ok (.istore_n 2, 1) := by decide +kernel
theorem dX8_load_53 : decode cX8_load 53 = .ok (.iload_n 2, 1) := by decide +kernel
theorem dX8_load_54 : decode cX8_load 54 = .ok (.aload_n 0, 1) := by decide +kernel
theorem dX8_load_55 : decode cX8_load 55 = .ok (.getfield 55, 3) := by decide +kernel
theorem dX8_load_58 : decode cX8_load 58 = .ok (.arraylength, 1) := by decide +kernel
theorem dX8_load_59 : decode cX8_load 59 = .ok (.if_icmp .ge 16, 3) := by decide +kernel
theorem dX8_load_62 : decode cX8_load 62 = .ok (.aload_n 0, 1) := by decide +kernel
theorem dX8_load_63 : decode cX8_load 63 = .ok (.getfield 55, 3) := by decide +kernel
theorem dX8_load_66 : decode cX8_load 66 = .ok (.iload_n 2, 1) := by decide +kernel
theorem dX8_load_67 : decode cX8_load 67 = .ok (.iconst 0, 1) := by decide +kernel
theorem dX8_load_68 : decode cX8_load 68 = .ok (.bastore, 1) := by decide +kernel
theorem dX8_load_69 : decode cX8_load 69 = .ok (.iinc 2 1, 3) := by decide +kernel
theorem dX8_load_72 : decode cX8_load 72 = .ok (.goto (-19), 3) := by decide +kernel
theorem dX8_load_75 : decode cX8_load 75 = .ok (.aload_n 0, 1) := by decide +kernel
theorem dX8_load_76 : decode cX8_load 76 = .ok (.getfield 28, 3) := by decide +kernel
theorem dX8_load_79 : decode cX8_load 79 = .ok (.getfield 96, 3) := by decide +kernel
theorem dX8_load_82 : decode cX8_load 82 = .ok (.ireturn, 1) := by decide +kernel
theorem dX8_run_0 : decode cX8_run 0 = .ok (.aload_n 0, 1) := by decide +kernel
theorem dX8_run_1 : decode cX8_run 1 = .ok (.getfield 37, 3) := by decide +kernel
theorem dX8_run_4 : decode cX8_run 4 = .ok (.invokevirtual 99, 3) := by decide +kernel
theorem dX8_run_7 : decode cX8_run 7 = .ok (.istore_n 1, 1) := by decide +kernel
theorem dX8_run_8 : decode cX8_run 8 = .ok (.aload_n 0, 1) := by decide +kernel
theorem dX8_run_9 : decode cX8_run 9 = .ok (.getfield 10, 3) := by decide +kernel
theorem dX8_run_12 : decode cX8_run 12 = .ok (.invokevirtual 82, 3) := by decide +kernel
theorem dX8_run_15 : decode cX8_run 15 = .ok (.iload_n 1, 1) := by decide +kernel
theorem dX8_run_16 : decode cX8_run 16 = .ok (.ifCond .ne 14, 3) := by decide +kernel
theorem dX8_run_19 : decode cX8_run 19 = .ok (.bipush (-10), 2) := by decide +kernel
theorem dX8_run_21 : decode cX8_run 21 = .ok (.aload_n 0, 1) := by decide +kernel
theorem dX8_run_22 : decode cX8_run 22 = .ok (.getfield 10, 3) := by decide +kernel
theorem dX8_run_25 : decode cX8_run 25 = .ok (.getfield 85, 3) := by decide +kernel
theorem dX8_run_28 : decode cX8_run 28 = .ok (.isub, 1) := by decide +kernel
theorem dX8_run_29 : decode cX8_run 29 = .ok (.ireturn, 1) := by decide +kernel
theorem dX8_run_30 : decode cX8_run 30 = .ok (.aload_n 0, 1) := by decide +kernel
theorem dX8_run_31 : decode cX8_run 31 = .ok (.getfield 47, 3) := by decide +kernel
theorem dX8_run_34 : decode cX8_run 34 = .ok (.aload_n 0, 1) := by decide +kernel
theorem dX8_run_35 : decode cX8_run 35 = .ok (.getfield 28, 3) := by decide +kernel
theorem dX8_run_38 : decode cX8_run 38 = .ok (.invokevirtual 100, 3) := by decide +kernel
theorem dX8_run_41 : decode cX8_run 41 = .ok (.aload_n 0, 1) := by decide +kernel
theorem dX8_run_42 : decode cX8_run 42 = .ok (.getfield 37, 3) := by decide +kernel
theorem dX8_run_45 : decode cX8_run 45 = .ok (.invokevirtual 103, 3) := by decide +kernel
theorem dX8_run_48 : decode cX8_run 48 = .ok (.ireturn, 1) := by decide +kernel
theorem dX8_accountIn_0 : decode cX8_accountIn 0 = .ok (.aload_n 0, 1) := by decide +kernel
theorem dX8_accountIn_1 : decode cX8_accountIn 1 = .ok (.iload_n 1, 1) := by decide +kernel
theorem dX8_accountIn_2 : decode cX8_accountIn 2 = .ok (.invokevirtual 224, 3) := by decide +kernel
theorem dX8_accountIn_5 : decode cX8_accountIn 5 = .ok (.iload_n 2, 1) := by decide +kernel
theorem dX8_accountIn_6 : decode cX8_accountIn 6 = .ok (.iconst 0, 1) := by decide +kernel
theorem dX8_accountIn_7 : decode cX8_accountIn 7 = .ok (.bipush 7, 2) := by decide +kernel
theorem dX8_accountIn_9 : decode cX8_accountIn 9 = .ok (.invokestatic 110, 3) := by decide +kernel
theorem dX8_accountIn_12 : decode cX8_accountIn 12 = .ok (.iload_n 3, 1) := by decide +kernel
theorem dX8_accountIn_13 : decode cX8_accountIn 13 = .ok (.iconst 0, 1) := by decide +kernel
theorem dX8_accountIn_14 : decode cX8_accountIn 14 = .ok (.sipush 200, 3) := by decide +kernel
theorem dX8_accountIn_17 : decode cX8_accountIn 17 = .ok (.invokestatic 110, 3) := by decide +kernel
theorem dX8_accountIn_20 : decode cX8_accountIn 20 = .ok (.aload_n 0, 1) := by decide +kernel
theorem dX8_accountIn_21 : decode cX8_accountIn 21 = .ok (.iload_n 3, 1) := by decide +kernel
theorem dX8_accountIn_22 : decode cX8_accountIn 22 = .ok (.invokevirtual 262, 3) := by decide +kernel
theorem dX8_accountIn_25 : decode cX8_accountIn 25 = .ok (.aload_n 0, 1) := by decide +kernel
theorem dX8_accountIn_26 : decode cX8_accountIn 26 = .ok (.getfield 41, 3) := by decide +kernel
theorem dX8_accountIn_29 : decode cX8_accountIn 29 = .ok (.iload_n 1, 1) := by decide +kernel
theorem dX8_accountIn_30 : decode cX8_accountIn 30 = .ok (.iload_n 2, 1) := by decide +kernel
theorem dX8_accountIn_31 : decode cX8_accountIn 31 = .ok (.invokevirtual 227, 3) := by decide +kernel
theorem dX8_accountIn_34 : decode cX8_accountIn 34 = .ok (.aload_n 0, 1) := by decide +kernel
theorem dX8_accountIn_35 : decode cX8_accountIn 35 = .ok (.getfield 28, 3) := by decide +kernel
theorem dX8_accountIn_38 : decode cX8_accountIn 38 = .ok (.iload_n 1, 1) := by decide +kernel
theorem dX8_accountIn_39 : decode cX8_accountIn 39 = .ok (.iload_n 2, 1) := by decide +kernel
theorem dX8_accountIn_40 : decode cX8_accountIn 40 = .ok (.invokevirtual 227, 3) := by decide +kernel
theorem dX8_accountIn_43 : decode cX8_accountIn 43 = .ok (.lsub, 1) := by decide +kernel
theorem dX8_accountIn_44 : decode cX8_accountIn 44 = .ok (.lreturn, 1) := by decide +kernel
theorem dX8_queueIn_0 : decode cX8_queueIn 0 = .ok (.iload_n 1, 1) := by decide +kernel
theorem dX8_queueIn_1 : decode cX8_queueIn 1 = .ok (.iconst 0, 1) := by decide +kernel
theorem dX8_queueIn_2 : decode cX8_queueIn 2 = .ok (.sipush 200, 3) := by decide +kernel
theorem dX8_queueIn_5 : decode cX8_queueIn 5 = .ok (.invokestatic 110, 3) := by decide +kernel
theorem dX8_queueIn_8 : decode cX8_queueIn 8 = .ok (.aload_n 0, 1) := by decide +kernel
theorem dX8_queueIn_9 : decode cX8_queueIn 9 = .ok (.iload_n 1, 1) := by decide +kernel
theorem dX8_queueIn_10 : decode cX8_queueIn 10 = .ok (.invokevirtual 262, 3) := by decide +kernel
theorem dX8_queueIn_13 : decode cX8_queueIn 13 = .ok (.aload_n 0, 1) := by decide +kernel
theorem dX8_queueIn_14 : decode cX8_queueIn 14 = .ok (.getfield 41, 3) := by decide +kernel
theorem dX8_queueIn_17 : decode cX8_queueIn 17 = .ok (.getfield 138, 3) := by decide +kernel
theorem dX8_queueIn_20 : decode cX8_queueIn 20 = .ok (.getfield 142, 3) := by decide +kernel
theorem dX8_queueIn_23 : decode cX8_queueIn 23 = .ok (.ireturn, 1) := by decide +kernel
theorem dX8_averageIn_0 : decode cX8_averageIn 0 = .ok (.iload_n 1, 1) := by decide +kernel
theorem dX8_averageIn_1 : decode cX8_averageIn 1 = .ok (.iconst 0, 1) := by decide +kernel
theorem dX8_averageIn_2 : decode cX8_averageIn 2 = .ok (.sipush 200, 3) := by decide +kernel
theorem dX8_averageIn_5 : decode cX8_averageIn 5 = .ok (.invokestatic 110, 3) := by decide +kernel
theorem dX8_averageIn_8 : decode cX8_averageIn 8 = .ok (.aload_n 0, 1) := by decide +kernel
theorem dX8_averageIn_9 : decode cX8_averageIn 9 = .ok (.iload_n 1, 1) := by decide +kernel
theorem dX8_averageIn_10 : decode cX8_averageIn 10 = .ok (.invokevirtual 262, 3) := by decide +kernel
theorem dX8_averageIn_13 : decode cX8_averageIn 13 = .ok (.aload_n 0, 1) := by decide +kernel
theorem dX8_averageIn_14 : decode cX8_averageIn 14 = .ok (.getfield 41, 3) := by decide +kernel
theorem dX8_averageIn_17 : decode cX8_averageIn 17 = .ok (.getfield 145, 3) := by decide +kernel
theorem dX8_averageIn_20 : decode cX8_averageIn 20 = .ok (.ireturn, 1) := by decide +kernel
theorem dX8_windowIn_0 : decode cX8_windowIn 0 = .ok (.iload_n 1, 1) := by decide +kernel
theorem dX8_windowIn_1 : decode cX8_windowIn 1 = .ok (.aload_n 0, 1) := by decide +kernel
theorem dX8_windowIn_2 : decode cX8_windowIn 2 = .ok (.getfield 28, 3) := by decide +kernel
theorem dX8_windowIn_5 : decode cX8_windowIn 5 = .ok (.getfield 96, 3) := by decide +kernel
theorem dX8_windowIn_8 : decode cX8_windowIn 8 = .ok (.invokestatic 216, 3) := by decide +kernel
theorem dX8_windowIn_11 : decode cX8_windowIn 11 = .ok (.iload_n 2, 1) := by decide +kernel
theorem dX8_windowIn_12 : decode cX8_windowIn 12 = .ok (.iconst 0, 1) := by decide +kernel
theorem dX8_windowIn_13 : decode cX8_windowIn 13 = .ok (.sipush 200, 3) := by decide +kernel
theorem dX8_windowIn_16 : decode cX8_windowIn 16 = .ok (.invokestatic 110, 3) := by decide +kernel
theorem dX8_windowIn_19 : decode cX8_windowIn 19 = .ok (.aload_n 0, 1) := by decide +kernel
theorem dX8_windowIn_20 : decode cX8_windowIn 20 = .ok (.iload_n 2, 1) := by decide +kernel
theorem dX8_windowIn_21 : decode cX8_windowIn 21 = .ok (.invokevirtual 262, 3) := by decide +kernel
theorem dX8_windowIn_24 : decode cX8_windowIn 24 = .ok (.aload_n 0, 1) := by decide +kernel
theorem dX8_windowIn_25 : decode cX8_windowIn 25 = .ok (.getfield 41, 3) := by decide +kernel
theorem dX8_windowIn_28 : decode cX8_windowIn 28 = .ok (.getfield 265, 3) := by decide +kernel
theorem dX8_windowIn_31 : decode cX8_windowIn 31 = .ok (.iload_n 1, 1) := by decide +kernel
theorem dX8_windowIn_32 : decode cX8_windowIn 32 = .ok (.aaload, 1) := by decide +kernel
theorem dX8_windowIn_33 : decode cX8_windowIn 33 = .ok (.getfield 189, 3) := by decide +kernel
theorem dX8_windowIn_36 : decode cX8_windowIn 36 = .ok (.ireturn, 1) := by decide +kernel
theorem dX8_longest_0 : decode cX8_longest 0 = .ok (.iload_n 1, 1) := by decide +kernel
theorem dX8_longest_1 : decode cX8_longest 1 = .ok (.iconst 1, 1) := by decide +kernel
theorem dX8_longest_2 : decode cX8_longest 2 = .ok (.sipush 200, 3) := by decide +kernel
theorem dX8_longest_5 : decode cX8_longest 5 = .ok (.invokestatic 110, 3) := by decide +kernel
theorem dX8_longest_8 : decode cX8_longest 8 = .ok (.aload_n 0, 1) := by decide +kernel
theorem dX8_longest_9 : decode cX8_longest 9 = .ok (.getfield 41, 3) := by decide +kernel
theorem dX8_longest_12 : decode cX8_longest 12 = .ok (.aload_n 0, 1) := by decide +kernel
theorem dX8_longest_13 : decode cX8_longest 13 = .ok (.getfield 28, 3) := by decide +kernel
theorem dX8_longest_16 : decode cX8_longest 16 = .ok (.invokevirtual 89, 3) := by decide +kernel
theorem dX8_longest_19 : decode cX8_longest 19 = .ok (.iconst 0, 1) := by decide +kernel
theorem dX8_longest_20 : decode cX8_longest 20 = .ok (.istore_n 2, 1) := by decide +kernel
theorem dX8_longest_21 : decode cX8_longest 21 = .ok (.iconst 0, 1) := by decide +kernel
theorem dX8_longest_22 : decode cX8_longest 22 = .ok (.istore_n 3, 1) := by decide +kernel
theorem dX8_longest_23 : decode cX8_longest 23 = .ok (.iload_n 3, 1) := by decide +kernel
theorem dX8_longest_24 : decode cX8_longest 24 = .ok (.iload_n 1, 1) := by decide +kernel
theorem dX8_longest_25 : decode cX8_longest 25 = .ok (.if_icmp .ge 31, 3) := by decide +kernel
theorem dX8_longest_28 : decode cX8_longest 28 = .ok (.aload_n 0, 1) := by decide +kernel
theorem dX8_longest_29 : decode cX8_longest 29 = .ok (.getfield 41, 3) := by decide +kernel
theorem dX8_longest_32 : decode cX8_longest 32 = .ok (.invokevirtual 269, 3) := by decide +kernel
theorem dX8_longest_35 : decode cX8_longest 35 = .ok (.iload_n 2, 1) := by decide +kernel
theorem dX8_longest_36 : decode cX8_longest 36 = .ok (.aload_n 0, 1) := by decide +kernel
theorem dX8_longest_37 : decode cX8_longest 37 = .ok (.getfield 41, 3) := by decide +kernel
theorem dX8_longest_40 : decode cX8_longest 40 = .ok (.getfield 138, 3) := by decide +kernel
theorem dX8_longest_43 : decode cX8_longest 43 = .ok (.getfield 142, 3) := by decide +kernel
theorem dX8_longest_46 : decode cX8_longest 46 = .ok (.invokestatic 272, 3) := by decide +kernel
theorem dX8_longest_49 : decode cX8_longest 49 = .ok (.istore_n 2, 1) := by decide +kernel
theorem dX8_longest_50 : decode cX8_longest 50 = .ok (.iinc 3 1, 3) := by decide +kernel
theorem dX8_longest_53 : decode cX8_longest 53 = .ok (.goto (-30), 3) := by decide +kernel
theorem dX8_longest_56 : decode cX8_longest 56 = .ok (.iload_n 2, 1) := by decide +kernel
theorem dX8_longest_57 : decode cX8_longest 57 = .ok (.ireturn, 1) := by decide +kernel
theorem dX8_bestWeight_0 : decode cX8_bestWeight 0 = .ok (.iload_n 1, 1) := by decide +kernel
theorem dX8_bestWeight_1 : decode cX8_bestWeight 1 = .ok (.iconst 1, 1) := by decide +kernel
theorem dX8_bestWeight_2 : decode cX8_bestWeight 2 = .ok (.bipush 100, 2) := by decide +kernel
theorem dX8_bestWeight_4 : decode cX8_bestWeight 4 = .ok (.invokestatic 110, 3) := by decide +kernel
theorem dX8_bestWeight_7 : decode cX8_bestWeight 7 = .ok (.iconst 0, 1) := by decide +kernel
theorem dX8_bestWeight_8 : decode cX8_bestWeight 8 = .ok (.istore_n 2, 1) := by decide +kernel
theorem dX8_bestWeight_9 : decode cX8_bestWeight 9 = .ok (.ldc2_w 276, 3) := by decide +kernel
theorem dX8_bestWeight_12 : decode cX8_bestWeight 12 = .ok (.lstore_n 3, 1) := by decide +kernel
theorem dX8_bestWeight_13 : decode cX8_bestWeight 13 = .ok (.iconst 0, 1) := by decide +kernel
theorem dX8_bestWeight_14 : decode cX8_bestWeight 14 = .ok (.istore 5, 2) := by decide +kernel
theorem dX8_bestWeight_16 : decode cX8_bestWeight 16 = .ok (.iload 5, 2) := by decide +kernel
theorem dX8_bestWeight_18 : decode cX8_bestWeight 18 = .ok (.bipush 10, 2) := by decide +kernel
theorem dX8_bestWeight_20 : decode cX8_bestWeight 20 = .ok (.if_icmp .gt 57, 3) := by decide +kernel
theorem dX8_bestWeight_23 : decode cX8_bestWeight 23 = .ok (.aload_n 0, 1) := by decide +kernel
theorem dX8_bestWeight_24 : decode cX8_bestWeight 24 = .ok (.getfield 41, 3) := by decide +kernel
theorem dX8_bestWeight_27 : decode cX8_bestWeight 27 = .ok (.aload_n 0, 1) := by decide +kernel
theorem dX8_bestWeight_28 : decode cX8_bestWeight 28 = .ok (.getfield 28, 3) := by decide +kernel
theorem dX8_bestWeight_31 : decode cX8_bestWeight 31 = .ok (.invokevirtual 89, 3) := by decide +kernel
theorem dX8_bestWeight_34 : decode cX8_bestWeight 34 = .ok (.aload_n 0, 1) := by decide +kernel
theorem dX8_bestWeight_35 : decode cX8_bestWeight 35 = .ok (.getfield 41, 3) := by decide +kernel
theorem dX8_bestWeight_38 : decode cX8_bestWeight 38 = .ok (.iload 5, 2) := by decide +kernel
theorem dX8_bestWeight_40 : decode cX8_bestWeight 40 = .ok (.putfield 129, 3) := by decide +kernel
theorem dX8_bestWeight_43 : decode cX8_bestWeight 43 = .ok (.aload_n 0, 1) := by decide +kernel
theorem dX8_bestWeight_44 : decode cX8_bestWeight 44 = .ok (.iload_n 1, 1) := by decide +kernel
theorem dX8_bestWeight_45 : decode cX8_bestWeight 45 = .ok (.invokevirtual 278, 3) := by decide +kernel
theorem dX8_bestWeight_48 : decode cX8_bestWeight 48 = .ok (.lstore 6, 2) := by decide +kernel
theorem dX8_bestWeight_50 : decode cX8_bestWeight 50 = .ok (.lload_n 3, 1) := by decide +kernel
theorem dX8_bestWeight_51 : decode cX8_bestWeight 51 = .ok (.ldc2_w 276, 3) := by decide +kernel
theorem dX8_bestWeight_54 : decode cX8_bestWeight 54 = .ok (.lcmp, 1) := by decide +kernel
theorem dX8_bestWeight_55 : decode cX8_bestWeight 55 = .ok (.ifCond .eq 10, 3) := by decide +kernel
theorem dX8_bestWeight_58 : decode cX8_bestWeight 58 = .ok (.lload 6, 2) := by decide +kernel
theorem dX8_bestWeight_60 : decode cX8_bestWeight 60 = .ok (.lload_n 3, 1) := by decide +kernel
theorem dX8_bestWeight_61 : decode cX8_bestWeight 61 = .ok (.lcmp, 1) := by decide +kernel
theorem dX8_bestWeight_62 : decode cX8_bestWeight 62 = .ok (.ifCond .ge 9, 3) := by decide +kernel
theorem dX8_bestWeight_65 : decode cX8_bestWeight 65 = .ok (.lload 6, 2) := by decide +kernel
theorem dX8_bestWeight_67 : decode cX8_bestWeight 67 = .ok (.lstore_n 3, 1) := by decide +kernel
theorem dX8_bestWeight_68 : decode cX8_bestWeight 68 = .ok (.iload 5, 2) := by decide +kernel
theorem dX8_bestWeight_70 : decode cX8_bestWeight 70 = .ok (.istore_n 2, 1) := by decide +kernel
theorem dX8_bestWeight_71 : decode cX8_bestWeight 71 = .ok (.iinc 5 1, 3) := by decide +kernel
theorem dX8_bestWeight_74 : decode cX8_bestWeight 74 = .ok (.goto (-58), 3) := by decide +kernel
theorem dX8_bestWeight_77 : decode cX8_bestWeight 77 = .ok (.iload_n 2, 1) := by decide +kernel
theorem dX8_bestWeight_78 : decode cX8_bestWeight 78 = .ok (.ireturn, 1) := by decide +kernel
theorem dX8_bestTop_0 : decode cX8_bestTop 0 = .ok (.iload_n 1, 1) := by decide +kernel
theorem dX8_bestTop_1 : decode cX8_bestTop 1 = .ok (.iconst 1, 1) := by decide +kernel
theorem dX8_bestTop_2 : decode cX8_bestTop 2 = .ok (.bipush 100, 2) := by decide +kernel
theorem dX8_bestTop_4 : decode cX8_bestTop 4 = .ok (.invokestatic 110, 3) := by decide +kernel
theorem dX8_bestTop_7 : decode cX8_bestTop 7 = .ok (.iconst 0, 1) := by decide +kernel
theorem dX8_bestTop_8 : decode cX8_bestTop 8 = .ok (.istore_n 2, 1) := by decide +kernel
theorem dX8_bestTop_9 : decode cX8_bestTop 9 = .ok (.ldc2_w 276, 3) := by decide +kernel
theorem dX8_bestTop_12 : decode cX8_bestTop 12 = .ok (.lstore_n 3, 1) := by decide +kernel
theorem dX8_bestTop_13 : decode cX8_bestTop 13 = .ok (.iconst 0, 1) := by decide +kernel
theorem dX8_bestTop_14 : decode cX8_bestTop 14 = .ok (.istore 5, 2) := by decide +kernel
theorem dX8_bestTop_16 : decode cX8_bestTop 16 = .ok (.iload 5, 2) := by decide +kernel
theorem dX8_bestTop_18 : decode cX8_bestTop 18 = .ok (.ldc_w 282, 3) := by decide +kernel
theorem dX8_bestTop_21 : decode cX8_bestTop 21 = .ok (.if_icmp .gt 60, 3) := by decide +kernel
theorem dX8_bestTop_24 : decode cX8_bestTop 24 = .ok (.aload_n 0, 1) := by decide +kernel
theorem dX8_bestTop_25 : decode cX8_bestTop 25 = .ok (.getfield 41, 3) := by decide +kernel
theorem dX8_bestTop_28 : decode cX8_bestTop 28 = .ok (.aload_n 0, 1) := by decide +kernel
theorem dX8_bestTop_29 : decode cX8_bestTop 29 = .ok (.getfield 28, 3) := by decide +kernel
theorem dX8_bestTop_32 : decode cX8_bestTop 32 = .ok (.invokevirtual 89, 3) := by decide +kernel
theorem dX8_bestTop_35 : decode cX8_bestTop 35 = .ok (.aload_n 0, 1) := by decide +kernel
theorem dX8_bestTop_36 : decode cX8_bestTop 36 = .ok (.getfield 41, 3) := by decide +kernel
theorem dX8_bestTop_39 : decode cX8_bestTop 39 = .ok (.iload 5, 2) := by decide +kernel
theorem dX8_bestTop_41 : decode cX8_bestTop 41 = .ok (.putfield 126, 3) := by decide +kernel
theorem dX8_bestTop_44 : decode cX8_bestTop 44 = .ok (.aload_n 0, 1) := by decide +kernel
theorem dX8_bestTop_45 : decode cX8_bestTop 45 = .ok (.iload_n 1, 1) := by decide +kernel
theorem dX8_bestTop_46 : decode cX8_bestTop 46 = .ok (.invokevirtual 278, 3) := by decide +kernel
theorem dX8_bestTop_49 : decode cX8_bestTop 49 = .ok (.lstore 6, 2) := by decide +kernel
theorem dX8_bestTop_51 : decode cX8_bestTop 51 = .ok (.lload_n 3, 1) := by decide +kernel
theorem dX8_bestTop_52 : decode cX8_bestTop 52 = .ok (.ldc2_w 276, 3) := by decide +kernel
theorem dX8_bestTop_55 : decode cX8_bestTop 55 = .ok (.lcmp, 1) := by decide +kernel
theorem dX8_bestTop_56 : decode cX8_bestTop 56 = .ok (.ifCond .eq 10, 3) := by decide +kernel
theorem dX8_bestTop_59 : decode cX8_bestTop 59 = .ok (.lload 6, 2) := by decide +kernel
theorem dX8_bestTop_61 : decode cX8_bestTop 61 = .ok (.lload_n 3, 1) := by decide +kernel
theorem dX8_bestTop_62 : decode cX8_bestTop 62 = .ok (.lcmp, 1) := by decide +kernel
theorem dX8_bestTop_63 : decode cX8_bestTop 63 = .ok (.ifCond .ge 9, 3) := by decide +kernel
theorem dX8_bestTop_66 : decode cX8_bestTop 66 = .ok (.lload 6, 2) := by decide +kernel
theorem dX8_bestTop_68 : decode cX8_bestTop 68 = .ok (.lstore_n 3, 1) := by decide +kernel
theorem dX8_bestTop_69 : decode cX8_bestTop 69 = .ok (.iload 5, 2) := by decide +kernel
theorem dX8_bestTop_71 : decode cX8_bestTop 71 = .ok (.istore_n 2, 1) := by decide +kernel
theorem dX8_bestTop_72 : decode cX8_bestTop 72 = .ok (.iinc 5 4096, 6) := by decide +kernel
theorem dX8_bestTop_78 : decode cX8_bestTop 78 = .ok (.goto (-62), 3) := by decide +kernel
theorem dX8_bestTop_81 : decode cX8_bestTop 81 = .ok (.iload_n 2, 1) := by decide +kernel
theorem dX8_bestTop_82 : decode cX8_bestTop 82 = .ok (.ireturn, 1) := by decide +kernel
theorem dX8_gain_0 : decode cX8_gain 0 = .ok (.iload_n 1, 1) := by decide +kernel
theorem dX8_gain_1 : decode cX8_gain 1 = .ok (.iconst 1, 1) := by decide +kernel
theorem dX8_gain_2 : decode cX8_gain 2 = .ok (.sipush 200, 3) := by decide +kernel
theorem dX8_gain_5 : decode cX8_gain 5 = .ok (.invokestatic 110, 3) := by decide +kernel
theorem dX8_gain_8 : decode cX8_gain 8 = .ok (.aload_n 0, 1) := by decide +kernel
theorem dX8_gain_9 : decode cX8_gain 9 = .ok (.getfield 41, 3) := by decide +kernel
theorem dX8_gain_12 : decode cX8_gain 12 = .ok (.aload_n 0, 1) := by decide +kernel
theorem dX8_gain_13 : decode cX8_gain 13 = .ok (.getfield 28, 3) := by decide +kernel
theorem dX8_gain_16 : decode cX8_gain 16 = .ok (.invokevirtual 89, 3) := by decide +kernel
theorem dX8_gain_19 : decode cX8_gain 19 = .ok (.aload_n 0, 1) := by decide +kernel
theorem dX8_gain_20 : decode cX8_gain 20 = .ok (.iload_n 1, 1) := by decide +kernel
theorem dX8_gain_21 : decode cX8_gain 21 = .ok (.invokevirtual 278, 3) := by decide +kernel
theorem dX8_gain_24 : decode cX8_gain 24 = .ok (.lstore_n 2, 1) := by decide +kernel
theorem dX8_gain_25 : decode cX8_gain 25 = .ok (.aload_n 0, 1) := by decide +kernel
theorem dX8_gain_26 : decode cX8_gain 26 = .ok (.getfield 41, 3) := by decide +kernel
theorem dX8_gain_29 : decode cX8_gain 29 = .ok (.aload_n 0, 1) := by decide +kernel
theorem dX8_gain_30 : decode cX8_gain 30 = .ok (.getfield 28, 3) := by decide +kernel
theorem dX8_gain_33 : decode cX8_gain 33 = .ok (.invokevirtual 89, 3) := by decide +kernel
theorem dX8_gain_36 : decode cX8_gain 36 = .ok (.aload_n 0, 1) := by decide +kernel
theorem dX8_gain_37 : decode cX8_gain 37 = .ok (.getfield 41, 3) := by decide +kernel
theorem dX8_gain_40 : decode cX8_gain 40 = .ok (.iconst 0, 1) := by decide +kernel
theorem dX8_gain_41 : decode cX8_gain 41 = .ok (.putfield 283, 3) := by decide +kernel
theorem dX8_gain_44 : decode cX8_gain 44 = .ok (.aload_n 0, 1) := by decide +kernel
theorem dX8_gain_45 : decode cX8_gain 45 = .ok (.iload_n 1, 1) := by decide +kernel
theorem dX8_gain_46 : decode cX8_gain 46 = .ok (.invokevirtual 278, 3) := by decide +kernel
theorem dX8_gain_49 : decode cX8_gain 49 = .ok (.lload_n 2, 1) := by decide +kernel
theorem dX8_gain_50 : decode cX8_gain 50 = .ok (.lsub, 1) := by decide +kernel
theorem dX8_gain_51 : decode cX8_gain 51 = .ok (.lreturn, 1) := by decide +kernel
theorem dX8_tick_0 : decode cX8_tick 0 = .ok (.iload_n 1, 1) := by decide +kernel
theorem dX8_tick_1 : decode cX8_tick 1 = .ok (.iconst 1, 1) := by decide +kernel
theorem dX8_tick_2 : decode cX8_tick 2 = .ok (.bipush 50, 2) := by decide +kernel
theorem dX8_tick_4 : decode cX8_tick 4 = .ok (.invokestatic 110, 3) := by decide +kernel
theorem dX8_tick_7 : decode cX8_tick 7 = .ok (.aload_n 0, 1) := by decide +kernel
theorem dX8_tick_8 : decode cX8_tick 8 = .ok (.getfield 28, 3) := by decide +kernel
theorem dX8_tick_11 : decode cX8_tick 11 = .ok (.getfield 135, 3) := by decide +kernel
theorem dX8_tick_14 : decode cX8_tick 14 = .ok (.iload_n 1, 1) := by decide +kernel
theorem dX8_tick_15 : decode cX8_tick 15 = .ok (.iadd, 1) := by decide +kernel
theorem dX8_tick_16 : decode cX8_tick 16 = .ok (.sipush 9999, 3) := by decide +kernel
theorem dX8_tick_19 : decode cX8_tick 19 = .ok (.if_icmp .le 6, 3) := by decide +kernel
theorem dX8_tick_22 : decode cX8_tick 22 = .ok (.bipush (-2), 2) := by decide +kernel
theorem dX8_tick_24 : decode cX8_tick 24 = .ok (.ireturn, 1) := by decide +kernel
theorem dX8_tick_25 : decode cX8_tick 25 = .ok (.aload_n 0, 1) := by decide +kernel
theorem dX8_tick_26 : decode cX8_tick 26 = .ok (.getfield 47, 3) := by decide +kernel
theorem dX8_tick_29 : decode cX8_tick 29 = .ok (.aload_n 0, 1) := by decide +kernel
theorem dX8_tick_30 : decode cX8_tick 30 = .ok (.getfield 28, 3) := by decide +kernel
theorem dX8_tick_33 : decode cX8_tick 33 = .ok (.invokevirtual 100, 3) := by decide +kernel
theorem dX8_tick_36 : decode cX8_tick 36 = .ok (.aload_n 0, 1) := by decide +kernel
theorem dX8_tick_37 : decode cX8_tick 37 = .ok (.getfield 28, 3) := by decide +kernel
theorem dX8_tick_40 : decode cX8_tick 40 = .ok (.iload_n 1, 1) := by decide +kernel
theorem dX8_tick_41 : decode cX8_tick 41 = .ok (.invokevirtual 286, 3) := by decide +kernel
theorem dX8_tick_44 : decode cX8_tick 44 = .ok (.ireturn, 1) := by decide +kernel
theorem dX8_send_0 : decode cX8_send 0 = .ok (.iload_n 1, 1) := by decide +kernel
theorem dX8_send_1 : decode cX8_send 1 = .ok (.aload_n 0, 1) := by decide +kernel
theorem dX8_send_2 : decode cX8_send 2 = .ok (.getfield 28, 3) := by decide +kernel
theorem dX8_send_5 : decode cX8_send 5 = .ok (.getfield 96, 3) := by decide +kernel
theorem dX8_send_8 : decode cX8_send 8 = .ok (.invokestatic 216, 3) := by decide +kernel
theorem dX8_send_11 : decode cX8_send 11 = .ok (.iload_n 2, 1) := by decide +kernel
theorem dX8_send_12 : decode cX8_send 12 = .ok (.iconst 1, 1) := by decide +kernel
theorem dX8_send_13 : decode cX8_send 13 = .ok (.bipush 40, 2) := by decide +kernel
theorem dX8_send_15 : decode cX8_send 15 = .ok (.invokestatic 110, 3) := by decide +kernel
theorem dX8_send_18 : decode cX8_send 18 = .ok (.aload_n 0, 1) := by decide +kernel
theorem dX8_send_19 : decode cX8_send 19 = .ok (.getfield 47, 3) := by decide +kernel
theorem dX8_send_22 : decode cX8_send 22 = .ok (.aload_n 0, 1) := by decide +kernel
theorem dX8_send_23 : decode cX8_send 23 = .ok (.getfield 28, 3) := by decide +kernel
theorem dX8_send_26 : decode cX8_send 26 = .ok (.invokevirtual 100, 3) := by decide +kernel
theorem dX8_send_29 : decode cX8_send 29 = .ok (.aload_n 0, 1) := by decide +kernel
theorem dX8_send_30 : decode cX8_send 30 = .ok (.getfield 28, 3) := by decide +kernel
theorem dX8_send_33 : decode cX8_send 33 = .ok (.iload_n 1, 1) := by decide +kernel
theorem dX8_send_34 : decode cX8_send 34 = .ok (.iload_n 2, 1) := by decide +kernel
theorem dX8_send_35 : decode cX8_send 35 = .ok (.invokevirtual 289, 3) := by decide +kernel
theorem dX8_send_38 : decode cX8_send 38 = .ok (.ireturn, 1) := by decide +kernel
theorem dX8_lookAhead_0 : decode cX8_lookAhead 0 = .ok (.aload_n 0, 1) := by decide +kernel
theorem dX8_lookAhead_1 : decode cX8_lookAhead 1 = .ok (.getfield 41, 3) := by decide +kernel
theorem dX8_lookAhead_4 : decode cX8_lookAhead 4 = .ok (.aload_n 0, 1) := by decide +kernel
theorem dX8_lookAhead_5 : decode cX8_lookAhead 5 = .ok (.getfield 28, 3) := by decide +kernel
theorem dX8_lookAhead_8 : decode cX8_lookAhead 8 = .ok (.invokevirtual 89, 3) := by decide +kernel
theorem dX8_lookAhead_11 : decode cX8_lookAhead 11 = .ok (.iconst 0, 1) := by decide +kernel
theorem dX8_lookAhead_12 : decode cX8_lookAhead 12 = .ok (.istore_n 2, 1) := by decide +kernel
theorem dX8_lookAhead_13 : decode cX8_lookAhead 13 = .ok (.iload_n 2, 1) := by decide +kernel
theorem dX8_lookAhead_14 : decode cX8_lookAhead 14 = .ok (.iload_n 1, 1) := by decide +kernel
theorem dX8_lookAhead_15 : decode cX8_lookAhead 15 = .ok (.if_icmp .ge 16, 3) := by decide +kernel
theorem dX8_lookAhead_18 : decode cX8_lookAhead 18 = .ok (.aload_n 0, 1) := by decide +kernel
theorem dX8_lookAhead_19 : decode cX8_lookAhead 19 = .ok (.getfield 41, 3) := by decide +kernel
theorem dX8_lookAhead_22 : decode cX8_lookAhead 22 = .ok (.invokevirtual 269, 3) := by decide +kernel
theorem dX8_lookAhead_25 : decode cX8_lookAhead 25 = .ok (.iinc 2 1, 3) := by decide +kernel
theorem dX8_lookAhead_28 : decode cX8_lookAhead 28 = .ok (.goto (-15), 3) := by decide +kernel
theorem dX8_lookAhead_31 : decode cX8_lookAhead 31 = .ok (.return_, 1) := by decide +kernel
theorem dX8_droppedBehind_0 : decode cX8_droppedBehind 0 = .ok (.iconst 0, 1) := by decide +kernel
theorem dX8_droppedBehind_1 : decode cX8_droppedBehind 1 = .ok (.istore_n 2, 1) := by decide +kernel
theorem dX8_droppedBehind_2 : decode cX8_droppedBehind 2 = .ok (.iload_n 2, 1) := by decide +kernel
theorem dX8_droppedBehind_3 : decode cX8_droppedBehind 3 = .ok (.iload_n 1, 1) := by decide +kernel
theorem dX8_droppedBehind_4 : decode cX8_droppedBehind 4 = .ok (.if_icmp .ge 16, 3) := by decide +kernel
theorem dX8_droppedBehind_7 : decode cX8_droppedBehind 7 = .ok (.aload_n 0, 1) := by decide +kernel
theorem dX8_droppedBehind_8 : decode cX8_droppedBehind 8 = .ok (.getfield 41, 3) := by decide +kernel
theorem dX8_droppedBehind_11 : decode cX8_droppedBehind 11 = .ok (.invokevirtual 269, 3) := by decide +kernel
theorem dX8_droppedBehind_14 : decode cX8_droppedBehind 14 = .ok (.iinc 2 1, 3) := by decide +kernel
theorem dX8_droppedBehind_17 : decode cX8_droppedBehind 17 = .ok (.goto (-15), 3) := by decide +kernel
theorem dX8_droppedBehind_20 : decode cX8_droppedBehind 20 = .ok (.aload_n 0, 1) := by decide +kernel
theorem dX8_droppedBehind_21 : decode cX8_droppedBehind 21 = .ok (.getfield 41, 3) := by decide +kernel
theorem dX8_droppedBehind_24 : decode cX8_droppedBehind 24 = .ok (.invokevirtual 238, 3) := by decide +kernel
theorem dX8_droppedBehind_27 : decode cX8_droppedBehind 27 = .ok (.lreturn, 1) := by decide +kernel
-- X8_droppedBehind
set_option maxRecDepth 100000 in
set_option maxHeartbeats 4000000 in
theorem zm_X8_droppedBehind {l : Launch} {G : zG} {p1 : Int32} {M : zM} {Kf : Int64 → zM → Prop} (h : zAt l G Y_X8_droppedBehind (zEL G Y_X8_droppedBehind Kf) 2 [(0, vr 0 0), (1, vi p1), (2, vi 0)] [] M 0 0) : zCalL l G Y_X8_droppedBehind 0 0 [vr 0 0, vi p1] M Kf := by
  refine zCal_of (lv := [(0, vr 0 0), (1, vi p1)]) (by decide) rfl (zle rfl) rfl (fun hv => zlv_args (lv := [(0, vr 0 0), (1, vi p1)]) rfl hv) ?_
  refine Z_iconst (v := 0) (by decide) dX8_droppedBehind_0 ?_
  refine Z_istore_n (lv2 := [(2, vi 0), (0, vr 0 0), (1, vi p1)]) dX8_droppedBehind_1 rfl (by decide) rfl ?_
  exact Z_pick [1, 2, 0] rfl h
set_option maxRecDepth 100000 in
set_option maxHeartbeats 4000000 in
theorem zb_X8_droppedBehind_2 {l : Launch} {G : zG} {y1 : Int32} {y2 : Int32} {M : zM} {Kf : Int64 → zM → Prop} (h : ((y1 ≤ y2 → (zCalL l G Y_X5_dropped 0 0 [vr 15 2] M (fun x2 M1 => (Kf x2 M1)))) ∧ (¬ y1 ≤ y2 → (zCalV l G Y_X5_passTick 0 0 [vr 15 2] M (fun M3 => zAt l G Y_X8_droppedBehind (zEL G Y_X8_droppedBehind Kf) 2 [(0, vr 0 0), (1, vi y1), (2, vi (y2 + 1))] [] M3 0 0))))) : zAt l G Y_X8_droppedBehind (zEL G Y_X8_droppedBehind Kf) 2 [(0, vr 0 0), (1, vi y1), (2, vi y2)] [] M 0 0 := by
  refine Z_iload_n dX8_droppedBehind_2 rfl 2 rfl ?_
  refine Z_iload_n dX8_droppedBehind_3 rfl 1 rfl ?_
  refine Z_icmp_ge (tgt := 20) dX8_droppedBehind_4 (by decide) (fun q => ?_) (fun q => ?_)
  · have h := h.1 q
    refine Z_aload_n dX8_droppedBehind_20 rfl 0 rfl ?_
    refine Z_getR (s1 := 15) (i1 := 2) zfl_X8_41 rfl (fun q => by first | exact q | decide) dX8_droppedBehind_21 ?_
    refine Z_callVL (as := []) zRm_M zcv_X8_droppedBehind_X5_dropped_238 (ci := 9) rfl rfl rfl rfl (zle rfl) dX8_droppedBehind_24 ⟨Nat.le_refl _, Nat.le_refl _⟩ h (fun x2 M1 h => ?_)
    exact Z_lret rfl dX8_droppedBehind_27 (Nat.le_refl _) (Nat.le_refl _) ⟨_, rfl, h⟩
  · have h := h.2 q
    refine Z_aload_n dX8_droppedBehind_7 rfl 0 rfl ?_
    refine Z_getR (s1 := 15) (i1 := 2) zfl_X8_41 rfl (fun q => by first | exact q | decide) dX8_droppedBehind_8 ?_
    refine Z_callVV (as := []) zRm_M zcv_X8_droppedBehind_X5_passTick_269 (ci := 9) rfl rfl rfl rfl (zle rfl) dX8_droppedBehind_11 ⟨Nat.le_refl _, Nat.le_refl _⟩ h (fun M3 h => ?_)
    refine Z_iinc (v := (y2 + 1)) (lv2 := [(2, vi (y2 + 1)), (0, vr 0 0), (1, vi y1)]) dX8_droppedBehind_14 2 rfl rfl (by decide) rfl ?_
    refine Z_goto (tgt := 2) dX8_droppedBehind_17 (by decide) ?_
    exact Z_pick [1, 2, 0] rfl h
-- X8_longest
set_option maxRecDepth 100000 in
set_option maxHeartbeats 4000000 in
theorem zm_X8_longest {l : Launch} {G : zG} {p1 : Int32} {M : zM} {Kf : Int32 → zM → Prop} {KX : String → zM → Prop} (h : (zCalVX l G Y_X8_requireWithin 1 6 [vi p1, vi 1, vi 200] M (fun M1 => (zCalV l G Y_X5_copyFrom 0 0 [vr 15 2, vr 15 1] M1 (fun M2 => zAt l G Y_X8_longest (zEM G Y_X8_longest 1 6 (zKI Kf, some KX)) 23 [(0, vr 0 0), (1, vi p1), (2, vi 0), (3, vi 0)] [] M2 1 6))) KX)) : zCalIX l G Y_X8_longest 1 6 [vr 0 0, vi p1] M Kf KX := by
  refine zCal_of (lv := [(0, vr 0 0), (1, vi p1)]) (by decide) rfl (zle rfl) rfl (fun hv => zlv_args (lv := [(0, vr 0 0), (1, vi p1)]) rfl hv) ?_
  refine Z_iload_n dX8_longest_0 rfl 1 rfl ?_
  refine Z_iconst (v := 1) (by decide) dX8_longest_1 ?_
  refine Z_sipush (v := 200) (by decide) dX8_longest_2 ?_
  refine Z_callSVX (as := [vi p1, vi 1, vi 200]) rfl zcs_X8_longest_X8_requireWithin_110 rfl rfl (zle rfl) dX8_longest_5 ⟨zle rfl, zle rfl⟩ h (fun _ _ q => q) (fun M1 h => ?_)
  refine Z_aload_n dX8_longest_8 rfl 0 rfl ?_
  refine Z_getR (s1 := 15) (i1 := 2) zfl_X8_41 rfl (fun q => by first | exact q | decide) dX8_longest_9 ?_
  refine Z_aload_n dX8_longest_12 rfl 0 rfl ?_
  refine Z_getR (s1 := 15) (i1 := 1) zfl_X8_28 rfl (fun q => by first | exact q | decide) dX8_longest_13 ?_
  refine Z_callVV (as := [vr 15 1]) zRm_M zcv_X8_longest_X5_copyFrom_89 (ci := 9) rfl rfl rfl rfl (zle rfl) dX8_longest_16 ⟨zle rfl, zle rfl⟩ h (fun M2 h => ?_)
  refine Z_iconst (v := 0) (by decide) dX8_longest_19 ?_
  refine Z_istore_n (lv2 := [(2, vi 0), (0, vr 0 0), (1, vi p1)]) dX8_longest_20 rfl (by decide) rfl ?_
  refine Z_iconst (v := 0) (by decide) dX8_longest_21 ?_
  refine Z_istore_n (lv2 := [(3, vi 0), (2, vi 0), (0, vr 0 0), (1, vi p1)]) dX8_longest_22 rfl (by decide) rfl ?_
  exact Z_pick [2, 3, 1, 0] rfl h
set_option maxRecDepth 100000 in
set_option maxHeartbeats 4000000 in
theorem zb_X8_longest_23 {l : Launch} {G : zG} {y1 : Int32} {y2 : Int32} {y3 : Int32} {M : zM} {Kf : Int32 → zM → Prop} {KX : String → zM → Prop} (h : ((y1 ≤ y3 → (Kf y2 M)) ∧ (¬ y1 ≤ y3 → (zCalV l G Y_X5_passTick 0 0 [vr 15 2] M (fun M1 => zAt l G Y_X8_longest (zEM G Y_X8_longest 1 6 (zKI Kf, some KX)) 23 [(0, vr 0 0), (1, vi y1), (2, vi (if y2 < (zmI M1 19 2 1) then (zmI M1 19 2 1) else y2)), (3, vi (y3 + 1))] [] M1 1 6))))) : zAt l G Y_X8_longest (zEM G Y_X8_longest 1 6 (zKI Kf, some KX)) 23 [(0, vr 0 0), (1, vi y1), (2, vi y2), (3, vi y3)] [] M 1 6 := by
  refine Z_iload_n dX8_longest_23 rfl 3 rfl ?_
  refine Z_iload_n dX8_longest_24 rfl 1 rfl ?_
  refine Z_icmp_ge (tgt := 56) dX8_longest_25 (by decide) (fun q => ?_) (fun q => ?_)
  · have h := h.1 q
    refine Z_iload_n dX8_longest_56 rfl 2 rfl ?_
    exact Z_iret rfl rfl dX8_longest_57 (zle rfl) (zle rfl) ⟨_, rfl, h⟩
  · have h := h.2 q
    refine Z_aload_n dX8_longest_28 rfl 0 rfl ?_
    refine Z_getR (s1 := 15) (i1 := 2) zfl_X8_41 rfl (fun q => by first | exact q | decide) dX8_longest_29 ?_
    refine Z_callVV (as := []) zRm_M zcv_X8_longest_X5_passTick_269 (ci := 9) rfl rfl rfl rfl (zle rfl) dX8_longest_32 ⟨zle rfl, zle rfl⟩ h (fun M1 h => ?_)
    refine Z_iload_n dX8_longest_35 rfl 2 rfl ?_
    refine Z_aload_n dX8_longest_36 rfl 0 rfl ?_
    refine Z_getR (s1 := 15) (i1 := 2) zfl_X8_41 rfl (fun q => by first | exact q | decide) dX8_longest_37 ?_
    refine Z_getR (s1 := 19) (i1 := 2) zfl_X8_138 rfl (fun q => by first | exact q | decide) dX8_longest_40 ?_
    refine Z_getI zfl_X8_142 dX8_longest_43 ?_
    refine Z_mmax zw_1487 zw_829 zw_129 zw_830 zRm_M (by decide) (zle rfl) (zle rfl) (zle rfl) dX8_longest_46 ?_
    refine Z_istore_n (lv2 := [(2, vi (if y2 < (zmI M1 19 2 1) then (zmI M1 19 2 1) else y2)), (0, vr 0 0), (1, vi y1), (3, vi y3)]) dX8_longest_49 rfl (by decide) rfl ?_
    refine Z_iinc (v := (y3 + 1)) (lv2 := [(3, vi (y3 + 1)), (2, vi (if y2 < (zmI M1 19 2 1) then (zmI M1 19 2 1) else y2)), (0, vr 0 0), (1, vi y1)]) dX8_longest_50 3 rfl rfl (by decide) rfl ?_
    refine Z_goto (tgt := 23) dX8_longest_53 (by decide) ?_
    exact Z_pick [2, 3, 1, 0] rfl h
-- X8_lookAhead
set_option maxRecDepth 100000 in
set_option maxHeartbeats 4000000 in
theorem zm_X8_lookAhead {l : Launch} {G : zG} {p1 : Int32} {M : zM} {Kf : zM → Prop} (h : (zCalV l G Y_X5_copyFrom 0 0 [vr 15 2, vr 15 1] M (fun M1 => zAt l G Y_X8_lookAhead (zEV G Y_X8_lookAhead Kf) 13 [(0, vr 0 0), (1, vi p1), (2, vi 0)] [] M1 0 0))) : zCalV l G Y_X8_lookAhead 0 0 [vr 0 0, vi p1] M Kf := by
  refine zCal_of (lv := [(0, vr 0 0), (1, vi p1)]) (by decide) rfl (zle rfl) rfl (fun hv => zlv_args (lv := [(0, vr 0 0), (1, vi p1)]) rfl hv) ?_
  refine Z_aload_n dX8_lookAhead_0 rfl 0 rfl ?_
  refine Z_getR (s1 := 15) (i1 := 2) zfl_X8_41 rfl (fun q => by first | exact q | decide) dX8_lookAhead_1 ?_
  refine Z_aload_n dX8_lookAhead_4 rfl 0 rfl ?_
  refine Z_getR (s1 := 15) (i1 := 1) zfl_X8_28 rfl (fun q => by first | exact q | decide) dX8_lookAhead_5 ?_
  refine Z_callVV (as := [vr 15 1]) zRm_M zcv_X8_lookAhead_X5_copyFrom_89 (ci := 9) rfl rfl rfl rfl (zle rfl) dX8_lookAhead_8 ⟨Nat.le_refl _, Nat.le_refl _⟩ h (fun M1 h => ?_)
  refine Z_iconst (v := 0) (by decide) dX8_lookAhead_11 ?_
  refine Z_istore_n (lv2 := [(2, vi 0), (0, vr 0 0), (1, vi p1)]) dX8_lookAhead_12 rfl (by decide) rfl ?_
  exact Z_pick [1, 2, 0] rfl h
set_option maxRecDepth 100000 in
set_option maxHeartbeats 4000000 in
theorem zb_X8_lookAhead_13 {l : Launch} {G : zG} {y1 : Int32} {y2 : Int32} {M : zM} {Kf : zM → Prop} (h : ((y1 ≤ y2 → (Kf M)) ∧ (¬ y1 ≤ y2 → (zCalV l G Y_X5_passTick 0 0 [vr 15 2] M (fun M1 => zAt l G Y_X8_lookAhead (zEV G Y_X8_lookAhead Kf) 13 [(0, vr 0 0), (1, vi y1), (2, vi (y2 + 1))] [] M1 0 0))))) : zAt l G Y_X8_lookAhead (zEV G Y_X8_lookAhead Kf) 13 [(0, vr 0 0), (1, vi y1), (2, vi y2)] [] M 0 0 := by
  refine Z_iload_n dX8_lookAhead_13 rfl 2 rfl ?_
  refine Z_iload_n dX8_lookAhead_14 rfl 1 rfl ?_
  refine Z_icmp_ge (tgt := 31) dX8_lookAhead_15 (by decide) (fun q => ?_) (fun q => ?_)
  · have h := h.1 q
    exact Z_vret rfl dX8_lookAhead_31 (Nat.le_refl _) (Nat.le_refl _) ⟨rfl, h⟩
  · have h := h.2 q
    refine Z_aload_n dX8_lookAhead_18 rfl 0 rfl ?_
    refine Z_getR (s1 := 15) (i1 := 2) zfl_X8_41 rfl (fun q => by first | exact q | decide) dX8_lookAhead_19 ?_
    refine Z_callVV (as := []) zRm_M zcv_X8_lookAhead_X5_passTick_269 (ci := 9) rfl rfl rfl rfl (zle rfl) dX8_lookAhead_22 ⟨Nat.le_refl _, Nat.le_refl _⟩ h (fun M1 h => ?_)
    refine Z_iinc (v := (y2 + 1)) (lv2 := [(2, vi (y2 + 1)), (0, vr 0 0), (1, vi y1)]) dX8_lookAhead_25 2 rfl rfl (by decide) rfl ?_
    refine Z_goto (tgt := 13) dX8_lookAhead_28 (by decide) ?_
    exact Z_pick [1, 2, 0] rfl h
-- X8_send
set_option maxRecDepth 100000 in
set_option maxHeartbeats 4000000 in
theorem zm_X8_send {l : Launch} {G : zG} {p1 : Int32} {p2 : Int32} {M : zM} {Kf : Int32 → zM → Prop} {KX : String → zM → Prop} (h : (zCalVX l G Y_X8_requireIndex 1 6 [vi p1, vi (zmI M 15 1 12)] M (fun M1 => (zCalVX l G Y_X8_requireWithin 1 6 [vi p2, vi 1, vi 40] M1 (fun M2 => (zCalV l G Y_X2_keep 0 0 [vr 10 0, vr 15 1] M2 (fun M3 => (zCalI l G Y_X5_arriveAll 0 0 [vr 15 1, vi p1, vi p2] M3 (fun x5 M4 => (Kf x5 M4)))))) KX)) KX)) : zCalIX l G Y_X8_send 2 12 [vr 0 0, vi p1, vi p2] M Kf KX := by
  refine zCal_of (lv := [(0, vr 0 0), (1, vi p1), (2, vi p2)]) (by decide) rfl (zle rfl) rfl (fun hv => zlv_args (lv := [(0, vr 0 0), (1, vi p1), (2, vi p2)]) rfl hv) ?_
  refine Z_iload_n dX8_send_0 rfl 1 rfl ?_
  refine Z_aload_n dX8_send_1 rfl 0 rfl ?_
  refine Z_getR (s1 := 15) (i1 := 1) zfl_X8_28 rfl (fun q => by first | exact q | decide) dX8_send_2 ?_
  refine Z_getI zfl_X8_96 dX8_send_5 ?_
  refine Z_callSVX (as := [vi p1, vi (zmI M 15 1 12)]) rfl zcs_X8_send_X8_requireIndex_216 rfl rfl (zle rfl) dX8_send_8 ⟨zle rfl, zle rfl⟩ h (fun _ _ q => q) (fun M1 h => ?_)
  refine Z_iload_n dX8_send_11 rfl 2 rfl ?_
  refine Z_iconst (v := 1) (by decide) dX8_send_12 ?_
  refine Z_bipush (v := 40) (by decide) dX8_send_13 ?_
  refine Z_callSVX (as := [vi p2, vi 1, vi 40]) rfl zcs_X8_send_X8_requireWithin_110 rfl rfl (zle rfl) dX8_send_15 ⟨zle rfl, zle rfl⟩ h (fun _ _ q => q) (fun M2 h => ?_)
  refine Z_aload_n dX8_send_18 rfl 0 rfl ?_
  refine Z_getR (s1 := 10) (i1 := 0) zfl_X8_47 rfl (fun q => by first | exact q | decide) dX8_send_19 ?_
  refine Z_aload_n dX8_send_22 rfl 0 rfl ?_
  refine Z_getR (s1 := 15) (i1 := 1) zfl_X8_28 rfl (fun q => by first | exact q | decide) dX8_send_23 ?_
  refine Z_callVV (as := [vr 15 1]) zRm_M zcv_X8_send_X2_keep_100 (ci := 6) rfl rfl rfl rfl (zle rfl) dX8_send_26 ⟨zle rfl, zle rfl⟩ h (fun M3 h => ?_)
  refine Z_aload_n dX8_send_29 rfl 0 rfl ?_
  refine Z_getR (s1 := 15) (i1 := 1) zfl_X8_28 rfl (fun q => by first | exact q | decide) dX8_send_30 ?_
  refine Z_iload_n dX8_send_33 rfl 1 rfl ?_
  refine Z_iload_n dX8_send_34 rfl 2 rfl ?_
  refine Z_callVI (as := [vi p1, vi p2]) zRm_M zcv_X8_send_X5_arriveAll_289 (ci := 9) rfl rfl rfl rfl (zle rfl) dX8_send_35 ⟨zle rfl, zle rfl⟩ h (fun x5 M4 h => ?_)
  exact Z_iret rfl rfl dX8_send_38 (zle rfl) (zle rfl) ⟨_, rfl, h⟩
-- X8_accountIn
set_option maxRecDepth 100000 in
set_option maxHeartbeats 4000000 in
theorem zm_X8_accountIn {l : Launch} {G : zG} {p1 : Int32} {p2 : Int32} {p3 : Int32} {M : zM} {Kf : Int64 → zM → Prop} {KX : String → zM → Prop} (h : (zCalVX l G Y_X8_requireFlowOrNone 1 6 [vr 0 0, vi p1] M (fun M1 => (zCalVX l G Y_X8_requireWithin 1 6 [vi p2, vi 0, vi 7] M1 (fun M2 => (zCalVX l G Y_X8_requireWithin 1 6 [vi p3, vi 0, vi 200] M2 (fun M3 => (zCalV l G Y_X8_lookAhead 0 0 [vr 0 0, vi p3] M3 (fun M4 => (zCalL l G Y_X5_total 0 0 [vr 15 2, vi p1, vi p2] M4 (fun x6 M5 => (zCalL l G Y_X5_total 0 0 [vr 15 1, vi p1, vi p2] M5 (fun x8 M7 => (Kf (x6 - x8) M7)))))))) KX)) KX)) KX)) : zCalLX l G Y_X8_accountIn 3 18 [vr 0 0, vi p1, vi p2, vi p3] M Kf KX := by
  refine zCal_of (lv := [(0, vr 0 0), (1, vi p1), (2, vi p2), (3, vi p3)]) (by decide) rfl (zle rfl) rfl (fun hv => zlv_args (lv := [(0, vr 0 0), (1, vi p1), (2, vi p2), (3, vi p3)]) rfl hv) ?_
  refine Z_aload_n dX8_accountIn_0 rfl 0 rfl ?_
  refine Z_iload_n dX8_accountIn_1 rfl 1 rfl ?_
  refine Z_callVVX (as := [vi p1]) rfl zcv_X8_accountIn_X8_requireFlowOrNone_224 (ci := 12) rfl rfl rfl rfl (zle rfl) dX8_accountIn_2 ⟨zle rfl, zle rfl⟩ h (fun _ _ q => q) (fun M1 h => ?_)
  refine Z_iload_n dX8_accountIn_5 rfl 2 rfl ?_
  refine Z_iconst (v := 0) (by decide) dX8_accountIn_6 ?_
  refine Z_bipush (v := 7) (by decide) dX8_accountIn_7 ?_
  refine Z_callSVX (as := [vi p2, vi 0, vi 7]) rfl zcs_X8_accountIn_X8_requireWithin_110 rfl rfl (zle rfl) dX8_accountIn_9 ⟨zle rfl, zle rfl⟩ h (fun _ _ q => q) (fun M2 h => ?_)
  refine Z_iload_n dX8_accountIn_12 rfl 3 rfl ?_
  refine Z_iconst (v := 0) (by decide) dX8_accountIn_13 ?_
  refine Z_sipush (v := 200) (by decide) dX8_accountIn_14 ?_
  refine Z_callSVX (as := [vi p3, vi 0, vi 200]) rfl zcs_X8_accountIn_X8_requireWithin_110 rfl rfl (zle rfl) dX8_accountIn_17 ⟨zle rfl, zle rfl⟩ h (fun _ _ q => q) (fun M3 h => ?_)
  refine Z_aload_n dX8_accountIn_20 rfl 0 rfl ?_
  refine Z_iload_n dX8_accountIn_21 rfl 3 rfl ?_
  refine Z_callVV (as := [vi p3]) zRm_M zcv_X8_accountIn_X8_lookAhead_262 (ci := 12) rfl rfl rfl rfl (zle rfl) dX8_accountIn_22 ⟨zle rfl, zle rfl⟩ h (fun M4 h => ?_)
  refine Z_aload_n dX8_accountIn_25 rfl 0 rfl ?_
  refine Z_getR (s1 := 15) (i1 := 2) zfl_X8_41 rfl (fun q => by first | exact q | decide) dX8_accountIn_26 ?_
  refine Z_iload_n dX8_accountIn_29 rfl 1 rfl ?_
  refine Z_iload_n dX8_accountIn_30 rfl 2 rfl ?_
  refine Z_callVL (as := [vi p1, vi p2]) zRm_M zcv_X8_accountIn_X5_total_227 (ci := 9) rfl rfl rfl rfl (zle rfl) dX8_accountIn_31 ⟨zle rfl, zle rfl⟩ h (fun x6 M5 h => ?_)
  refine Z_aload_n dX8_accountIn_34 rfl 0 rfl ?_
  refine Z_getR (s1 := 15) (i1 := 1) zfl_X8_28 rfl (fun q => by first | exact q | decide) dX8_accountIn_35 ?_
  refine Z_iload_n dX8_accountIn_38 rfl 1 rfl ?_
  refine Z_iload_n dX8_accountIn_39 rfl 2 rfl ?_
  refine Z_callVL (as := [vi p1, vi p2]) zRm_M zcv_X8_accountIn_X5_total_227 (ci := 9) rfl rfl rfl rfl (zle rfl) dX8_accountIn_40 ⟨zle rfl, zle rfl⟩ h (fun x8 M7 h => ?_)
  refine Z_lsub dX8_accountIn_43 ?_
  exact Z_lret rfl dX8_accountIn_44 (zle rfl) (zle rfl) ⟨_, rfl, h⟩
-- X8_averageIn
set_option maxRecDepth 100000 in
set_option maxHeartbeats 4000000 in
theorem zm_X8_averageIn {l : Launch} {G : zG} {p1 : Int32} {M : zM} {Kf : Int32 → zM → Prop} {KX : String → zM → Prop} (h : (zCalVX l G Y_X8_requireWithin 1 6 [vi p1, vi 0, vi 200] M (fun M1 => (zCalV l G Y_X8_lookAhead 0 0 [vr 0 0, vi p1] M1 (fun M2 => (Kf (zmI M2 15 2 8) M2)))) KX)) : zCalIX l G Y_X8_averageIn 1 6 [vr 0 0, vi p1] M Kf KX := by
  refine zCal_of (lv := [(0, vr 0 0), (1, vi p1)]) (by decide) rfl (zle rfl) rfl (fun hv => zlv_args (lv := [(0, vr 0 0), (1, vi p1)]) rfl hv) ?_
  refine Z_iload_n dX8_averageIn_0 rfl 1 rfl ?_
  refine Z_iconst (v := 0) (by decide) dX8_averageIn_1 ?_
  refine Z_sipush (v := 200) (by decide) dX8_averageIn_2 ?_
  refine Z_callSVX (as := [vi p1, vi 0, vi 200]) rfl zcs_X8_averageIn_X8_requireWithin_110 rfl rfl (zle rfl) dX8_averageIn_5 ⟨zle rfl, zle rfl⟩ h (fun _ _ q => q) (fun M1 h => ?_)
  refine Z_aload_n dX8_averageIn_8 rfl 0 rfl ?_
  refine Z_iload_n dX8_averageIn_9 rfl 1 rfl ?_
  refine Z_callVV (as := [vi p1]) zRm_M zcv_X8_averageIn_X8_lookAhead_262 (ci := 12) rfl rfl rfl rfl (zle rfl) dX8_averageIn_10 ⟨zle rfl, zle rfl⟩ h (fun M2 h => ?_)
  refine Z_aload_n dX8_averageIn_13 rfl 0 rfl ?_
  refine Z_getR (s1 := 15) (i1 := 2) zfl_X8_41 rfl (fun q => by first | exact q | decide) dX8_averageIn_14 ?_
  refine Z_getI zfl_X8_145 dX8_averageIn_17 ?_
  exact Z_iret rfl rfl dX8_averageIn_20 (zle rfl) (zle rfl) ⟨_, rfl, h⟩
-- X8_bestTop
set_option maxRecDepth 100000 in
set_option maxHeartbeats 4000000 in
theorem zm_X8_bestTop {l : Launch} {G : zG} {p1 : Int32} {M : zM} {Kf : Int32 → zM → Prop} {KX : String → zM → Prop} (h : (zCalVX l G Y_X8_requireWithin 1 6 [vi p1, vi 1, vi 100] M (fun M1 => zAt l G Y_X8_bestTop (zEM G Y_X8_bestTop 1 6 (zKI Kf, some KX)) 16 [(0, vr 0 0), (1, vi p1), (2, vi 0), (3, vl (-1)), (5, vi 0)] [] M1 1 6) KX)) : zCalIX l G Y_X8_bestTop 1 6 [vr 0 0, vi p1] M Kf KX := by
  refine zCal_of (lv := [(0, vr 0 0), (1, vi p1)]) (by decide) rfl (zle rfl) rfl (fun hv => zlv_args (lv := [(0, vr 0 0), (1, vi p1)]) rfl hv) ?_
  refine Z_iload_n dX8_bestTop_0 rfl 1 rfl ?_
  refine Z_iconst (v := 1) (by decide) dX8_bestTop_1 ?_
  refine Z_bipush (v := 100) (by decide) dX8_bestTop_2 ?_
  refine Z_callSVX (as := [vi p1, vi 1, vi 100]) rfl zcs_X8_bestTop_X8_requireWithin_110 rfl rfl (zle rfl) dX8_bestTop_4 ⟨zle rfl, zle rfl⟩ h (fun _ _ q => q) (fun M1 h => ?_)
  refine Z_iconst (v := 0) (by decide) dX8_bestTop_7 ?_
  refine Z_istore_n (lv2 := [(2, vi 0), (0, vr 0 0), (1, vi p1)]) dX8_bestTop_8 rfl (by decide) rfl ?_
  refine Z_ldc2 (v := (-1)) zw_1495 dX8_bestTop_9 ?_
  refine Z_lstore_n (lv2 := [(3, vl (-1)), (2, vi 0), (0, vr 0 0), (1, vi p1)]) dX8_bestTop_12 rfl (by decide) rfl ?_
  refine Z_iconst (v := 0) (by decide) dX8_bestTop_13 ?_
  refine Z_istore (lv2 := [(5, vi 0), (3, vl (-1)), (2, vi 0), (0, vr 0 0), (1, vi p1)]) dX8_bestTop_14 (by decide) rfl ?_
  exact Z_pick [3, 4, 2, 1, 0] rfl h
set_option maxRecDepth 100000 in
set_option maxHeartbeats 4000000 in
theorem zb_X8_bestTop_16 {l : Launch} {G : zG} {y1 : Int32} {y2 : Int32} {y3 : Int64} {y5 : Int32} {M : zM} {Kf : Int32 → zM → Prop} {KX : String → zM → Prop} (h : ((65536 < y5 → (Kf y2 M)) ∧ (¬ 65536 < y5 → (zCalV l G Y_X5_copyFrom 0 0 [vr 15 2, vr 15 1] M (fun M1 => (zCalL l G Y_X8_droppedBehind 0 0 [vr 0 0, vi y1] (zsI M1 15 2 4 y5) (fun x3 M2 => (((lg_cmp y3 (-1)) = 0 → zAt l G Y_X8_bestTop (zEM G Y_X8_bestTop 1 6 (zKI Kf, some KX)) 66 [(0, vr 0 0), (1, vi y1), (5, vi y5), (6, vl x3)] [] M2 1 6) ∧ (¬ (lg_cmp y3 (-1)) = 0 → ((0 ≤ (lg_cmp x3 y3) → zAt l G Y_X8_bestTop (zEM G Y_X8_bestTop 1 6 (zKI Kf, some KX)) 72 [(0, vr 0 0), (1, vi y1), (2, vi y2), (3, vl y3), (5, vi y5)] [] M2 1 6) ∧ (¬ 0 ≤ (lg_cmp x3 y3) → zAt l G Y_X8_bestTop (zEM G Y_X8_bestTop 1 6 (zKI Kf, some KX)) 66 [(0, vr 0 0), (1, vi y1), (5, vi y5), (6, vl x3)] [] M2 1 6))))))))))) : zAt l G Y_X8_bestTop (zEM G Y_X8_bestTop 1 6 (zKI Kf, some KX)) 16 [(0, vr 0 0), (1, vi y1), (2, vi y2), (3, vl y3), (5, vi y5)] [] M 1 6 := by
  refine Z_iload dX8_bestTop_16 4 rfl ?_
  refine Z_ldcw (v := 65536) zw_1438 dX8_bestTop_18 ?_
  refine Z_icmp_gt (tgt := 81) dX8_bestTop_21 (by decide) (fun q => ?_) (fun q => ?_)
  · have h := h.1 q
    refine Z_iload_n dX8_bestTop_81 rfl 2 rfl ?_
    exact Z_iret rfl rfl dX8_bestTop_82 (zle rfl) (zle rfl) ⟨_, rfl, h⟩
  · have h := h.2 q
    refine Z_aload_n dX8_bestTop_24 rfl 0 rfl ?_
    refine Z_getR (s1 := 15) (i1 := 2) zfl_X8_41 rfl (fun q => by first | exact q | decide) dX8_bestTop_25 ?_
    refine Z_aload_n dX8_bestTop_28 rfl 0 rfl ?_
    refine Z_getR (s1 := 15) (i1 := 1) zfl_X8_28 rfl (fun q => by first | exact q | decide) dX8_bestTop_29 ?_
    refine Z_callVV (as := [vr 15 1]) zRm_M zcv_X8_bestTop_X5_copyFrom_89 (ci := 9) rfl rfl rfl rfl (zle rfl) dX8_bestTop_32 ⟨zle rfl, zle rfl⟩ h (fun M1 h => ?_)
    refine Z_aload_n dX8_bestTop_35 rfl 0 rfl ?_
    refine Z_getR (s1 := 15) (i1 := 2) zfl_X8_41 rfl (fun q => by first | exact q | decide) dX8_bestTop_36 ?_
    refine Z_iload dX8_bestTop_39 4 rfl ?_
    refine Z_putI zfp_X8_126 rfl rfl dX8_bestTop_41 ?_
    refine Z_aload_n dX8_bestTop_44 rfl 0 rfl ?_
    refine Z_iload_n dX8_bestTop_45 rfl 1 rfl ?_
    refine Z_callVL (as := [vi y1]) zRm_M zcv_X8_bestTop_X8_droppedBehind_278 (ci := 12) rfl rfl rfl rfl (zle rfl) dX8_bestTop_46 ⟨zle rfl, zle rfl⟩ h (fun x3 M2 h => ?_)
    refine Z_lstore (lv2 := [(6, vl x3), (0, vr 0 0), (1, vi y1), (2, vi y2), (3, vl y3), (5, vi y5)]) dX8_bestTop_49 (by decide) rfl ?_
    refine Z_lload_n dX8_bestTop_51 rfl 4 rfl ?_
    refine Z_ldc2 (v := (-1)) zw_1495 dX8_bestTop_52 ?_
    refine Z_lcmp dX8_bestTop_55 ?_
    refine Z_if_eq (tgt := 66) dX8_bestTop_56 (by decide) (fun q => ?_) (fun q => ?_)
    · have h := h.1 q
      exact Z_pick [1, 2, 5, 0] rfl h
    · have h := h.2 q
      refine Z_lload dX8_bestTop_59 0 rfl ?_
      refine Z_lload_n dX8_bestTop_61 rfl 4 rfl ?_
      refine Z_lcmp dX8_bestTop_62 ?_
      refine Z_if_ge (tgt := 72) dX8_bestTop_63 (by decide) (fun q => ?_) (fun q => ?_)
      · have h := h.1 q
        exact Z_pick [1, 2, 3, 4, 5] rfl h
      · have h := h.2 q
        exact Z_pick [1, 2, 5, 0] rfl h
set_option maxRecDepth 100000 in
set_option maxHeartbeats 4000000 in
theorem zb_X8_bestTop_66 {l : Launch} {G : zG} {y1 : Int32} {y5 : Int32} {y6 : Int64} {M : zM} {Kf : Int32 → zM → Prop} {KX : String → zM → Prop} (h : zAt l G Y_X8_bestTop (zEM G Y_X8_bestTop 1 6 (zKI Kf, some KX)) 72 [(0, vr 0 0), (1, vi y1), (2, vi y5), (3, vl y6), (5, vi y5)] [] M 1 6) : zAt l G Y_X8_bestTop (zEM G Y_X8_bestTop 1 6 (zKI Kf, some KX)) 66 [(0, vr 0 0), (1, vi y1), (5, vi y5), (6, vl y6)] [] M 1 6 := by
  refine Z_lload dX8_bestTop_66 3 rfl ?_
  refine Z_lstore_n (lv2 := [(3, vl y6), (0, vr 0 0), (1, vi y1), (5, vi y5), (6, vl y6)]) dX8_bestTop_68 rfl (by decide) rfl ?_
  refine Z_iload dX8_bestTop_69 3 rfl ?_
  refine Z_istore_n (lv2 := [(2, vi y5), (3, vl y6), (0, vr 0 0), (1, vi y1), (5, vi y5), (6, vl y6)]) dX8_bestTop_71 rfl (by decide) rfl ?_
  exact Z_pick [2, 3, 0, 1, 4] rfl h
set_option maxRecDepth 100000 in
set_option maxHeartbeats 4000000 in
theorem zb_X8_bestTop_72 {l : Launch} {G : zG} {y1 : Int32} {y2 : Int32} {y3 : Int64} {y5 : Int32} {M : zM} {Kf : Int32 → zM → Prop} {KX : String → zM → Prop} (h : zAt l G Y_X8_bestTop (zEM G Y_X8_bestTop 1 6 (zKI Kf, some KX)) 16 [(0, vr 0 0), (1, vi y1), (2, vi y2), (3, vl y3), (5, vi (y5 + 4096))] [] M 1 6) : zAt l G Y_X8_bestTop (zEM G Y_X8_bestTop 1 6 (zKI Kf, some KX)) 72 [(0, vr 0 0), (1, vi y1), (2, vi y2), (3, vl y3), (5, vi y5)] [] M 1 6 := by
  refine Z_iincW (v := (y5 + 4096)) (lv2 := [(5, vi (y5 + 4096)), (0, vr 0 0), (1, vi y1), (2, vi y2), (3, vl y3)]) dX8_bestTop_72 4 rfl rfl (by decide) rfl ?_
  refine Z_goto (tgt := 16) dX8_bestTop_78 (by decide) ?_
  exact Z_pick [1, 2, 3, 4, 0] rfl h
-- X8_bestWeight
set_option maxRecDepth 100000 in
set_option maxHeartbeats 4000000 in
theorem zm_X8_bestWeight {l : Launch} {G : zG} {p1 : Int32} {M : zM} {Kf : Int32 → zM → Prop} {KX : String → zM → Prop} (h : (zCalVX l G Y_X8_requireWithin 1 6 [vi p1, vi 1, vi 100] M (fun M1 => zAt l G Y_X8_bestWeight (zEM G Y_X8_bestWeight 1 6 (zKI Kf, some KX)) 16 [(0, vr 0 0), (1, vi p1), (2, vi 0), (3, vl (-1)), (5, vi 0)] [] M1 1 6) KX)) : zCalIX l G Y_X8_bestWeight 1 6 [vr 0 0, vi p1] M Kf KX := by
  refine zCal_of (lv := [(0, vr 0 0), (1, vi p1)]) (by decide) rfl (zle rfl) rfl (fun hv => zlv_args (lv := [(0, vr 0 0), (1, vi p1)]) rfl hv) ?_
  refine Z_iload_n dX8_bestWeight_0 rfl 1 rfl ?_
  refine Z_iconst (v := 1) (by decide) dX8_bestWeight_1 ?_
  refine Z_bipush (v := 100) (by decide) dX8_bestWeight_2 ?_
  refine Z_callSVX (as := [vi p1, vi 1, vi 100]) rfl zcs_X8_bestWeight_X8_requireWithin_110 rfl rfl (zle rfl) dX8_bestWeight_4 ⟨zle rfl, zle rfl⟩ h (fun _ _ q => q) (fun M1 h => ?_)
  refine Z_iconst (v := 0) (by decide) dX8_bestWeight_7 ?_
  refine Z_istore_n (lv2 := [(2, vi 0), (0, vr 0 0), (1, vi p1)]) dX8_bestWeight_8 rfl (by decide) rfl ?_
  refine Z_ldc2 (v := (-1)) zw_1495 dX8_bestWeight_9 ?_
  refine Z_lstore_n (lv2 := [(3, vl (-1)), (2, vi 0), (0, vr 0 0), (1, vi p1)]) dX8_bestWeight_12 rfl (by decide) rfl ?_
  refine Z_iconst (v := 0) (by decide) dX8_bestWeight_13 ?_
  refine Z_istore (lv2 := [(5, vi 0), (3, vl (-1)), (2, vi 0), (0, vr 0 0), (1, vi p1)]) dX8_bestWeight_14 (by decide) rfl ?_
  exact Z_pick [3, 4, 2, 1, 0] rfl h
set_option maxRecDepth 100000 in
set_option maxHeartbeats 4000000 in
theorem zb_X8_bestWeight_16 {l : Launch} {G : zG} {y1 : Int32} {y2 : Int32} {y3 : Int64} {y5 : Int32} {M : zM} {Kf : Int32 → zM → Prop} {KX : String → zM → Prop} (h : ((10 < y5 → (Kf y2 M)) ∧ (¬ 10 < y5 → (zCalV l G Y_X5_copyFrom 0 0 [vr 15 2, vr 15 1] M (fun M1 => (zCalL l G Y_X8_droppedBehind 0 0 [vr 0 0, vi y1] (zsI M1 15 2 5 y5) (fun x3 M2 => (((lg_cmp y3 (-1)) = 0 → zAt l G Y_X8_bestWeight (zEM G Y_X8_bestWeight 1 6 (zKI Kf, some KX)) 65 [(0, vr 0 0), (1, vi y1), (5, vi y5), (6, vl x3)] [] M2 1 6) ∧ (¬ (lg_cmp y3 (-1)) = 0 → ((0 ≤ (lg_cmp x3 y3) → zAt l G Y_X8_bestWeight (zEM G Y_X8_bestWeight 1 6 (zKI Kf, some KX)) 71 [(0, vr 0 0), (1, vi y1), (2, vi y2), (3, vl y3), (5, vi y5)] [] M2 1 6) ∧ (¬ 0 ≤ (lg_cmp x3 y3) → zAt l G Y_X8_bestWeight (zEM G Y_X8_bestWeight 1 6 (zKI Kf, some KX)) 65 [(0, vr 0 0), (1, vi y1), (5, vi y5), (6, vl x3)] [] M2 1 6))))))))))) : zAt l G Y_X8_bestWeight (zEM G Y_X8_bestWeight 1 6 (zKI Kf, some KX)) 16 [(0, vr 0 0), (1, vi y1), (2, vi y2), (3, vl y3), (5, vi y5)] [] M 1 6 := by
  refine Z_iload dX8_bestWeight_16 4 rfl ?_
  refine Z_bipush (v := 10) (by decide) dX8_bestWeight_18 ?_
  refine Z_icmp_gt (tgt := 77) dX8_bestWeight_20 (by decide) (fun q => ?_) (fun q => ?_)
  · have h := h.1 q
    refine Z_iload_n dX8_bestWeight_77 rfl 2 rfl ?_
    exact Z_iret rfl rfl dX8_bestWeight_78 (zle rfl) (zle rfl) ⟨_, rfl, h⟩
  · have h := h.2 q
    refine Z_aload_n dX8_bestWeight_23 rfl 0 rfl ?_
    refine Z_getR (s1 := 15) (i1 := 2) zfl_X8_41 rfl (fun q => by first | exact q | decide) dX8_bestWeight_24 ?_
    refine Z_aload_n dX8_bestWeight_27 rfl 0 rfl ?_
    refine Z_getR (s1 := 15) (i1 := 1) zfl_X8_28 rfl (fun q => by first | exact q | decide) dX8_bestWeight_28 ?_
    refine Z_callVV (as := [vr 15 1]) zRm_M zcv_X8_bestWeight_X5_copyFrom_89 (ci := 9) rfl rfl rfl rfl (zle rfl) dX8_bestWeight_31 ⟨zle rfl, zle rfl⟩ h (fun M1 h => ?_)
    refine Z_aload_n dX8_bestWeight_34 rfl 0 rfl ?_
    refine Z_getR (s1 := 15) (i1 := 2) zfl_X8_41 rfl (fun q => by first | exact q | decide) dX8_bestWeight_35 ?_
    refine Z_iload dX8_bestWeight_38 4 rfl ?_
    refine Z_putI zfp_X8_129 rfl rfl dX8_bestWeight_40 ?_
    refine Z_aload_n dX8_bestWeight_43 rfl 0 rfl ?_
    refine Z_iload_n dX8_bestWeight_44 rfl 1 rfl ?_
    refine Z_callVL (as := [vi y1]) zRm_M zcv_X8_bestWeight_X8_droppedBehind_278 (ci := 12) rfl rfl rfl rfl (zle rfl) dX8_bestWeight_45 ⟨zle rfl, zle rfl⟩ h (fun x3 M2 h => ?_)
    refine Z_lstore (lv2 := [(6, vl x3), (0, vr 0 0), (1, vi y1), (2, vi y2), (3, vl y3), (5, vi y5)]) dX8_bestWeight_48 (by decide) rfl ?_
    refine Z_lload_n dX8_bestWeight_50 rfl 4 rfl ?_
    refine Z_ldc2 (v := (-1)) zw_1495 dX8_bestWeight_51 ?_
    refine Z_lcmp dX8_bestWeight_54 ?_
    refine Z_if_eq (tgt := 65) dX8_bestWeight_55 (by decide) (fun q => ?_) (fun q => ?_)
    · have h := h.1 q
      exact Z_pick [1, 2, 5, 0] rfl h
    · have h := h.2 q
      refine Z_lload dX8_bestWeight_58 0 rfl ?_
      refine Z_lload_n dX8_bestWeight_60 rfl 4 rfl ?_
      refine Z_lcmp dX8_bestWeight_61 ?_
      refine Z_if_ge (tgt := 71) dX8_bestWeight_62 (by decide) (fun q => ?_) (fun q => ?_)
      · have h := h.1 q
        exact Z_pick [1, 2, 3, 4, 5] rfl h
      · have h := h.2 q
        exact Z_pick [1, 2, 5, 0] rfl h
set_option maxRecDepth 100000 in
set_option maxHeartbeats 4000000 in
theorem zb_X8_bestWeight_65 {l : Launch} {G : zG} {y1 : Int32} {y5 : Int32} {y6 : Int64} {M : zM} {Kf : Int32 → zM → Prop} {KX : String → zM → Prop} (h : zAt l G Y_X8_bestWeight (zEM G Y_X8_bestWeight 1 6 (zKI Kf, some KX)) 71 [(0, vr 0 0), (1, vi y1), (2, vi y5), (3, vl y6), (5, vi y5)] [] M 1 6) : zAt l G Y_X8_bestWeight (zEM G Y_X8_bestWeight 1 6 (zKI Kf, some KX)) 65 [(0, vr 0 0), (1, vi y1), (5, vi y5), (6, vl y6)] [] M 1 6 := by
  refine Z_lload dX8_bestWeight_65 3 rfl ?_
  refine Z_lstore_n (lv2 := [(3, vl y6), (0, vr 0 0), (1, vi y1), (5, vi y5), (6, vl y6)]) dX8_bestWeight_67 rfl (by decide) rfl ?_
  refine Z_iload dX8_bestWeight_68 3 rfl ?_
  refine Z_istore_n (lv2 := [(2, vi y5), (3, vl y6), (0, vr 0 0), (1, vi y1), (5, vi y5), (6, vl y6)]) dX8_bestWeight_70 rfl (by decide) rfl ?_
  exact Z_pick [2, 3, 0, 1, 4] rfl h
set_option maxRecDepth 100000 in
set_option maxHeartbeats 4000000 in
theorem zb_X8_bestWeight_71 {l : Launch} {G : zG} {y1 : Int32} {y2 : Int32} {y3 : Int64} {y5 : Int32} {M : zM} {Kf : Int32 → zM → Prop} {KX : String → zM → Prop} (h : zAt l G Y_X8_bestWeight (zEM G Y_X8_bestWeight 1 6 (zKI Kf, some KX)) 16 [(0, vr 0 0), (1, vi y1), (2, vi y2), (3, vl y3), (5, vi (y5 + 1))] [] M 1 6) : zAt l G Y_X8_bestWeight (zEM G Y_X8_bestWeight 1 6 (zKI Kf, some KX)) 71 [(0, vr 0 0), (1, vi y1), (2, vi y2), (3, vl y3), (5, vi y5)] [] M 1 6 := by
  refine Z_iinc (v := (y5 + 1)) (lv2 := [(5, vi (y5 + 1)), (0, vr 0 0), (1, vi y1), (2, vi y2), (3, vl y3)]) dX8_bestWeight_71 4 rfl rfl (by decide) rfl ?_
  refine Z_goto (tgt := 16) dX8_bestWeight_74 (by decide) ?_
  exact Z_pick [1, 2, 3, 4, 0] rfl h
-- X8_gain
set_option maxRecDepth 100000 in
set_option maxHeartbeats 4000000 in
theorem zm_X8_gain {l : Launch} {G : zG} {p1 : Int32} {M : zM} {Kf : Int64 → zM → Prop} {KX : String → zM → Prop} (h : (zCalVX l G Y_X8_requireWithin 1 6 [vi p1, vi 1, vi 200] M (fun M1 => (zCalV l G Y_X5_copyFrom 0 0 [vr 15 2, vr 15 1] M1 (fun M2 => (zCalL l G Y_X8_droppedBehind 0 0 [vr 0 0, vi p1] M2 (fun x4 M3 => (zCalV l G Y_X5_copyFrom 0 0 [vr 15 2, vr 15 1] M3 (fun M5 => (zCalL l G Y_X8_droppedBehind 0 0 [vr 0 0, vi p1] (zsI M5 15 2 11 0) (fun x7 M6 => (Kf (x7 - x4) M6)))))))))) KX)) : zCalLX l G Y_X8_gain 1 6 [vr 0 0, vi p1] M Kf KX := by
  refine zCal_of (lv := [(0, vr 0 0), (1, vi p1)]) (by decide) rfl (zle rfl) rfl (fun hv => zlv_args (lv := [(0, vr 0 0), (1, vi p1)]) rfl hv) ?_
  refine Z_iload_n dX8_gain_0 rfl 1 rfl ?_
  refine Z_iconst (v := 1) (by decide) dX8_gain_1 ?_
  refine Z_sipush (v := 200) (by decide) dX8_gain_2 ?_
  refine Z_callSVX (as := [vi p1, vi 1, vi 200]) rfl zcs_X8_gain_X8_requireWithin_110 rfl rfl (zle rfl) dX8_gain_5 ⟨zle rfl, zle rfl⟩ h (fun _ _ q => q) (fun M1 h => ?_)
  refine Z_aload_n dX8_gain_8 rfl 0 rfl ?_
  refine Z_getR (s1 := 15) (i1 := 2) zfl_X8_41 rfl (fun q => by first | exact q | decide) dX8_gain_9 ?_
  refine Z_aload_n dX8_gain_12 rfl 0 rfl ?_
  refine Z_getR (s1 := 15) (i1 := 1) zfl_X8_28 rfl (fun q => by first | exact q | decide) dX8_gain_13 ?_
  refine Z_callVV (as := [vr 15 1]) zRm_M zcv_X8_gain_X5_copyFrom_89 (ci := 9) rfl rfl rfl rfl (zle rfl) dX8_gain_16 ⟨zle rfl, zle rfl⟩ h (fun M2 h => ?_)
  refine Z_aload_n dX8_gain_19 rfl 0 rfl ?_
  refine Z_iload_n dX8_gain_20 rfl 1 rfl ?_
  refine Z_callVL (as := [vi p1]) zRm_M zcv_X8_gain_X8_droppedBehind_278 (ci := 12) rfl rfl rfl rfl (zle rfl) dX8_gain_21 ⟨zle rfl, zle rfl⟩ h (fun x4 M3 h => ?_)
  refine Z_lstore_n (lv2 := [(2, vl x4), (0, vr 0 0), (1, vi p1)]) dX8_gain_24 rfl (by decide) rfl ?_
  refine Z_aload_n dX8_gain_25 rfl 1 rfl ?_
  refine Z_getR (s1 := 15) (i1 := 2) zfl_X8_41 rfl (fun q => by first | exact q | decide) dX8_gain_26 ?_
  refine Z_aload_n dX8_gain_29 rfl 1 rfl ?_
  refine Z_getR (s1 := 15) (i1 := 1) zfl_X8_28 rfl (fun q => by first | exact q | decide) dX8_gain_30 ?_
  refine Z_callVV (as := [vr 15 1]) zRm_M zcv_X8_gain_X5_copyFrom_89 (ci := 9) rfl rfl rfl rfl (zle rfl) dX8_gain_33 ⟨zle rfl, zle rfl⟩ h (fun M5 h => ?_)
  refine Z_aload_n dX8_gain_36 rfl 1 rfl ?_
  refine Z_getR (s1 := 15) (i1 := 2) zfl_X8_41 rfl (fun q => by first | exact q | decide) dX8_gain_37 ?_
  refine Z_iconst (v := 0) (by decide) dX8_gain_40 ?_
  refine Z_putI zfp_X8_283 (by decide) (by decide) dX8_gain_41 ?_
  refine Z_aload_n dX8_gain_44 rfl 1 rfl ?_
  refine Z_iload_n dX8_gain_45 rfl 2 rfl ?_
  refine Z_callVL (as := [vi p1]) zRm_M zcv_X8_gain_X8_droppedBehind_278 (ci := 12) rfl rfl rfl rfl (zle rfl) dX8_gain_46 ⟨zle rfl, zle rfl⟩ h (fun x7 M6 h => ?_)
  refine Z_lload_n dX8_gain_49 rfl 0 rfl ?_
  refine Z_lsub dX8_gain_50 ?_
  exact Z_lret rfl dX8_gain_51 (zle rfl) (zle rfl) ⟨_, rfl, h⟩
-- X8_queueIn
set_option maxRecDepth 100000 in
set_option maxHeartbeats 4000000 in
theorem zm_X8_queueIn {l : Launch} {G : zG} {p1 : Int32} {M : zM} {Kf : Int32 → zM → Prop} {KX : String → zM → Prop} (h : (zCalVX l G Y_X8_requireWithin 1 6 [vi p1, vi 0, vi 200] M (fun M1 => (zCalV l G Y_X8_lookAhead 0 0 [vr 0 0, vi p1] M1 (fun M2 => (Kf (zmI M2 19 2 1) M2)))) KX)) : zCalIX l G Y_X8_queueIn 1 6 [vr 0 0, vi p1] M Kf KX := by
  refine zCal_of (lv := [(0, vr 0 0), (1, vi p1)]) (by decide) rfl (zle rfl) rfl (fun hv => zlv_args (lv := [(0, vr 0 0), (1, vi p1)]) rfl hv) ?_
  refine Z_iload_n dX8_queueIn_0 rfl 1 rfl ?_
  refine Z_iconst (v := 0) (by decide) dX8_queueIn_1 ?_
  refine Z_sipush (v := 200) (by decide) dX8_queueIn_2 ?_
  refine Z_callSVX (as := [vi p1, vi 0, vi 200]) rfl zcs_X8_queueIn_X8_requireWithin_110 rfl rfl (zle rfl) dX8_queueIn_5 ⟨zle rfl, zle rfl⟩ h (fun _ _ q => q) (fun M1 h => ?_)
  refine Z_aload_n dX8_queueIn_8 rfl 0 rfl ?_
  refine Z_iload_n dX8_queueIn_9 rfl 1 rfl ?_
  refine Z_callVV (as := [vi p1]) zRm_M zcv_X8_queueIn_X8_lookAhead_262 (ci := 12) rfl rfl rfl rfl (zle rfl) dX8_queueIn_10 ⟨zle rfl, zle rfl⟩ h (fun M2 h => ?_)
  refine Z_aload_n dX8_queueIn_13 rfl 0 rfl ?_
  refine Z_getR (s1 := 15) (i1 := 2) zfl_X8_41 rfl (fun q => by first | exact q | decide) dX8_queueIn_14 ?_
  refine Z_getR (s1 := 19) (i1 := 2) zfl_X8_138 rfl (fun q => by first | exact q | decide) dX8_queueIn_17 ?_
  refine Z_getI zfl_X8_142 dX8_queueIn_20 ?_
  exact Z_iret rfl rfl dX8_queueIn_23 (zle rfl) (zle rfl) ⟨_, rfl, h⟩
-- X8_tick
set_option maxRecDepth 100000 in
set_option maxHeartbeats 4000000 in
theorem zm_X8_tick {l : Launch} {G : zG} {p1 : Int32} {M : zM} {Kf : Int32 → zM → Prop} {KX : String → zM → Prop} (h : (zCalVX l G Y_X8_requireWithin 1 6 [vi p1, vi 1, vi 50] M (fun M1 => ((((zmI M1 15 1 7) + p1) ≤ 9999 → (zCalV l G Y_X2_keep 0 0 [vr 10 0, vr 15 1] M1 (fun M2 => (zCalI l G Y_X5_passTicks 0 0 [vr 15 1, vi p1] M2 (fun x4 M3 => (Kf x4 M3)))))) ∧ (¬ ((zmI M1 15 1 7) + p1) ≤ 9999 → (Kf (-2) M1)))) KX)) : zCalIX l G Y_X8_tick 1 6 [vr 0 0, vi p1] M Kf KX := by
  refine zCal_of (lv := [(0, vr 0 0), (1, vi p1)]) (by decide) rfl (zle rfl) rfl (fun hv => zlv_args (lv := [(0, vr 0 0), (1, vi p1)]) rfl hv) ?_
  refine Z_iload_n dX8_tick_0 rfl 1 rfl ?_
  refine Z_iconst (v := 1) (by decide) dX8_tick_1 ?_
  refine Z_bipush (v := 50) (by decide) dX8_tick_2 ?_
  refine Z_callSVX (as := [vi p1, vi 1, vi 50]) rfl zcs_X8_tick_X8_requireWithin_110 rfl rfl (zle rfl) dX8_tick_4 ⟨zle rfl, zle rfl⟩ h (fun _ _ q => q) (fun M1 h => ?_)
  refine Z_aload_n dX8_tick_7 rfl 0 rfl ?_
  refine Z_getR (s1 := 15) (i1 := 1) zfl_X8_28 rfl (fun q => by first | exact q | decide) dX8_tick_8 ?_
  refine Z_getI zfl_X8_135 dX8_tick_11 ?_
  refine Z_iload_n dX8_tick_14 rfl 1 rfl ?_
  refine Z_iadd dX8_tick_15 ?_
  refine Z_sipush (v := 9999) (by decide) dX8_tick_16 ?_
  refine Z_icmp_le (tgt := 25) dX8_tick_19 (by decide) (fun q => ?_) (fun q => ?_)
  · have h := h.1 q
    refine Z_aload_n dX8_tick_25 rfl 0 rfl ?_
    refine Z_getR (s1 := 10) (i1 := 0) zfl_X8_47 rfl (fun q => by first | exact q | decide) dX8_tick_26 ?_
    refine Z_aload_n dX8_tick_29 rfl 0 rfl ?_
    refine Z_getR (s1 := 15) (i1 := 1) zfl_X8_28 rfl (fun q => by first | exact q | decide) dX8_tick_30 ?_
    refine Z_callVV (as := [vr 15 1]) zRm_M zcv_X8_tick_X2_keep_100 (ci := 6) rfl rfl rfl rfl (zle rfl) dX8_tick_33 ⟨zle rfl, zle rfl⟩ h (fun M2 h => ?_)
    refine Z_aload_n dX8_tick_36 rfl 0 rfl ?_
    refine Z_getR (s1 := 15) (i1 := 1) zfl_X8_28 rfl (fun q => by first | exact q | decide) dX8_tick_37 ?_
    refine Z_iload_n dX8_tick_40 rfl 1 rfl ?_
    refine Z_callVI (as := [vi p1]) zRm_M zcv_X8_tick_X5_passTicks_286 (ci := 9) rfl rfl rfl rfl (zle rfl) dX8_tick_41 ⟨zle rfl, zle rfl⟩ h (fun x4 M3 h => ?_)
    exact Z_iret rfl rfl dX8_tick_44 (zle rfl) (zle rfl) ⟨_, rfl, h⟩
  · have h := h.2 q
    refine Z_bipush (v := (-2)) (by decide) dX8_tick_22 ?_
    exact Z_iret rfl rfl dX8_tick_24 (zle rfl) (zle rfl) ⟨_, rfl, h⟩
-- X8_windowIn
set_option maxRecDepth 100000 in
set_option maxHeartbeats 4000000 in
theorem zm_X8_windowIn {l : Launch} {G : zG} {p1 : Int32} {p2 : Int32} {M : zM} {Kf : Int32 → zM → Prop} {KX : String → zM → Prop} (h : (zCalVX l G Y_X8_requireIndex 1 6 [vi p1, vi (zmI M 15 1 12)] M (fun M1 => (zCalVX l G Y_X8_requireWithin 1 6 [vi p2, vi 0, vi 200] M1 (fun M2 => (zCalV l G Y_X8_lookAhead 0 0 [vr 0 0, vi p2] M2 (fun M3 => (vp_in p1 6 ∧ (Kf (zmI M3 17 (6 * 2 + p1.toNatClampNeg) 7) M3))))) KX)) KX)) : zCalIX l G Y_X8_windowIn 2 12 [vr 0 0, vi p1, vi p2] M Kf KX := by
  refine zCal_of (lv := [(0, vr 0 0), (1, vi p1), (2, vi p2)]) (by decide) rfl (zle rfl) rfl (fun hv => zlv_args (lv := [(0, vr 0 0), (1, vi p1), (2, vi p2)]) rfl hv) ?_
  refine Z_iload_n dX8_windowIn_0 rfl 1 rfl ?_
  refine Z_aload_n dX8_windowIn_1 rfl 0 rfl ?_
  refine Z_getR (s1 := 15) (i1 := 1) zfl_X8_28 rfl (fun q => by first | exact q | decide) dX8_windowIn_2 ?_
  refine Z_getI zfl_X8_96 dX8_windowIn_5 ?_
  refine Z_callSVX (as := [vi p1, vi (zmI M 15 1 12)]) rfl zcs_X8_windowIn_X8_requireIndex_216 rfl rfl (zle rfl) dX8_windowIn_8 ⟨zle rfl, zle rfl⟩ h (fun _ _ q => q) (fun M1 h => ?_)
  refine Z_iload_n dX8_windowIn_11 rfl 2 rfl ?_
  refine Z_iconst (v := 0) (by decide) dX8_windowIn_12 ?_
  refine Z_sipush (v := 200) (by decide) dX8_windowIn_13 ?_
  refine Z_callSVX (as := [vi p2, vi 0, vi 200]) rfl zcs_X8_windowIn_X8_requireWithin_110 rfl rfl (zle rfl) dX8_windowIn_16 ⟨zle rfl, zle rfl⟩ h (fun _ _ q => q) (fun M2 h => ?_)
  refine Z_aload_n dX8_windowIn_19 rfl 0 rfl ?_
  refine Z_iload_n dX8_windowIn_20 rfl 2 rfl ?_
  refine Z_callVV (as := [vi p2]) zRm_M zcv_X8_windowIn_X8_lookAhead_262 (ci := 12) rfl rfl rfl rfl (zle rfl) dX8_windowIn_21 ⟨zle rfl, zle rfl⟩ h (fun M3 h => ?_)
  refine Z_aload_n dX8_windowIn_24 rfl 0 rfl ?_
  refine Z_getR (s1 := 15) (i1 := 2) zfl_X8_41 rfl (fun q => by first | exact q | decide) dX8_windowIn_25 ?_
  refine Z_getR (s1 := 16) (i1 := 2) zfl_X8_265 rfl (fun q => by first | exact q | decide) dX8_windowIn_28 ?_
  refine Z_iload_n dX8_windowIn_31 rfl 1 rfl ?_
  obtain ⟨g4, h⟩ := h
  refine Z_aald (s1 := 17) (i1 := (6 * 2 + p1.toNatClampNeg)) (n := 6) (t := 6) rfl (by decide) g4 rfl (fun z => zref_ok_16 g4 z) dX8_windowIn_32 ?_
  refine Z_getI zfl_X8_189 dX8_windowIn_33 ?_
  exact Z_iret rfl rfl dX8_windowIn_36 (zle rfl) (zle rfl) ⟨_, rfl, h⟩
-- X8_load
set_option maxRecDepth 100000 in
set_option maxHeartbeats 4000000 in
theorem zm_X8_load {l : Launch} {G : zG} {mc ms : Nat} {M : zM} {Kf : Int32 → zM → Prop} (h : ((∃ mc1 ms2 : Nat, (0 + mc1) ≤ mc ∧ (0 + ms2) ≤ ms ∧ zCalI l G Y_X7_readAll mc1 ms2 [vr 3 0] M (fun x4 M3 => (((0 + mc1) ≤ mc ∧ (0 + ms2) ≤ ms ∧ zCalV l G Y_X4_empty 0 0 [vr 1 0] M3 (fun M5 => ((¬ x4 = 0 → (((0 + mc1) ≤ mc ∧ (0 + ms2) ≤ ms ∧ zCalV l G Y_X5_copyFrom 0 0 [vr 15 1, vr 15 0] M5 (fun M6 => (((0 + mc1) ≤ mc ∧ (0 + ms2) ≤ ms ∧ zCalV l G Y_X2_forget 0 0 [vr 10 0] M6 (fun M7 => zAt l G Y_X8_load (zEM G Y_X8_load mc ms (zKI Kf, none)) 53 [(0, vr 0 0), (2, vi 0)] [] M7 (0 + mc1) (0 + ms2)))))))) ∧ (x4 = 0 → ((0 + mc1) ≤ mc ∧ (0 + ms2) ≤ ms ∧ Kf ((-10) - (zmI M5 1 0 5)) M5)))))))))) : zCalI l G Y_X8_load mc ms [vr 0 0] M Kf := by
  refine zCal_of (lv := [(0, vr 0 0)]) (by decide) rfl (zle rfl) rfl (fun hv => zlv_args (lv := [(0, vr 0 0)]) rfl hv) ?_
  refine Z_aload_n dX8_load_0 rfl 0 rfl ?_
  refine Z_getR (s1 := 3) (i1 := 0) zfl_X8_21 rfl (fun q => by first | exact q | decide) dX8_load_1 ?_
  obtain ⟨mc1, ms2, hmM3, hnM3, h⟩ := h
  refine Z_callVI (as := []) zRm_M zcv_X8_load_X7_readAll_78 (ci := 11) rfl rfl rfl rfl (zle rfl) dX8_load_4 ⟨hmM3, hnM3⟩ h (fun x4 M3 h => ?_)
  refine Z_istore_n (lv2 := [(1, vi x4), (0, vr 0 0)]) dX8_load_7 rfl (by decide) rfl ?_
  refine Z_aload_n dX8_load_8 rfl 1 rfl ?_
  refine Z_getR (s1 := 1) (i1 := 0) zfl_X8_10 rfl (fun q => by first | exact q | decide) dX8_load_9 ?_
  obtain ⟨hcm, hkm, h⟩ := h
  refine Z_callVV (as := []) zRm_M zcv_X8_load_X4_empty_82 (ci := 8) rfl rfl rfl rfl (zle rfl) dX8_load_12 ⟨hcm, hkm⟩ h (fun M5 h => ?_)
  refine Z_iload_n dX8_load_15 rfl 0 rfl ?_
  refine Z_if_ne (tgt := 30) dX8_load_16 (by decide) (fun q => ?_) (fun q => ?_)
  · have h := h.1 q
    refine Z_aload_n dX8_load_30 rfl 1 rfl ?_
    refine Z_getR (s1 := 15) (i1 := 1) zfl_X8_28 rfl (fun q => by first | exact q | decide) dX8_load_31 ?_
    refine Z_aload_n dX8_load_34 rfl 1 rfl ?_
    refine Z_getR (s1 := 3) (i1 := 0) zfl_X8_21 rfl (fun q => by first | exact q | decide) dX8_load_35 ?_
    refine Z_getR (s1 := 15) (i1 := 0) zfl_X8_88 rfl (fun q => by first | exact q | decide) dX8_load_38 ?_
    obtain ⟨hcm, hkm, h⟩ := h
    refine Z_callVV (as := [vr 15 0]) zRm_M zcv_X8_load_X5_copyFrom_89 (ci := 9) rfl rfl rfl rfl (zle rfl) dX8_load_41 ⟨hcm, hkm⟩ h (fun M6 h => ?_)
    refine Z_aload_n dX8_load_44 rfl 1 rfl ?_
    refine Z_getR (s1 := 10) (i1 := 0) zfl_X8_47 rfl (fun q => by first | exact q | decide) dX8_load_45 ?_
    obtain ⟨hcm, hkm, h⟩ := h
    refine Z_callVV (as := []) zRm_M zcv_X8_load_X2_forget_93 (ci := 6) rfl rfl rfl rfl (zle rfl) dX8_load_48 ⟨hcm, hkm⟩ h (fun M7 h => ?_)
    refine Z_iconst (v := 0) (by decide) dX8_load_51 ?_
    refine Z_istore_n (lv2 := [(2, vi 0), (1, vi x4), (0, vr 0 0)]) dX8_load_52 rfl (by decide) rfl ?_
    exact Z_pick [2, 0] rfl h
  · have h := h.2 q
    refine Z_bipush (v := (-10)) (by decide) dX8_load_19 ?_
    refine Z_aload_n dX8_load_21 rfl 1 rfl ?_
    refine Z_getR (s1 := 1) (i1 := 0) zfl_X8_10 rfl (fun q => by first | exact q | decide) dX8_load_22 ?_
    refine Z_getI zfl_X8_85 dX8_load_25 ?_
    refine Z_isub dX8_load_28 ?_
    obtain ⟨hc, hk, h⟩ := h
    exact Z_iret rfl rfl dX8_load_29 hc hk ⟨_, rfl, h⟩
set_option maxRecDepth 100000 in
set_option maxHeartbeats 4000000 in
theorem zb_X8_load_53 {l : Launch} {G : zG} {y2 : Int32} {mc ms : Nat} {c k : Nat} {M : zM} {Kf : Int32 → zM → Prop} (h : ((2 ≤ y2 → (c ≤ mc ∧ k ≤ ms ∧ Kf (zmI M 15 1 12) M)) ∧ (¬ 2 ≤ y2 → (vp_in y2 2 ∧ zAt l G Y_X8_load (zEM G Y_X8_load mc ms (zKI Kf, none)) 53 [(0, vr 0 0), (2, vi (y2 + 1))] [] (zsI M 13 0 y2.toNatClampNeg 0) c k)))) : zAt l G Y_X8_load (zEM G Y_X8_load mc ms (zKI Kf, none)) 53 [(0, vr 0 0), (2, vi y2)] [] M c k := by
  refine Z_iload_n dX8_load_53 rfl 1 rfl ?_
  refine Z_aload_n dX8_load_54 rfl 0 rfl ?_
  refine Z_getR (s1 := 13) (i1 := 0) zfl_X8_55 rfl (fun q => by first | exact q | decide) dX8_load_55 ?_
  refine Z_alen (n := 2) (v := 2) rfl (by decide) (by decide) dX8_load_58 ?_
  refine Z_icmp_ge (tgt := 75) dX8_load_59 (by decide) (fun q => ?_) (fun q => ?_)
  · have h := h.1 q
    refine Z_aload_n dX8_load_75 rfl 0 rfl ?_
    refine Z_getR (s1 := 15) (i1 := 1) zfl_X8_28 rfl (fun q => by first | exact q | decide) dX8_load_76 ?_
    refine Z_getI zfl_X8_96 dX8_load_79 ?_
    obtain ⟨hc, hk, h⟩ := h
    exact Z_iret rfl rfl dX8_load_82 hc hk ⟨_, rfl, h⟩
  · have h := h.2 q
    refine Z_aload_n dX8_load_62 rfl 0 rfl ?_
    refine Z_getR (s1 := 13) (i1 := 0) zfl_X8_55 rfl (fun q => by first | exact q | decide) dX8_load_63 ?_
    refine Z_iload_n dX8_load_66 rfl 1 rfl ?_
    refine Z_iconst (v := 0) (by decide) dX8_load_67 ?_
    obtain ⟨g1, h⟩ := h
    refine Z_zast (n := 2) rfl g1 (by decide) dX8_load_68 ?_
    refine Z_iinc (v := (y2 + 1)) (lv2 := [(2, vi (y2 + 1)), (0, vr 0 0)]) dX8_load_69 1 rfl rfl (by decide) rfl ?_
    refine Z_goto (tgt := 53) dX8_load_72 (by decide) ?_
    exact Z_pick [1, 0] rfl h
-- X8_run
set_option maxRecDepth 100000 in
set_option maxHeartbeats 4000000 in
theorem zm_X8_run {l : Launch} {G : zG} {M : zM} {Kf : Int32 → zM → Prop} (h : (zCalI l G Y_X6_readAll 0 0 [vr 4 0] M (fun x2 M1 => (zCalV l G Y_X4_empty 0 0 [vr 1 0] M1 (fun M3 => ((¬ x2 = 0 → (zCalV l G Y_X2_keep 0 0 [vr 10 0, vr 15 1] M3 (fun M4 => (zCalI l G Y_X6_perform 0 0 [vr 4 0] M4 (fun x6 M5 => (Kf x6 M5)))))) ∧ (x2 = 0 → (Kf ((-10) - (zmI M3 1 0 5)) M3)))))))) : zCalI l G Y_X8_run 0 0 [vr 0 0] M Kf := by
  refine zCal_of (lv := [(0, vr 0 0)]) (by decide) rfl (zle rfl) rfl (fun hv => zlv_args (lv := [(0, vr 0 0)]) rfl hv) ?_
  refine Z_aload_n dX8_run_0 rfl 0 rfl ?_
  refine Z_getR (s1 := 4) (i1 := 0) zfl_X8_37 rfl (fun q => by first | exact q | decide) dX8_run_1 ?_
  refine Z_callVI (as := []) zRm_M zcv_X8_run_X6_readAll_99 (ci := 10) rfl rfl rfl rfl (zle rfl) dX8_run_4 ⟨Nat.le_refl _, Nat.le_refl _⟩ h (fun x2 M1 h => ?_)
  refine Z_istore_n (lv2 := [(1, vi x2), (0, vr 0 0)]) dX8_run_7 rfl (by decide) rfl ?_
  refine Z_aload_n dX8_run_8 rfl 1 rfl ?_
  refine Z_getR (s1 := 1) (i1 := 0) zfl_X8_10 rfl (fun q => by first | exact q | decide) dX8_run_9 ?_
  refine Z_callVV (as := []) zRm_M zcv_X8_run_X4_empty_82 (ci := 8) rfl rfl rfl rfl (zle rfl) dX8_run_12 ⟨Nat.le_refl _, Nat.le_refl _⟩ h (fun M3 h => ?_)
  refine Z_iload_n dX8_run_15 rfl 0 rfl ?_
  refine Z_if_ne (tgt := 30) dX8_run_16 (by decide) (fun q => ?_) (fun q => ?_)
  · have h := h.1 q
    refine Z_aload_n dX8_run_30 rfl 1 rfl ?_
    refine Z_getR (s1 := 10) (i1 := 0) zfl_X8_47 rfl (fun q => by first | exact q | decide) dX8_run_31 ?_
    refine Z_aload_n dX8_run_34 rfl 1 rfl ?_
    refine Z_getR (s1 := 15) (i1 := 1) zfl_X8_28 rfl (fun q => by first | exact q | decide) dX8_run_35 ?_
    refine Z_callVV (as := [vr 15 1]) zRm_M zcv_X8_run_X2_keep_100 (ci := 6) rfl rfl rfl rfl (zle rfl) dX8_run_38 ⟨Nat.le_refl _, Nat.le_refl _⟩ h (fun M4 h => ?_)
    refine Z_aload_n dX8_run_41 rfl 1 rfl ?_
    refine Z_getR (s1 := 4) (i1 := 0) zfl_X8_37 rfl (fun q => by first | exact q | decide) dX8_run_42 ?_
    refine Z_callVI (as := []) zRm_M zcv_X8_run_X6_perform_103 (ci := 10) rfl rfl rfl rfl (zle rfl) dX8_run_45 ⟨Nat.le_refl _, Nat.le_refl _⟩ h (fun x6 M5 h => ?_)
    exact Z_iret rfl rfl dX8_run_48 (Nat.le_refl _) (Nat.le_refl _) ⟨_, rfl, h⟩
  · have h := h.2 q
    refine Z_bipush (v := (-10)) (by decide) dX8_run_19 ?_
    refine Z_aload_n dX8_run_21 rfl 1 rfl ?_
    refine Z_getR (s1 := 1) (i1 := 0) zfl_X8_10 rfl (fun q => by first | exact q | decide) dX8_run_22 ?_
    refine Z_getI zfl_X8_85 dX8_run_25 ?_
    refine Z_isub dX8_run_28 ?_
    exact Z_iret rfl rfl dX8_run_29 (Nat.le_refl _) (Nat.le_refl _) ⟨_, rfl, h⟩
