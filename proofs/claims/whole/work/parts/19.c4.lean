/-! printed by wip/whole/drive.py -/
abbrev Y_X5_arriveAll : zY := (yX5_arriveAll, cX5_arriveAll, 5, (some .int), 19, [])
theorem zcv_X5_arriveAll_X5_hasFlow_95 : zLV Y_X5_arriveAll 95 Y_X5_hasFlow 1 RX5 := ⟨zw_889, zw_890, zw_891, zw_114, zw_892, by decide +kernel, by decide, by decide⟩
theorem zw_832 : Cond.methodLink RX5 154 yX5_arrive ∈ zAll := zin 832 (by decide +kernel) (by decide +kernel)
theorem zw_835 : Cond.code yX5_arrive cX5_arrive 7 (some .int) ∈ zAll := zin 835 (by decide +kernel) (by decide +kernel)
theorem zw_834 : Cond.instanceMethod yX5_arrive ∈ zAll := zin 834 (by decide +kernel) (by decide +kernel)
theorem zw_15 : Cond.selects RX5 yX5_arrive yX5_arrive ∈ zAll := zin 15 (by decide +kernel) (by decide +kernel)
theorem zcv_X5_arriveAll_X5_arrive_154 : zLV Y_X5_arriveAll 154 Y_X5_arrive 1 RX5 := ⟨zw_832, zw_834, zw_15, zw_114, zw_835, by decide +kernel, by decide, by decide⟩
abbrev Y_X5_passTick : zY := (yX5_passTick, cX5_passTick, 3, none, 19, [])
theorem zw_820 : Cond.methodLink RX5 157 yX1_sendsAt ∈ zAll := zin 820 (by decide +kernel) (by decide +kernel)
theorem zw_823 : Cond.code yX1_sendsAt cX1_sendsAt 2 (some .boolean) ∈ zAll := zin 823 (by decide +kernel) (by decide +kernel)
theorem zw_821 : Cond.instanceMethod yX1_sendsAt ∈ zAll := zin 821 (by decide +kernel) (by decide +kernel)
theorem zw_822 : Cond.selects RX1 yX1_sendsAt yX1_sendsAt ∈ zAll := zin 822 (by decide +kernel) (by decide +kernel)
theorem zcv_X5_passTick_X1_sendsAt_157 : zLV Y_X5_passTick 157 Y_X1_sendsAt 1 RX1 := ⟨zw_820, zw_821, zw_822, zw_117, zw_823, by decide +kernel, by decide, by decide⟩
theorem zw_824 : Cond.methodLink RX5 160 yX1_adapt ∈ zAll := zin 824 (by decide +kernel) (by decide +kernel)
theorem zw_827 : Cond.code yX1_adapt cX1_adapt 1 none ∈ zAll := zin 827 (by decide +kernel) (by decide +kernel)
theorem zw_825 : Cond.instanceMethod yX1_adapt ∈ zAll := zin 825 (by decide +kernel) (by decide +kernel)
theorem zw_826 : Cond.selects RX1 yX1_adapt yX1_adapt ∈ zAll := zin 826 (by decide +kernel) (by decide +kernel)
theorem zcv_X5_passTick_X1_adapt_160 : zLV Y_X5_passTick 160 Y_X1_adapt 0 RX1 := ⟨zw_824, zw_825, zw_826, zw_117, zw_827, by decide +kernel, by decide, by decide⟩
theorem zw_880 : Cond.methodLink RX5 166 Lib.Math.min.name ∈ zAll := zin 880 (by decide +kernel) (by decide +kernel)
theorem zw_881 : Cond.methodLink RX5 170 yX5_letLeave ∈ zAll := zin 881 (by decide +kernel) (by decide +kernel)
theorem zw_884 : Cond.code yX5_letLeave cX5_letLeave 4 none ∈ zAll := zin 884 (by decide +kernel) (by decide +kernel)
theorem zw_883 : Cond.instanceMethod yX5_letLeave ∈ zAll := zin 883 (by decide +kernel) (by decide +kernel)
theorem zw_18 : Cond.selects RX5 yX5_letLeave yX5_letLeave ∈ zAll := zin 18 (by decide +kernel) (by decide +kernel)
theorem zcv_X5_passTick_X5_letLeave_170 : zLV Y_X5_passTick 170 Y_X5_letLeave 1 RX5 := ⟨zw_881, zw_883, zw_18, zw_114, zw_884, by decide +kernel, by decide, by decide⟩
theorem zw_261 : Cond.fieldLink RX5 163 "EarlyDrops$Flow" "window" "I" ∈ zAll := zin 261 (by decide +kernel) (by decide +kernel)
theorem zfl_X5_163 : zFL RX5 163 17 7 0 := ⟨5, RX1, TX1, 11, rfl, rfl, by decide, rfl, zw_261, zws_X1⟩
theorem zcv_X5_passTick_X5_arrive_154 : zLV Y_X5_passTick 154 Y_X5_arrive 1 RX5 := ⟨zw_832, zw_834, zw_15, zw_114, zw_835, by decide +kernel, by decide, by decide⟩
abbrev Y_X7_readFlow : zY := (yX7_readFlow, cX7_readFlow, 3, none, 19, [])
theorem zw_335 : Cond.fieldLink RX7 97 "EarlyDrops$Router" "flowCount" "I" ∈ zAll := zin 335 (by decide +kernel) (by decide +kernel)
theorem zfl_X7_97 : zFL RX7 97 15 12 0 := ⟨9, RX5, TX5, 16, rfl, rfl, by decide, rfl, zw_335, zws_X5⟩
theorem zw_338 : Cond.fieldLink RX7 100 "EarlyDrops$Router" "flows" "[LEarlyDrops$Flow;" ∈ zAll := zin 338 (by decide +kernel) (by decide +kernel)
theorem zfl_X7_100 : zFL RX7 100 15 13 1 := ⟨9, RX5, TX5, 16, rfl, rfl, by decide, rfl, zw_338, zws_X5⟩
theorem zcv_X7_readFlow_X4_expect_41 : zLV Y_X7_readFlow 41 Y_X4_expect 1 RX4 := ⟨zw_604, zw_605, zw_606, zw_112, zw_607, by decide +kernel, by decide, by decide⟩
theorem zw_636 : Cond.methodLink RX7 104 yX7_newName ∈ zAll := zin 636 (by decide +kernel) (by decide +kernel)
theorem zw_639 : Cond.code yX7_newName cX7_newName 1 (some (.object "java/lang/String")) ∈ zAll := zin 639 (by decide +kernel) (by decide +kernel)
theorem zw_638 : Cond.instanceMethod yX7_newName ∈ zAll := zin 638 (by decide +kernel) (by decide +kernel)
theorem zw_6 : Cond.selects RX7 yX7_newName yX7_newName ∈ zAll := zin 6 (by decide +kernel) (by decide +kernel)
theorem zw_113 : Cond.initialized RX7 ∈ zAll := zin 113 (by decide +kernel) (by decide +kernel)
theorem zcv_X7_readFlow_X7_newName_104 : zLV Y_X7_readFlow 104 Y_X7_newName 0 RX7 := ⟨zw_636, zw_638, zw_6, zw_113, zw_639, by decide +kernel, by decide, by decide⟩
theorem zw_237 : Cond.fieldLink RX7 108 "EarlyDrops$Flow" "name" "Ljava/lang/String;" ∈ zAll := zin 237 (by decide +kernel) (by decide +kernel)
theorem zfp_X7_108 : zFP RX7 108 17 0 2 (.object "java/lang/String") := ⟨5, RX1, TX1, 11, tyX1, ⟨rfl, rfl, by decide, rfl, zw_237, zws_X1⟩, tyX1_ok, nmX1, rfl, by decide +kernel⟩
theorem zw_609 : Cond.methodLink RX7 44 yX4_number ∈ zAll := zin 609 (by decide +kernel) (by decide +kernel)
theorem zcv_X7_readFlow_X4_number_44 : zLV Y_X7_readFlow 44 Y_X4_number 2 RX4 := ⟨zw_609, zw_610, zw_611, zw_112, zw_612, by decide +kernel, by decide, by decide⟩
theorem zw_241 : Cond.fieldLink RX7 114 "EarlyDrops$Flow" "first" "I" ∈ zAll := zin 241 (by decide +kernel) (by decide +kernel)
theorem zfp_X7_114 : zFP RX7 114 17 1 0 .int := ⟨5, RX1, TX1, 11, tyX1, ⟨rfl, rfl, by decide, rfl, zw_241, zws_X1⟩, tyX1_ok, nmX1, rfl, by decide +kernel⟩
theorem zw_244 : Cond.fieldLink RX7 117 "EarlyDrops$Flow" "period" "I" ∈ zAll := zin 244 (by decide +kernel) (by decide +kernel)
theorem zfp_X7_117 : zFP RX7 117 17 2 0 .int := ⟨5, RX1, TX1, 11, tyX1, ⟨rfl, rfl, by decide, rfl, zw_244, zws_X1⟩, tyX1_ok, nmX1, rfl, by decide +kernel⟩
theorem zw_247 : Cond.fieldLink RX7 120 "EarlyDrops$Flow" "start" "I" ∈ zAll := zin 247 (by decide +kernel) (by decide +kernel)
theorem zfp_X7_120 : zFP RX7 120 17 3 0 .int := ⟨5, RX1, TX1, 11, tyX1, ⟨rfl, rfl, by decide, rfl, zw_247, zws_X1⟩, tyX1_ok, nmX1, rfl, by decide +kernel⟩
theorem zfl_X7_120 : zFL RX7 120 17 3 0 := ⟨5, RX1, TX1, 11, rfl, rfl, by decide, rfl, zw_247, zws_X1⟩
theorem zw_250 : Cond.fieldLink RX7 123 "EarlyDrops$Flow" "cap" "I" ∈ zAll := zin 250 (by decide +kernel) (by decide +kernel)
theorem zfp_X7_123 : zFP RX7 123 17 4 0 .int := ⟨5, RX1, TX1, 11, tyX1, ⟨rfl, rfl, by decide, rfl, zw_250, zws_X1⟩, tyX1_ok, nmX1, rfl, by decide +kernel⟩
theorem zw_549 : Cond.methodLink RX7 33 yX4_isWord ∈ zAll := zin 549 (by decide +kernel) (by decide +kernel)
theorem zcv_X7_readFlow_X4_isWord_33 : zLV Y_X7_readFlow 33 Y_X4_isWord 1 RX4 := ⟨zw_549, zw_550, zw_551, zw_112, zw_552, by decide +kernel, by decide, by decide⟩
theorem zw_253 : Cond.fieldLink RX7 128 "EarlyDrops$Flow" "marks" "Z" ∈ zAll := zin 253 (by decide +kernel) (by decide +kernel)
theorem zfp_X7_128 : zFP RX7 128 17 5 0 .boolean := ⟨5, RX1, TX1, 11, tyX1, ⟨rfl, rfl, by decide, rfl, zw_253, zws_X1⟩, tyX1_ok, nmX1, rfl, by decide +kernel⟩
theorem zfl_X7_128 : zFL RX7 128 17 5 0 := ⟨5, RX1, TX1, 11, rfl, rfl, by decide, rfl, zw_253, zws_X1⟩
theorem zcv_X7_readFlow_X4_fail_37 : zLV Y_X7_readFlow 37 Y_X4_fail 1 RX4 := ⟨zw_600, zw_601, zw_602, zw_112, zw_603, by decide +kernel, by decide, by decide⟩
theorem zw_706 : Cond.methodLink RX7 131 yX1_begin ∈ zAll := zin 706 (by decide +kernel) (by decide +kernel)
theorem zw_709 : Cond.code yX1_begin cX1_begin 1 none ∈ zAll := zin 709 (by decide +kernel) (by decide +kernel)
theorem zw_707 : Cond.instanceMethod yX1_begin ∈ zAll := zin 707 (by decide +kernel) (by decide +kernel)
theorem zw_708 : Cond.selects RX1 yX1_begin yX1_begin ∈ zAll := zin 708 (by decide +kernel) (by decide +kernel)
theorem zcv_X7_readFlow_X1_begin_131 : zLV Y_X7_readFlow 131 Y_X1_begin 0 RX1 := ⟨zw_706, zw_707, zw_708, zw_117, zw_709, by decide +kernel, by decide, by decide⟩
theorem zfp_X7_97 : zFP RX7 97 15 12 0 .int := ⟨9, RX5, TX5, 16, tyX5, ⟨rfl, rfl, by decide, rfl, zw_335, zws_X5⟩, tyX5_ok, nmX5, rfl, by decide +kernel⟩
abbrev Y_X5_passTicks : zY := (yX5_passTicks, cX5_passTicks, 3, (some .int), 20, [])
theorem zw_816 : Cond.methodLink RX5 183 yX5_passTick ∈ zAll := zin 816 (by decide +kernel) (by decide +kernel)
theorem zw_819 : Cond.code yX5_passTick cX5_passTick 3 none ∈ zAll := zin 819 (by decide +kernel) (by decide +kernel)
theorem zw_817 : Cond.instanceMethod yX5_passTick ∈ zAll := zin 817 (by decide +kernel) (by decide +kernel)
theorem zw_818 : Cond.selects RX5 yX5_passTick yX5_passTick ∈ zAll := zin 818 (by decide +kernel) (by decide +kernel)
theorem zcv_X5_passTicks_X5_passTick_183 : zLV Y_X5_passTicks 183 Y_X5_passTick 0 RX5 := ⟨zw_816, zw_817, zw_818, zw_114, zw_819, by decide +kernel, by decide, by decide⟩
abbrev Y_X7_readStatement : zY := (yX7_readStatement, cX7_readStatement, 1, none, 20, [])
theorem zcv_X7_readStatement_X4_isWord_33 : zLV Y_X7_readStatement 33 Y_X4_isWord 1 RX4 := ⟨zw_549, zw_550, zw_551, zw_112, zw_552, by decide +kernel, by decide, by decide⟩
theorem zcv_X7_readStatement_X4_fail_37 : zLV Y_X7_readStatement 37 Y_X4_fail 1 RX4 := ⟨zw_600, zw_601, zw_602, zw_112, zw_603, by decide +kernel, by decide, by decide⟩
theorem zw_632 : Cond.methodLink RX7 94 yX7_readFlow ∈ zAll := zin 632 (by decide +kernel) (by decide +kernel)
theorem zw_635 : Cond.code yX7_readFlow cX7_readFlow 3 none ∈ zAll := zin 635 (by decide +kernel) (by decide +kernel)
theorem zw_634 : Cond.instanceMethod yX7_readFlow ∈ zAll := zin 634 (by decide +kernel) (by decide +kernel)
theorem zw_5 : Cond.selects RX7 yX7_readFlow yX7_readFlow ∈ zAll := zin 5 (by decide +kernel) (by decide +kernel)
theorem zcv_X7_readStatement_X7_readFlow_94 : zLV Y_X7_readStatement 94 Y_X7_readFlow 0 RX7 := ⟨zw_632, zw_634, zw_5, zw_113, zw_635, by decide +kernel, by decide, by decide⟩
theorem zw_622 : Cond.methodLink RX7 65 yX7_readOnce ∈ zAll := zin 622 (by decide +kernel) (by decide +kernel)
theorem zw_625 : Cond.code yX7_readOnce cX7_readOnce 2 none ∈ zAll := zin 625 (by decide +kernel) (by decide +kernel)
theorem zw_624 : Cond.instanceMethod yX7_readOnce ∈ zAll := zin 624 (by decide +kernel) (by decide +kernel)
theorem zw_4 : Cond.selects RX7 yX7_readOnce yX7_readOnce ∈ zAll := zin 4 (by decide +kernel) (by decide +kernel)
theorem zcv_X7_readStatement_X7_readOnce_65 : zLV Y_X7_readStatement 65 Y_X7_readOnce 1 RX7 := ⟨zw_622, zw_624, zw_4, zw_113, zw_625, by decide +kernel, by decide, by decide⟩
theorem zcv_X7_readStatement_X4_number_44 : zLV Y_X7_readStatement 44 Y_X4_number 2 RX4 := ⟨zw_609, zw_610, zw_611, zw_112, zw_612, by decide +kernel, by decide, by decide⟩
theorem zw_330 : Cond.fieldLink RX7 89 "EarlyDrops$Router" "x" "I" ∈ zAll := zin 330 (by decide +kernel) (by decide +kernel)
theorem zfp_X7_89 : zFP RX7 89 15 10 0 .int := ⟨9, RX5, TX5, 16, tyX5, ⟨rfl, rfl, by decide, rfl, zw_330, zws_X5⟩, tyX5_ok, nmX5, rfl, by decide +kernel⟩
theorem zw_321 : Cond.fieldLink RX7 85 "EarlyDrops$Router" "gentle" "I" ∈ zAll := zin 321 (by decide +kernel) (by decide +kernel)
theorem zfp_X7_85 : zFP RX7 85 15 6 0 .int := ⟨9, RX5, TX5, 16, tyX5, ⟨rfl, rfl, by decide, rfl, zw_321, zws_X5⟩, tyX5_ok, nmX5, rfl, by decide +kernel⟩
theorem zw_318 : Cond.fieldLink RX7 81 "EarlyDrops$Router" "weight" "I" ∈ zAll := zin 318 (by decide +kernel) (by decide +kernel)
theorem zfp_X7_81 : zFP RX7 81 15 5 0 .int := ⟨9, RX5, TX5, 16, tyX5, ⟨rfl, rfl, by decide, rfl, zw_318, zws_X5⟩, tyX5_ok, nmX5, rfl, by decide +kernel⟩
theorem zw_627 : Cond.constant RX7 76 65536 ∈ zAll := zin 627 (by decide +kernel) (by decide +kernel)
theorem zw_315 : Cond.fieldLink RX7 77 "EarlyDrops$Router" "top" "I" ∈ zAll := zin 315 (by decide +kernel) (by decide +kernel)
theorem zfp_X7_77 : zFP RX7 77 15 4 0 .int := ⟨9, RX5, TX5, 16, tyX5, ⟨rfl, rfl, by decide, rfl, zw_315, zws_X5⟩, tyX5_ok, nmX5, rfl, by decide +kernel⟩
theorem zw_309 : Cond.fieldLink RX7 68 "EarlyDrops$Router" "min" "I" ∈ zAll := zin 309 (by decide +kernel) (by decide +kernel)
theorem zfp_X7_68 : zFP RX7 68 15 2 0 .int := ⟨9, RX5, TX5, 16, tyX5, ⟨rfl, rfl, by decide, rfl, zw_309, zws_X5⟩, tyX5_ok, nmX5, rfl, by decide +kernel⟩
theorem zfl_X7_68 : zFL RX7 68 15 2 0 := ⟨9, RX5, TX5, 16, rfl, rfl, by decide, rfl, zw_309, zws_X5⟩
theorem zw_312 : Cond.fieldLink RX7 71 "EarlyDrops$Router" "max" "I" ∈ zAll := zin 312 (by decide +kernel) (by decide +kernel)
theorem zfp_X7_71 : zFP RX7 71 15 3 0 .int := ⟨9, RX5, TX5, 16, tyX5, ⟨rfl, rfl, by decide, rfl, zw_312, zws_X5⟩, tyX5_ok, nmX5, rfl, by decide +kernel⟩
abbrev Y_X6_doOrder : zY := (yX6_doOrder, cX6_doOrder, 4, (some .int), 21, [])
theorem zw_812 : Cond.methodLink RX6 126 yX5_passTicks ∈ zAll := zin 812 (by decide +kernel) (by decide +kernel)
theorem zw_815 : Cond.code yX5_passTicks cX5_passTicks 3 (some .int) ∈ zAll := zin 815 (by decide +kernel) (by decide +kernel)
theorem zw_813 : Cond.instanceMethod yX5_passTicks ∈ zAll := zin 813 (by decide +kernel) (by decide +kernel)
theorem zw_814 : Cond.selects RX5 yX5_passTicks yX5_passTicks ∈ zAll := zin 814 (by decide +kernel) (by decide +kernel)
theorem zcv_X6_doOrder_X5_passTicks_126 : zLV Y_X6_doOrder 126 Y_X5_passTicks 1 RX5 := ⟨zw_812, zw_813, zw_814, zw_114, zw_815, by decide +kernel, by decide, by decide⟩
theorem zw_901 : Cond.methodLink RX6 131 yX5_arriveAll ∈ zAll := zin 901 (by decide +kernel) (by decide +kernel)
theorem zw_904 : Cond.code yX5_arriveAll cX5_arriveAll 5 (some .int) ∈ zAll := zin 904 (by decide +kernel) (by decide +kernel)
theorem zw_902 : Cond.instanceMethod yX5_arriveAll ∈ zAll := zin 902 (by decide +kernel) (by decide +kernel)
theorem zw_903 : Cond.selects RX5 yX5_arriveAll yX5_arriveAll ∈ zAll := zin 903 (by decide +kernel) (by decide +kernel)
theorem zcv_X6_doOrder_X5_arriveAll_131 : zLV Y_X6_doOrder 131 Y_X5_arriveAll 2 RX5 := ⟨zw_901, zw_902, zw_903, zw_114, zw_904, by decide +kernel, by decide, by decide⟩
theorem zw_905 : Cond.methodLink RX6 134 yX5_changeLimits ∈ zAll := zin 905 (by decide +kernel) (by decide +kernel)
theorem zw_908 : Cond.code yX5_changeLimits cX5_changeLimits 4 (some .int) ∈ zAll := zin 908 (by decide +kernel) (by decide +kernel)
theorem zw_906 : Cond.instanceMethod yX5_changeLimits ∈ zAll := zin 906 (by decide +kernel) (by decide +kernel)
theorem zw_907 : Cond.selects RX5 yX5_changeLimits yX5_changeLimits ∈ zAll := zin 907 (by decide +kernel) (by decide +kernel)
theorem zcv_X6_doOrder_X5_changeLimits_134 : zLV Y_X6_doOrder 134 Y_X5_changeLimits 2 RX5 := ⟨zw_905, zw_906, zw_907, zw_114, zw_908, by decide +kernel, by decide, by decide⟩
theorem zw_909 : Cond.methodLink RX6 137 yX5_changeTop ∈ zAll := zin 909 (by decide +kernel) (by decide +kernel)
theorem zw_912 : Cond.code yX5_changeTop cX5_changeTop 3 (some .int) ∈ zAll := zin 912 (by decide +kernel) (by decide +kernel)
theorem zw_910 : Cond.instanceMethod yX5_changeTop ∈ zAll := zin 910 (by decide +kernel) (by decide +kernel)
theorem zw_911 : Cond.selects RX5 yX5_changeTop yX5_changeTop ∈ zAll := zin 911 (by decide +kernel) (by decide +kernel)
theorem zcv_X6_doOrder_X5_changeTop_137 : zLV Y_X6_doOrder 137 Y_X5_changeTop 1 RX5 := ⟨zw_909, zw_910, zw_911, zw_114, zw_912, by decide +kernel, by decide, by decide⟩
theorem zw_913 : Cond.methodLink RX6 140 yX5_changeWeight ∈ zAll := zin 913 (by decide +kernel) (by decide +kernel)
theorem zw_916 : Cond.code yX5_changeWeight cX5_changeWeight 3 (some .int) ∈ zAll := zin 916 (by decide +kernel) (by decide +kernel)
theorem zw_914 : Cond.instanceMethod yX5_changeWeight ∈ zAll := zin 914 (by decide +kernel) (by decide +kernel)
theorem zw_915 : Cond.selects RX5 yX5_changeWeight yX5_changeWeight ∈ zAll := zin 915 (by decide +kernel) (by decide +kernel)
theorem zcv_X6_doOrder_X5_changeWeight_140 : zLV Y_X6_doOrder 140 Y_X5_changeWeight 1 RX5 := ⟨zw_913, zw_914, zw_915, zw_114, zw_916, by decide +kernel, by decide, by decide⟩
theorem zw_917 : Cond.methodLink RX6 143 yX5_changeGentle ∈ zAll := zin 917 (by decide +kernel) (by decide +kernel)
theorem zw_920 : Cond.code yX5_changeGentle cX5_changeGentle 3 (some .int) ∈ zAll := zin 920 (by decide +kernel) (by decide +kernel)
theorem zw_918 : Cond.instanceMethod yX5_changeGentle ∈ zAll := zin 918 (by decide +kernel) (by decide +kernel)
theorem zw_919 : Cond.selects RX5 yX5_changeGentle yX5_changeGentle ∈ zAll := zin 919 (by decide +kernel) (by decide +kernel)
theorem zcv_X6_doOrder_X5_changeGentle_143 : zLV Y_X6_doOrder 143 Y_X5_changeGentle 1 RX5 := ⟨zw_917, zw_918, zw_919, zw_114, zw_920, by decide +kernel, by decide, by decide⟩
theorem zw_921 : Cond.methodLink RX6 146 yX5_changeOn ∈ zAll := zin 921 (by decide +kernel) (by decide +kernel)
theorem zw_924 : Cond.code yX5_changeOn cX5_changeOn 3 (some .int) ∈ zAll := zin 924 (by decide +kernel) (by decide +kernel)
theorem zw_922 : Cond.instanceMethod yX5_changeOn ∈ zAll := zin 922 (by decide +kernel) (by decide +kernel)
theorem zw_923 : Cond.selects RX5 yX5_changeOn yX5_changeOn ∈ zAll := zin 923 (by decide +kernel) (by decide +kernel)
theorem zcv_X6_doOrder_X5_changeOn_146 : zLV Y_X6_doOrder 146 Y_X5_changeOn 2 RX5 := ⟨zw_921, zw_922, zw_923, zw_114, zw_924, by decide +kernel, by decide, by decide⟩
abbrev Y_X7_readAll : zY := (yX7_readAll, cX7_readAll, 2, (some .boolean), 21, [])
theorem zw_528 : Cond.methodLink RX7 26 yX5_begin ∈ zAll := zin 528 (by decide +kernel) (by decide +kernel)
theorem zw_297 : Cond.code yX5_begin cX5_begin 1 none ∈ zAll := zin 297 (by decide +kernel) (by decide +kernel)
theorem zw_295 : Cond.instanceMethod yX5_begin ∈ zAll := zin 295 (by decide +kernel) (by decide +kernel)
theorem zw_296 : Cond.selects RX5 yX5_begin yX5_begin ∈ zAll := zin 296 (by decide +kernel) (by decide +kernel)
theorem zcv_X7_readAll_X5_begin_26 : zLV Y_X7_readAll 26 Y_X5_begin 0 RX5 := ⟨zw_528, zw_295, zw_296, zw_114, zw_297, by decide +kernel, by decide, by decide⟩
theorem zw_529 : Cond.methodLink RX7 29 yX4_begin ∈ zAll := zin 529 (by decide +kernel) (by decide +kernel)
theorem zcv_X7_readAll_X4_begin_29 : zLV Y_X7_readAll 29 Y_X4_begin 0 RX4 := ⟨zw_529, zw_530, zw_531, zw_112, zw_532, by decide +kernel, by decide, by decide⟩
theorem zcv_X7_readAll_X4_isWord_33 : zLV Y_X7_readAll 33 Y_X4_isWord 1 RX4 := ⟨zw_549, zw_550, zw_551, zw_112, zw_552, by decide +kernel, by decide, by decide⟩
theorem zcv_X7_readAll_X4_fail_37 : zLV Y_X7_readAll 37 Y_X4_fail 1 RX4 := ⟨zw_600, zw_601, zw_602, zw_112, zw_603, by decide +kernel, by decide, by decide⟩
theorem zcv_X7_readAll_X4_expect_41 : zLV Y_X7_readAll 41 Y_X4_expect 1 RX4 := ⟨zw_604, zw_605, zw_606, zw_112, zw_607, by decide +kernel, by decide, by decide⟩
theorem zcv_X7_readAll_X4_number_44 : zLV Y_X7_readAll 44 Y_X4_number 2 RX4 := ⟨zw_609, zw_610, zw_611, zw_112, zw_612, by decide +kernel, by decide, by decide⟩
theorem zw_303 : Cond.fieldLink RX7 48 "EarlyDrops$Router" "limit" "I" ∈ zAll := zin 303 (by decide +kernel) (by decide +kernel)
theorem zfp_X7_48 : zFP RX7 48 15 0 0 .int := ⟨9, RX5, TX5, 16, tyX5, ⟨rfl, rfl, by decide, rfl, zw_303, zws_X5⟩, tyX5_ok, nmX5, rfl, by decide +kernel⟩
theorem zw_306 : Cond.fieldLink RX7 51 "EarlyDrops$Router" "rate" "I" ∈ zAll := zin 306 (by decide +kernel) (by decide +kernel)
theorem zfp_X7_51 : zFP RX7 51 15 1 0 .int := ⟨9, RX5, TX5, 16, tyX5, ⟨rfl, rfl, by decide, rfl, zw_306, zws_X5⟩, tyX5_ok, nmX5, rfl, by decide +kernel⟩
theorem zw_163 : Cond.fieldLink RX7 54 "EarlyDrops$Reader" "error" "I" ∈ zAll := zin 163 (by decide +kernel) (by decide +kernel)
theorem zfl_X7_54 : zFL RX7 54 1 5 0 := ⟨8, RX4, TX4, 7, rfl, rfl, by decide, rfl, zw_163, zws_X4⟩
theorem zw_158 : Cond.fieldLink RX7 57 "EarlyDrops$Reader" "kind" "I" ∈ zAll := zin 158 (by decide +kernel) (by decide +kernel)
theorem zfl_X7_57 : zFL RX7 57 1 2 0 := ⟨8, RX4, TX4, 7, rfl, rfl, by decide, rfl, zw_158, zws_X4⟩
theorem zw_617 : Cond.methodLink RX7 60 yX7_readStatement ∈ zAll := zin 617 (by decide +kernel) (by decide +kernel)
theorem zw_620 : Cond.code yX7_readStatement cX7_readStatement 1 none ∈ zAll := zin 620 (by decide +kernel) (by decide +kernel)
theorem zw_619 : Cond.instanceMethod yX7_readStatement ∈ zAll := zin 619 (by decide +kernel) (by decide +kernel)
theorem zw_3 : Cond.selects RX7 yX7_readStatement yX7_readStatement ∈ zAll := zin 3 (by decide +kernel) (by decide +kernel)
theorem zcv_X7_readAll_X7_readStatement_60 : zLV Y_X7_readAll 60 Y_X7_readStatement 0 RX7 := ⟨zw_617, zw_619, zw_3, zw_113, zw_620, by decide +kernel, by decide, by decide⟩
abbrev Y_X6_perform : zY := (yX6_perform, cX6_perform, 4, (some .int), 22, [])
theorem zw_803 : Cond.constant RX6 118 1000000 ∈ zAll := zin 803 (by decide +kernel) (by decide +kernel)
theorem zw_808 : Cond.methodLink RX6 123 yX6_doOrder ∈ zAll := zin 808 (by decide +kernel) (by decide +kernel)
theorem zw_811 : Cond.code yX6_doOrder cX6_doOrder 4 (some .int) ∈ zAll := zin 811 (by decide +kernel) (by decide +kernel)
theorem zw_810 : Cond.instanceMethod yX6_doOrder ∈ zAll := zin 810 (by decide +kernel) (by decide +kernel)
theorem zw_14 : Cond.selects RX6 yX6_doOrder yX6_doOrder ∈ zAll := zin 14 (by decide +kernel) (by decide +kernel)
theorem zcv_X6_perform_X6_doOrder_123 : zLV Y_X6_perform 123 Y_X6_doOrder 1 RX6 := ⟨zw_808, zw_810, zw_14, zw_118, zw_811, by decide +kernel, by decide, by decide⟩
theorem zw_804 : Cond.methodLink RX6 119 yX6_rowBehind ∈ zAll := zin 804 (by decide +kernel) (by decide +kernel)
theorem zw_807 : Cond.code yX6_rowBehind cX6_rowBehind 3 (some .int) ∈ zAll := zin 807 (by decide +kernel) (by decide +kernel)
theorem zw_806 : Cond.instanceMethod yX6_rowBehind ∈ zAll := zin 806 (by decide +kernel) (by decide +kernel)
theorem zw_13 : Cond.selects RX6 yX6_rowBehind yX6_rowBehind ∈ zAll := zin 13 (by decide +kernel) (by decide +kernel)
theorem zcv_X6_perform_X6_rowBehind_119 : zLV Y_X6_perform 119 Y_X6_rowBehind 1 RX6 := ⟨zw_804, zw_806, zw_13, zw_118, zw_807, by decide +kernel, by decide, by decide⟩
theorem dX5_arriveAll_0 : decode cX5_arriveAll 0 = .ok (.iconst 0, 1) := by decide +kernel
theorem dX5_arriveAll_1 : decode cX5_arriveAll 1 = .ok (.istore_n 3, 1) := by decide +kernel
theorem dX5_arriveAll_2 : decode cX5_arriveAll 2 = .ok (.iconst 0, 1) := by decide +kernel
theorem dX5_arriveAll_3 : decode cX5_arriveAll 3 = .ok (.istore 4, 2) := by decide +kernel
theorem dX5_arriveAll_5 : decode cX5_arriveAll 5 = .ok (.iload 4, 2) := by decide +kernel
theorem dX5_arriveAll_7 : decode cX5_arriveAll 7 = .ok (.iload_n 2, 1) := by decide +kernel
theorem dX5_arriveAll_8 : decode cX5_arriveAll 8 = .ok (.if_icmp .ge 29, 3) := by decide +kernel
theorem dX5_arriveAll_11 : decode cX5_arriveAll 11 = .ok (.aload_n 0, 1) := by decide +kernel
theorem dX5_arriveAll_12 : decode cX5_arriveAll 12 = .ok (.iload_n 1, 1) := by decide +kernel
theorem dX5_arriveAll_13 : decode cX5_arriveAll 13 = .ok (.invokevirtual 95, 3) := by decide +kernel
theorem dX5_arriveAll_16 : decode cX5_arriveAll 16 = .ok (.ifCond .eq 21, 3) := by decide +kernel
theorem dX5_arriveAll_19 : decode cX5_arriveAll 19 = .ok (.aload_n 0, 1) := by decide +kernel
theorem dX5_arriveAll_20 : decode cX5_arriveAll 20 = .ok (.iload_n 1, 1) := by decide +kernel
theorem dX5_arriveAll_21 : decode cX5_arriveAll 21 = .ok (.invokevirtual 154, 3) := by decide +kernel
theorem dX5_arriveAll_24 : decode cX5_arriveAll 24 = .ok (.iconst 2, 1) := by decide +kernel
theorem dX5_arriveAll_25 : decode cX5_arriveAll 25 = .ok (.if_icmp .eq 6, 3) := by decide +kernel
theorem dX5_arriveAll_28 : decode cX5_arriveAll 28 = .ok (.iinc 3 1, 3) := by decide +kernel
theorem dX5_arriveAll_31 : decode cX5_arriveAll 31 = .ok (.iinc 4 1, 3) := by decide +kernel
theorem dX5_arriveAll_34 : decode cX5_arriveAll 34 = .ok (.goto (-29), 3) := by decide +kernel
theorem dX5_arriveAll_37 : decode cX5_arriveAll 37 = .ok (.iload_n 3, 1) := by decide +kernel
theorem dX5_arriveAll_38 : decode cX5_arriveAll 38 = .ok (.ireturn, 1) := by decide +kernel
theorem dX5_passTick_0 : decode cX5_passTick 0 = .ok (.aload_n 0, 1) := by decide +kernel
theorem dX5_passTick_1 : decode cX5_passTick 1 = .ok (.dup, 1) := by decide +kernel
theorem dX5_passTick_2 : decode cX5_passTick 2 = .ok (.getfield 57, 3) := by decide +kernel
theorem dX5_passTick_5 : decode cX5_passTick 5 = .ok (.iconst 1, 1) := by decide +kernel
theorem dX5_passTick_6 : decode cX5_passTick 6 = .ok (.iadd, 1) := by decide +kernel
theorem dX5_passTick_7 : decode cX5_passTick 7 = .ok (.putfield 57, 3) := by decide +kernel
theorem dX5_passTick_10 : decode cX5_passTick 10 = .ok (.iconst 0, 1) := by decide +kernel
theorem dX5_passTick_11 : decode cX5_passTick 11 = .ok (.istore_n 1, 1) := by decide +kernel
theorem dX5_passTick_12 : decode cX5_passTick 12 = .ok (.iload_n 1, 1) := by decide +kernel
theorem dX5_passTick_13 : decode cX5_passTick 13 = .ok (.aload_n 0, 1) := by decide +kernel
theorem dX5_passTick_14 : decode cX5_passTick 14 = .ok (.getfield 73, 3) := by decide +kernel
theorem dX5_passTick_17 : decode cX5_passTick 17 = .ok (.if_icmp .ge 67, 3) := by decide +kernel
theorem dX5_passTick_20 : decode cX5_passTick 20 = .ok (.iload_n 1, 1) := by decide +kernel
theorem dX5_passTick_21 : decode cX5_passTick 21 = .ok (.bipush 6, 2) := by decide +kernel
theorem dX5_passTick_23 : decode cX5_passTick 23 = .ok (.if_icmp .ge 61, 3) := by decide +kernel
theorem dX5_passTick_26 : decode cX5_passTick 26 = .ok (.aload_n 0, 1) := by decide +kernel
theorem dX5_passTick_27 : decode cX5_passTick 27 = .ok (.getfield 11, 3) := by decide +kernel
theorem dX5_passTick_30 : decode cX5_passTick 30 = .ok (.iload_n 1, 1) := by decide +kernel
theorem dX5_passTick_31 : decode cX5_passTick 31 = .ok (.aaload, 1) := by decide +kernel
theorem dX5_passTick_32 : decode cX5_passTick 32 = .ok (.aload_n 0, 1) := by decide +kernel
theorem dX5_passTick_33 : decode cX5_passTick 33 = .ok (.getfield 57, 3) := by decide +kernel
theorem dX5_passTick_36 : decode cX5_passTick 36 = .ok (.invokevirtual 157, 3) := by decide +kernel
theorem dX5_passTick_39 : decode cX5_passTick 39 = .ok (.ifCond .eq 39, 3) := by decide +kernel
theorem dX5_passTick_42 : decode cX5_passTick 42 = .ok (.aload_n 0, 1) := by decide +kernel
theorem dX5_passTick_43 : decode cX5_passTick 43 = .ok (.getfield 11, 3) := by decide +kernel
theorem dX5_passTick_46 : decode cX5_passTick 46 = .ok (.iload_n 1, 1) := by decide +kernel
theorem dX5_passTick_47 : decode cX5_passTick 47 = .ok (.aaload, 1) := by decide +kernel
theorem dX5_passTick_48 : decode cX5_passTick 48 = .ok (.invokevirtual 160, 3) := by decide +kernel
theorem dX5_passTick_51 : decode cX5_passTick 51 = .ok (.iconst 0, 1) := by decide +kernel
theorem dX5_passTick_52 : decode cX5_passTick 52 = .ok (.istore_n 2, 1) := by decide +kernel
theorem dX5_passTick_53 : decode cX5_passTick 53 = .ok (.iload_n 2, 1) := by decide +kernel
theorem dX5_passTick_54 : decode cX5_passTick 54 = .ok (.aload_n 0, 1) := by decide +kernel
theorem dX5_passTick_55 : decode cX5_passTick 55 = .ok (.getfield 11, 3) := by decide +kernel
theorem dX5_passTick_58 : decode cX5_passTick 58 = .ok (.iload_n 1, 1) := by decide +kernel
theorem dX5_passTick_59 : decode cX5_passTick 59 = .ok (.aaload, 1) := by decide +kernel
theorem dX5_passTick_60 : decode cX5_passTick 60 = .ok (.getfield 163, 3) := by decide +kernel
theorem dX5_passTick_63 : decode cX5_passTick 63 = .ok (.if_icmp .ge 15, 3) := by decide +kernel
theorem dX5_passTick_66 : decode cX5_passTick 66 = .ok (.aload_n 0, 1) := by decide +kernel
theorem dX5_passTick_67 : decode cX5_passTick 67 = .ok (.iload_n 1, 1) := by decide +kernel
theorem dX5_passTick_68 : decode cX5_passTick 68 = .ok (.invokevirtual 154, 3) := by decide +kernel
theorem dX5_passTick_71 : decode cX5_passTick 71 = .ok (.pop, 1) := by decide +kernel
theorem dX5_passTick_72 : decode cX5_passTick 72 = .ok (.iinc 2 1, 3) := by decide +kernel
theorem dX5_passTick_75 : decode cX5_passTick 75 = .ok (.goto (-22), 3) := by decide +kernel
theorem dX5_passTick_78 : decode cX5_passTick 78 = .ok (.iinc 1 1, 3) := by decide +kernel
theorem dX5_passTick_81 : decode cX5_passTick 81 = .ok (.goto (-69), 3) := by decide +kernel
theorem dX5_passTick_84 : decode cX5_passTick 84 = .ok (.aload_n 0, 1) := by decide +kernel
theorem dX5_passTick_85 : decode cX5_passTick 85 = .ok (.aload_n 0, 1) := by decide +kernel
theorem dX5_passTick_86 : decode cX5_passTick 86 = .ok (.getfield 39, 3) := by decide +kernel
theorem dX5_passTick_89 : decode cX5_passTick 89 = .ok (.aload_n 0, 1) := by decide +kernel
theorem dX5_passTick_90 : decode cX5_passTick 90 = .ok (.getfield 20, 3) := by decide +kernel
theorem dX5_passTick_93 : decode cX5_passTick 93 = .ok (.getfield 76, 3) := by decide +kernel
theorem dX5_passTick_96 : decode cX5_passTick 96 = .ok (.invokestatic 166, 3) := by decide +kernel
theorem dX5_passTick_99 : decode cX5_passTick 99 = .ok (.invokevirtual 170, 3) := by decide +kernel
theorem dX5_passTick_102 : decode cX5_passTick 102 = .ok (.aload_n 0, 1) := by decide +kernel
theorem dX5_passTick_103 : decode cX5_passTick 103 = .ok (.getfield 20, 3) := by decide +kernel
theorem dX5_passTick_106 : decode cX5_passTick 106 = .ok (.getfield 76, 3) := by decide +kernel
theorem dX5_passTick_109 : decode cX5_passTick 109 = .ok (.ifCond .ne 21, 3) := by decide +kernel
theorem dX5_passTick_112 : decode cX5_passTick 112 = .ok (.aload_n 0, 1) := by decide +kernel
theorem dX5_passTick_113 : decode cX5_passTick 113 = .ok (.dup, 1) := by decide +kernel
theorem dX5_passTick_114 : decode cX5_passTick 114 = .ok (.getfield 60, 3) := by decide +kernel
theorem dX5_passTick_117 : decode cX5_passTick 117 = .ok (.aload_n 0, 1) := by decide +kernel
theorem dX5_passTick_118 : decode cX5_passTick 118 = .ok (.getfield 60, 3) := by decide +kernel
theorem dX5_passTick_121 : decode cX5_passTick 121 = .ok (.aload_n 0, 1) := by decide +kernel
theorem dX5_passTick_122 : decode cX5_passTick 122 = .ok (.getfield 51, 3) := by decide +kernel
theorem dX5_passTick_125 : decode cX5_passTick 125 = .ok (.ishr, 1) := by decide +kernel
theorem dX5_passTick_126 : decode cX5_passTick 126 = .ok (.isub, 1) := by decide +kernel
theorem dX5_passTick_127 : decode cX5_passTick 127 = .ok (.putfield 60, 3) := by decide +kernel
theorem dX5_passTick_130 : decode cX5_passTick 130 = .ok (.return_, 1) := by decide +kernel
theorem dX5_passTicks_0 : decode cX5_passTicks 0 = .ok (.aload_n 0, 1) := by decide +kernel
theorem dX5_passTicks_1 : decode cX5_passTicks 1 = .ok (.getfield 57, 3) := by decide +kernel
theorem dX5_passTicks_4 : decode cX5_passTicks 4 = .ok (.iload_n 1, 1) := by decide +kernel
theorem dX5_passTicks_5 : decode cX5_passTicks 5 = .ok (.iadd, 1) := by decide +kernel
theorem dX5_passTicks_6 : decode cX5_passTicks 6 = .ok (.sipush 9999, 3) := by decide +kernel
theorem dX5_passTicks_9 : decode cX5_passTicks 9 = .ok (.if_icmp .le 6, 3) := by decide +kernel
theorem dX5_passTicks_12 : decode cX5_passTicks 12 = .ok (.bipush (-2), 2) := by decide +kernel
theorem dX5_passTicks_14 : decode cX5_passTicks 14 = .ok (.ireturn, 1) := by decide +kernel
theorem dX5_passTicks_15 : decode cX5_passTicks 15 = .ok (.iconst 0, 1) := by decide +kernel
theorem dX5_passTicks_16 : decode cX5_passTicks 16 = .ok (.istore_n 2, 1) := by decide +kernel
theorem dX5_passTicks_17 : decode cX5_passTicks 17 = .ok (.iload_n 2, 1) := by decide +kernel
theorem dX5_passTicks_18 : decode cX5_passTicks 18 = .ok (.iload_n 1, 1) := by decide +kernel
theorem dX5_passTicks_19 : decode cX5_passTicks 19 = .ok (.if_icmp .ge 13, 3) := by decide +kernel
theorem dX5_passTicks_22 : decode cX5_passTicks 22 = .ok (.aload_n 0, 1) := by decide +kernel
theorem dX5_passTicks_23 : decode cX5_passTicks 23 = .ok (.invokevirtual 183, 3) := by decide +kernel
theorem dX5_passTicks_26 : decode cX5_passTicks 26 = .ok (.iinc 2 1, 3) := by decide +kernel
theorem dX5_passTicks_29 : decode cX5_passTicks 29 = .ok (.goto (-12), 3) := by decide +kernel
theorem dX5_passTicks_32 : decode cX5_passTicks 32 = .ok (.aload_n 0, 1) := by decide +kernel
theorem dX5_passTicks_33 : decode cX5_passTicks 33 = .ok (.getfield 57, 3) := by decide +kernel
theorem dX5_passTicks_36 : decode cX5_passTicks 36 = .ok (.ireturn, 1) := by decide +kernel
theorem dX6_perform_0 : decode cX6_perform 0 = .ok (.iconst 0, 1) := by decide +kernel
theorem dX6_perform_1 : decode cX6_perform 1 = .ok (.istore_n 1, 1) := by decide +kernel
theorem dX6_perform_2 : decode cX6_perform 2 = .ok (.iconst 0, 1) := by decide +kernel
theorem dX6_perform_3 : decode cX6_perform 3 = .ok (.istore_n 2, 1) := by decide +kernel
theorem dX6_perform_4 : decode cX6_perform 4 = .ok (.iconst 0, 1) := by decide +kernel
theorem dX6_perform_5 : decode cX6_perform 5 = .ok (.istore_n 3, 1) := by decide +kernel
theorem dX6_perform_6 : decode cX6_perform 6 = .ok (.iload_n 3, 1) := by decide +kernel
theorem dX6_perform_7 : decode cX6_perform 7 = .ok (.ldc 118, 2) := by decide +kernel
theorem dX6_perform_9 : decode cX6_perform 9 = .ok (.if_icmp .ge 74, 3) := by decide +kernel
theorem dX6_perform_12 : decode cX6_perform 12 = .ok (.iload_n 2, 1) := by decide +kernel
theorem dX6_perform_13 : decode cX6_perform 13 = .ok (.ifCond .lt 70, 3) := by decide +kernel
theorem dX6_perform_16 : decode cX6_perform 16 = .ok (.iload_n 2, 1) := by decide +kernel
theorem dX6_perform_17 : decode cX6_perform 17 = .ok (.aload_n 0, 1) := by decide +kernel
theorem dX6_perform_18 : decode cX6_perform 18 = .ok (.getfield 35, 3) := by decide +kernel
theorem dX6_perform_21 : decode cX6_perform 21 = .ok (.if_icmp .ge 62, 3) := by decide +kernel
theorem dX6_perform_24 : decode cX6_perform 24 = .ok (.iload_n 1, 1) := by decide +kernel
theorem dX6_perform_25 : decode cX6_perform 25 = .ok (.bipush 40, 2) := by decide +kernel
theorem dX6_perform_27 : decode cX6_perform 27 = .ok (.if_icmp .ge 56, 3) := by decide +kernel
theorem dX6_perform_30 : decode cX6_perform 30 = .ok (.aload_n 0, 1) := by decide +kernel
theorem dX6_perform_31 : decode cX6_perform 31 = .ok (.getfield 11, 3) := by decide +kernel
theorem dX6_perform_34 : decode cX6_perform 34 = .ok (.iload_n 2, 1) := by decide +kernel
theorem dX6_perform_35 : decode cX6_perform 35 = .ok (.iaload, 1) := by decide +kernel
theorem dX6_perform_36 : decode cX6_perform 36 = .ok (.bipush 8, 2) := by decide +kernel
theorem dX6_perform_38 : decode cX6_perform 38 = .ok (.if_icmp .eq 14, 3) := by decide +kernel
theorem dX6_perform_41 : decode cX6_perform 41 = .ok (.aload_n 0, 1) := by decide +kernel
theorem dX6_perform_42 : decode cX6_perform 42 = .ok (.getfield 11, 3) := by decide +kernel
theorem dX6_perform_45 : decode cX6_perform 45 = .ok (.iload_n 2, 1) := by decide +kernel
theorem dX6_perform_46 : decode cX6_perform 46 = .ok (.iaload, 1) := by decide +kernel
theorem dX6_perform_47 : decode cX6_perform 47 = .ok (.bipush 9, 2) := by decide +kernel
theorem dX6_perform_49 : decode cX6_perform 49 = .ok (.if_icmp .ne 12, 3) := by decide +kernel
theorem dX6_perform_52 : decode cX6_perform 52 = .ok (.aload_n 0, 1) := by decide +kernel
theorem dX6_perform_53 : decode cX6_perform 53 = .ok (.iload_n 2, 1) := by decide +kernel
theorem dX6_perform_54 : decode cX6_perform 54 = .ok (.invokevirtual 119, 3) := by decide +kernel
theorem dX6_perform_57 : decode cX6_perform 57 = .ok (.istore_n 2, 1) := by decide +kernel
theorem dX6_perform_58 : decode cX6_perform 58 = .ok (.goto 19, 3) := by decide +kernel
theorem dX6_perform_61 : decode cX6_perform 61 = .ok (.aload_n 0, 1) := by decide +kernel
theorem dX6_perform_62 : decode cX6_perform 62 = .ok (.iload_n 2, 1) := by decide +kernel
theorem dX6_perform_63 : decode cX6_perform 63 = .ok (.invokevirtual 123, 3) := by decide +kernel
theorem dX6_perform_66 : decode cX6_perform 66 = .ok (.ifCond .ge 5, 3) := by decide +kernel
theorem dX6_perform_69 : decode cX6_perform 69 = .ok (.iload_n 1, 1) := by decide +kernel
theorem dX6_perform_70 : decode cX6_perform 70 = .ok (.ireturn, 1) := by decide +kernel
theorem dX6_perform_71 : decode cX6_perform 71 = .ok (.iinc 1 1, 3) := by decide +kernel
theorem dX6_perform_74 : decode cX6_perform 74 = .ok (.iinc 2 1, 3) := by decide +kernel
theorem dX6_perform_77 : decode cX6_perform 77 = .ok (.iinc 3 1, 3) := by decide +kernel
theorem dX6_perform_80 : decode cX6_perform 80 = .ok (.goto (-74), 3) := by decide +kernel
theorem dX6_perform_83 : decode cX6_perform 83 = .ok (.iload_n 1, 1) := by decide +kernel
theorem dX6_perform_84 : decode cX6_perform 84 = .ok (.ireturn, 1) := by decide +kernel
theorem dX6_doOrder_0 : decode cX6_doOrder 0 = .ok (.aload_n 0, 1) := by decide +kernel
theorem dX6_doOrder_1 : decode cX6_doOrder 1 = .ok (.getfield 15, 3) := by decide +kernel
theorem dX6_doOrder_4 : decode cX6_doOrder 4 = .ok (.iload_n 1, 1) := by decide +kernel
theorem dX6_doOrder_5 : decode cX6_doOrder 5 = .ok (.iaload, 1) := by decide +kernel
theorem dX6_doOrder_6 : decode cX6_doOrder 6 = .ok (.istore_n 2, 1) := by decide +kernel
theorem dX6_doOrder_7 : decode cX6_doOrder 7 = .ok (.aload_n 0, 1) := by decide +kernel
theorem dX6_doOrder_8 : decode cX6_doOrder 8 = .ok (.getfield 18, 3) := by decide +kernel
theorem dX6_doOrder_11 : decode cX6_doOrder 11 = .ok (.iload_n 1, 1) := by decide +kernel
theorem dX6_doOrder_12 : decode cX6_doOrder 12 = .ok (.iaload, 1) := by decide +kernel
theorem dX6_doOrder_13 : decode cX6_doOrder 13 = .ok (.istore_n 3, 1) := by decide +kernel
theorem dX6_doOrder_14 : decode cX6_doOrder 14 = .ok (.aload_n 0, 1) := by decide +kernel
theorem dX6_doOrder_15 : decode cX6_doOrder 15 = .ok (.getfield 11, 3) := by decide +kernel
theorem dX6_doOrder_18 : decode cX6_doOrder 18 = .ok (.iload_n 1, 1) := by decide +kernel
theorem dX6_doOrder_19 : decode cX6_doOrder 19 = .ok (.iaload, 1) := by decide +kernel
theorem dX6_doOrder_20 : decode cX6_doOrder 20 = .ok (.tableswitch 96 0 5 #[40, 49, 59, 69, 78, 87], 40) := by decide +kernel
theorem dX6_doOrder_60 : decode cX6_doOrder 60 = .ok (.aload_n 0, 1) := by decide +kernel
theorem dX6_doOrder_61 : decode cX6_doOrder 61 = .ok (.getfield 31, 3) := by decide +kernel
theorem dX6_doOrder_64 : decode cX6_doOrder 64 = .ok (.iload_n 2, 1) := by decide +kernel
theorem dX6_doOrder_65 : decode cX6_doOrder 65 = .ok (.invokevirtual 126, 3) := by decide +kernel
theorem dX6_doOrder_68 : decode cX6_doOrder 68 = .ok (.ireturn, 1) := by decide +kernel
theorem dX6_doOrder_69 : decode cX6_doOrder 69 = .ok (.aload_n 0, 1) := by decide +kernel
theorem dX6_doOrder_70 : decode cX6_doOrder 70 = .ok (.getfield 31, 3) := by decide +kernel
theorem dX6_doOrder_73 : decode cX6_doOrder 73 = .ok (.iload_n 2, 1) := by decide +kernel
theorem dX6_doOrder_74 : decode cX6_doOrder 74 = .ok (.iload_n 3, 1) := by decide +kernel
theorem dX6_doOrder_75 : decode cX6_doOrder 75 = .ok (.invokevirtual 131, 3) := by decide +kernel
theorem dX6_doOrder_78 : decode cX6_doOrder 78 = .ok (.ireturn, 1) := by decide +kernel
theorem dX6_doOrder_79 : decode cX6_doOrder 79 = .ok (.aload_n 0, 1) := by decide +kernel
theorem dX6_doOrder_80 : decode cX6_doOrder 80 = .ok (.getfield 31, 3) := by decide +kernel
theorem dX6_doOrder_83 : decode cX6_doOrder 83 = .ok (.iload_n 2, 1) := by decide +kernel
theorem dX6_doOrder_84 : decode cX6_doOrder 84 = .ok (.iload_n 3, 1) := by decide +kernel
theorem dX6_doOrder_85 : decode cX6_doOrder 85 = .ok (.invokevirtual 134, 3) := by decide +kernel
theorem dX6_doOrder_88 : decode cX6_doOrder 88 = .ok (.ireturn, 1) := by decide +kernel
theorem dX6_doOrder_89 : decode cX6_doOrder 89 = .ok (.aload_n 0, 1) := by decide +kernel
theorem dX6_doOrder_90 : decode cX6_doOrder 90 = .ok (.getfield 31, 3) := by decide +kernel
theorem dX6_doOrder_93 : decode cX6_doOrder 93 = .ok (.iload_n 2, 1) := by decide +kernel
theorem dX6_doOrder_94 : decode cX6_doOrder 94 = .ok (.invokevirtual 137, 3) := by decide +kernel
theorem dX6_doOrder_97 : decode cX6_doOrder 97 = .ok (.ireturn, 1) := by decide +kernel
theorem dX6_doOrder_98 : decode cX6_doOrder 98 = .ok (.aload_n 0, 1) := by decide +kernel
theorem dX6_doOrder_99 : decode cX6_doOrder 99 = .ok (.getfield 31, 3) := by decide +kernel
theorem dX6_doOrder_102 : decode cX6_doOrder 102 = .ok (.iload_n 2, 1) := by decide +kernel
theorem dX6_doOrder_103 : decode cX6_doOrder 103 = .ok (.invokevirtual 140, 3) := by decide +kernel
theorem dX6_doOrder_106 : decode cX6_doOrder 106 = .ok (.ireturn, 1) := by decide +kernel
theorem dX6_doOrder_107 : decode cX6_doOrder 107 = .ok (.aload_n 0, 1) := by decide +kernel
theorem dX6_doOrder_108 : decode cX6_doOrder 108 = .ok (.getfield 31, 3) := by decide +kernel
theorem dX6_doOrder_111 : decode cX6_doOrder 111 = .ok (.iload_n 2, 1) := by decide +kernel
theorem dX6_doOrder_112 : decode cX6_doOrder 112 = .ok (.invokevirtual 143, 3) := by decide +kernel
theorem dX6_doOrder_115 : decode cX6_doOrder 115 = .ok (.ireturn, 1) := by decide +kernel
theorem dX6_doOrder_116 : decode cX6_doOrder 116 = .ok (.aload_n 0, 1) := by decide +kernel
theorem dX6_doOrder_117 : decode cX6_doOrder 117 = .ok (.getfield 31, 3) := by decide +kernel
theorem dX6_doOrder_120 : decode cX6_doOrder 120 = .ok (.iload_n 2, 1) := by decide +kernel
theorem dX6_doOrder_121 : decode cX6_doOrder 121 = .ok (.aload_n 0, 1) := by decide +kernel
theorem dX6_doOrder_122 : decode cX6_doOrder 122 = .ok (.getfield 11, 3) := by decide +kernel
theorem dX6_doOrder_125 : decode cX6_doOrder 125 = .ok (.iload_n 1, 1) := by decide +kernel
theorem dX6_doOrder_126 : decode cX6_doOrder 126 = .ok (.iaload, 1) := by decide +kernel
theorem dX6_doOrder_127 : decode cX6_doOrder 127 = .ok (.bipush 7, 2) := by decide +kernel
theorem dX6_doOrder_129 : decode cX6_doOrder 129 = .ok (.if_icmp .ne 7, 3) := by decide +kernel
theorem dX6_doOrder_132 : decode cX6_doOrder 132 = .ok (.iconst 1, 1) := by decide +kernel
theorem dX6_doOrder_133 : decode cX6_doOrder 133 = .ok (.goto 4, 3) := by decide +kernel
theorem dX6_doOrder_136 : decode cX6_doOrder 136 = .ok (.iconst 0, 1) := by decide +kernel
theorem dX6_doOrder_137 : decode cX6_doOrder 137 = .ok (.invokevirtual 146, 3) := by decide +kernel
theorem dX6_doOrder_140 : decode cX6_doOrder 140 = .ok (.ireturn, 1) := by decide +kernel
theorem dX7_readAll_0 : decode cX7_readAll 0 = .ok (.aload_n 0, 1) := by decide +kernel
theorem dX7_readAll_1 : decode cX7_readAll 1 = .ok (.iconst 0, 1) := by decide +kernel
theorem dX7_readAll_2 : decode cX7_readAll 2 = .ok (.putfield 22, 3) := by decide +kernel
theorem dX7_readAll_5 : decode cX7_readAll 5 = .ok (.aload_n 0, 1) := by decide +kernel
theorem dX7_readAll_6 : decode cX7_readAll 6 = .ok (.getfield 12, 3) := by decide +kernel
theorem dX7_readAll_9 : decode cX7_readAll 9 = .ok (.invokevirtual 26, 3) := by decide +kernel
theorem dX7_readAll_12 : decode cX7_readAll 12 = .ok (.aload_n 0, 1) := by decide +kernel
theorem dX7_readAll_13 : decode cX7_readAll 13 = .ok (.getfield 18, 3) := by decide +kernel
theorem dX7_readAll_16 : decode cX7_readAll 16 = .ok (.invokevirtual 29, 3) := by decide +kernel
theorem dX7_readAll_19 : decode cX7_readAll 19 = .ok (.aload_n 0, 1) := by decide +kernel
theorem dX7_readAll_20 : decode cX7_readAll 20 = .ok (.getfield 18, 3) := by decide +kernel
theorem dX7_readAll_23 : decode cX7_readAll 23 = .ok (.ldc 32, 2) := by decide +kernel
theorem dX7_readAll_25 : decode cX7_readAll 25 = .ok (.invokevirtual 33, 3) := by decide +kernel
theorem dX7_readAll_28 : decode cX7_readAll 28 = .ok (.ifCond .ne 11, 3) := by decide +kernel
theorem dX7_readAll_31 : decode cX7_readAll 31 = .ok (.aload_n 0, 1) := by decide +kernel
theorem dX7_readAll_32 : decode cX7_readAll 32 = .ok (.getfield 18, 3) := by decide +kernel
theorem dX7_readAll_35 : decode cX7_readAll 35 = .ok (.iconst 1, 1) := by decide +kernel
theorem dX7_readAll_36 : decode cX7_readAll 36 = .ok (.invokevirtual 37, 3) := by decide +kernel
theorem dX7_readAll_39 : decode cX7_readAll 39 = .ok (.aload_n 0, 1) := by decide +kernel
theorem dX7_readAll_40 : decode cX7_readAll 40 = .ok (.getfield 18, 3) := by decide +kernel
theorem dX7_readAll_43 : decode cX7_readAll 43 = .ok (.iconst 1, 1) := by decide +kernel
theorem dX7_readAll_44 : decode cX7_readAll 44 = .ok (.invokevirtual 41, 3) := by decide +kernel
theorem dX7_readAll_47 : decode cX7_readAll 47 = .ok (.aload_n 0, 1) := by decide +kernel
theorem dX7_readAll_48 : decode cX7_readAll 48 = .ok (.getfield 12, 3) := by decide +kernel
theorem dX7_readAll_51 : decode cX7_readAll 51 = .ok (.aload_n 0, 1) := by decide +kernel
theorem dX7_readAll_52 : decode cX7_readAll 52 = .ok (.getfield 18, 3) := by decide +kernel
theorem dX7_readAll_55 : decode cX7_readAll 55 = .ok (.iconst 1, 1) := by decide +kernel
theorem dX7_readAll_56 : decode cX7_readAll 56 = .ok (.bipush 40, 2) := by decide +kernel
theorem dX7_readAll_58 : decode cX7_readAll 58 = .ok (.invokevirtual 44, 3) := by decide +kernel
theorem dX7_readAll_61 : decode cX7_readAll 61 = .ok (.putfield 48, 3) := by decide +kernel
theorem dX7_readAll_64 : decode cX7_readAll 64 = .ok (.aload_n 0, 1) := by decide +kernel
theorem dX7_readAll_65 : decode cX7_readAll 65 = .ok (.getfield 12, 3) := by decide +kernel
theorem dX7_readAll_68 : decode cX7_readAll 68 = .ok (.aload_n 0, 1) := by decide +kernel
theorem dX7_readAll_69 : decode cX7_readAll 69 = .ok (.getfield 18, 3) := by decide +kernel
theorem dX7_readAll_72 : decode cX7_readAll 72 = .ok (.iconst 1, 1) := by decide +kernel
theorem dX7_readAll_73 : decode cX7_readAll 73 = .ok (.bipush 9, 2) := by decide +kernel
theorem dX7_readAll_75 : decode cX7_readAll 75 = .ok (.invokevirtual 44, 3) := by decide +kernel
theorem dX7_readAll_78 : decode cX7_readAll 78 = .ok (.putfield 51, 3) := by decide +kernel
theorem dX7_readAll_81 : decode cX7_readAll 81 = .ok (.iconst 0, 1) := by decide +kernel
theorem dX7_readAll_82 : decode cX7_readAll 82 = .ok (.istore_n 1, 1) := by decide +kernel
theorem dX7_readAll_83 : decode cX7_readAll 83 = .ok (.iload_n 1, 1) := by decide +kernel
theorem dX7_readAll_84 : decode cX7_readAll 84 = .ok (.sipush 500, 3) := by decide +kernel
theorem dX7_readAll_87 : decode cX7_readAll 87 = .ok (.if_icmp .ge 41, 3) := by decide +kernel
theorem dX7_readAll_90 : decode cX7_readAll 90 = .ok (.aload_n 0, 1) := by decide +kernel
theorem dX7_readAll_91 : decode cX7_readAll 91 = .ok (.getfield 18, 3) := by decide +kernel
theorem dX7_readAll_94 : decode cX7_readAll 94 = .ok (.getfield 54, 3) := by decide +kernel
theorem dX7_readAll_97 : decode cX7_readAll 97 = .ok (.ifCond .ne 31, 3) := by decide +kernel
theorem dX7_readAll_100 : decode cX7_readAll 100 = .ok (.aload_n 0, 1) := by decide +kernel
theorem dX7_readAll_101 : decode cX7_readAll 101 = .ok (.getfield 18, 3) := by decide +kernel
theorem dX7_readAll_104 : decode cX7_readAll 104 = .ok (.getfield 57, 3) := by decide +kernel
theorem dX7_readAll_107 : decode cX7_readAll 107 = .ok (.ifCond .eq 21, 3) := by decide +kernel
theorem dX7_readAll_110 : decode cX7_readAll 110 = .ok (.aload_n 0, 1) := by decide +kernel
theorem dX7_readAll_111 : decode cX7_readAll 111 = .ok (.getfield 18, 3) := by decide +kernel
theorem dX7_readAll_114 : decode cX7_readAll 114 = .ok (.iconst 3, 1) := by decide +kernel
theorem dX7_readAll_115 : decode cX7_readAll 115 = .ok (.invokevirtual 41, 3) := by decide +kernel
theorem dX7_readAll_118 : decode cX7_readAll 118 = .ok (.aload_n 0, 1) := by decide +kernel
theorem dX7_readAll_119 : decode cX7_readAll 119 = .ok (.invokevirtual 60, 3) := by decide +kernel
theorem dX7_readAll_122 : decode cX7_readAll 122 = .ok (.iinc 1 1, 3) := by decide +kernel
theorem dX7_readAll_125 : decode cX7_readAll 125 = .ok (.goto (-42), 3) := by decide +kernel
theorem dX7_readAll_128 : decode cX7_readAll 128 = .ok (.aload_n 0, 1) := by decide +kernel
theorem dX7_readAll_129 : decode cX7_readAll 129 = .ok (.getfield 18, 3) := by decide +kernel
theorem dX7_readAll_132 : decode cX7_readAll 132 = .ok (.getfield 54, 3) := by decide +kernel
theorem dX7_readAll_135 : decode cX7_readAll 135 = .ok (.ifCond .ne 7, 3) := by decide +kernel
theorem dX7_readAll_138 : decode cX7_readAll 138 = .ok (.iconst 1, 1) := by decide +kernel
theorem dX7_readAll_139 : decode cX7_readAll 139 = .ok (.goto 4, 3) := by decide +kernel
theorem dX7_readAll_142 : decode cX7_readAll 142 = .ok (.iconst 0, 1) := by decide +kernel
theorem dX7_readAll_143 : decode cX7_readAll 143 = .ok (.ireturn, 1) := by decide +kernel
theorem dX7_readStatement_0 : decode cX7_readStatement 0 = .ok (.aload_n 0, 1) := by decide +kernel
theorem dX7_readStatement_1 : decode cX7_readStatement 1 = .ok (.getfield 18, 3) := by decide +kernel
theorem dX7_readStatement_4 : decode cX7_readStatement 4 = .ok (.ldc 63, 2) := by decide +kernel
theorem dX7_readStatement_6 : decode cX7_readStatement 6 = .ok (.invokevirtual 33, 3) := by decide +kernel
theorem dX7_readStatement_9 : decode cX7_readStatement 9 = .ok (.ifCond .eq 53, 3) := by decide +kernel
theorem dX7_readStatement_12 : decode cX7_readStatement 12 = .ok (.aload_n 0, 1) := by decide +kernel
theorem dX7_readStatement_13 : decode cX7_readStatement 13 = .ok (.iconst 1, 1) := by decide +kernel
theorem dX7_readStatement_14 : decode cX7_readStatement 14 = .ok (.invokevirtual 65, 3) := by decide +kernel
theorem dX7_readStatement_17 : decode cX7_readStatement 17 = .ok (.aload_n 0, 1) := by decide +kernel
theorem dX7_readStatement_18 : decode cX7_readStatement 18 = .ok (.getfield 12, 3) := by decide +kernel
theorem dX7_readStatement_21 : decode cX7_readStatement 21 = .ok (.aload_n 0, 1) := by decide +kernel
theorem dX7_readStatement_22 : decode cX7_readStatement 22 = .ok (.getfield 18, 3) := by decide +kernel
theorem dX7_readStatement_25 : decode cX7_readStatement 25 = .ok (.iconst 0, 1) := by decide +kernel
theorem dX7_readStatement_26 : decode cX7_readStatement 26 = .ok (.bipush 39, 2) := by decide +kernel
theorem dX7_readStatement_28 : decode cX7_readStatement 28 = .ok (.invokevirtual 44, 3) := by decide +kernel
theorem dX7_readStatement_31 : decode cX7_readStatement 31 = .ok (.putfield 68, 3) := by decide +kernel
theorem dX7_readStatement_34 : decode cX7_readStatement 34 = .ok (.aload_n 0, 1) := by decide +kernel
theorem dX7_readStatement_35 : decode cX7_readStatement 35 = .ok (.getfield 12, 3) := by decide +kernel
theorem dX7_readStatement_38 : decode cX7_readStatement 38 = .ok (.aload_n 0, 1) := by decide +kernel
theorem dX7_readStatement_39 : decode cX7_readStatement 39 = .ok (.getfield 18, 3) := by decide +kernel
theorem dX7_readStatement_42 : decode cX7_readStatement 42 = .ok (.aload_n 0, 1) := by decide +kernel
theorem dX7_readStatement_43 : decode cX7_readStatement 43 = .ok (.getfield 12, 3) := by decide +kernel
theorem dX7_readStatement_46 : decode cX7_readStatement 46 = .ok (.getfield 68, 3) := by decide +kernel
theorem dX7_readStatement_49 : decode cX7_readStatement 49 = .ok (.iconst 1, 1) := by decide +kernel
theorem dX7_readStatement_50 : decode cX7_readStatement 50 = .ok (.iadd, 1) := by decide +kernel
theorem dX7_readStatement_51 : decode cX7_readStatement 51 = .ok (.bipush 40, 2) := by decide +kernel
theorem dX7_readStatement_53 : decode cX7_readStatement 53 = .ok (.invokevirtual 44, 3) := by decide +kernel
theorem dX7_readStatement_56 : decode cX7_readStatement 56 = .ok (.putfield 71, 3) := by decide +kernel
theorem dX7_readStatement_59 : decode cX7_readStatement 59 = .ok (.goto 180, 3) := by decide +kernel
theorem dX7_readStatement_62 : decode cX7_readStatement 62 = .ok (.aload_n 0, 1) := by decide +kernel
theorem dX7_readStatement_63 : decode cX7_readStatement 63 = .ok (.getfield 18, 3) := by decide +kernel
theorem dX7_readStatement_66 : decode cX7_readStatement 66 = .ok (.ldc 74, 2) := by decide +kernel
theorem dX7_readStatement_68 : decode cX7_readStatement 68 = .ok (.invokevirtual 33, 3) := by decide +kernel
theorem dX7_readStatement_71 : decode cX7_readStatement 71 = .ok (.ifCond .eq 28, 3) := by decide +kernel
theorem dX7_readStatement_74 : decode cX7_readStatement 74 = .ok (.aload_n 0, 1) := by decide +kernel
theorem dX7_readStatement_75 : decode cX7_readStatement 75 = .ok (.iconst 2, 1) := by decide +kernel
theorem dX7_readStatement_76 : decode cX7_readStatement 76 = .ok (.invokevirtual 65, 3) := by decide +kernel
theorem dX7_readStatement_79 : decode cX7_readStatement 79 = .ok (.aload_n 0, 1) := by decide +kernel
theorem dX7_readStatement_80 : decode cX7_readStatement 80 = .ok (.getfield 12, 3) := by decide +kernel
theorem dX7_readStatement_83 : decode cX7_readStatement 83 = .ok (.aload_n 0, 1) := by decide +kernel
theorem dX7_readStatement_84 : decode cX7_readStatement 84 = .ok (.getfield 18, 3) := by decide +kernel
theorem dX7_readStatement_87 : decode cX7_readStatement 87 = .ok (.iconst 0, 1) := by decide +kernel
theorem dX7_readStatement_88 : decode cX7_readStatement 88 = .ok (.ldc 76, 2) := by decide +kernel
theorem dX7_readStatement_90 : decode cX7_readStatement 90 = .ok (.invokevirtual 44, 3) := by decide +kernel
theorem dX7_readStatement_93 : decode cX7_readStatement 93 = .ok (.putfield 77, 3) := by decide +kernel
theorem dX7_readStatement_96 : decode cX7_readStatement 96 = .ok (.goto 143, 3) := by decide +kernel
theorem dX7_readStatement_99 : decode cX7_readStatement 99 = .ok (.aload_n 0, 1) := by decide +kernel
theorem dX7_readStatement_100 : decode cX7_readStatement 100 = .ok (.getfield 18, 3) := by decide +kernel
theorem dX7_readStatement_103 : decode cX7_readStatement 103 = .ok (.ldc 79, 2) := by decide +kernel
theorem dX7_readStatement_105 : decode cX7_readStatement 105 = .ok (.invokevirtual 33, 3) := by decide +kernel
theorem dX7_readStatement_108 : decode cX7_readStatement 108 = .ok (.ifCond .eq 28, 3) := by decide +kernel
theorem dX7_readStatement_111 : decode cX7_readStatement 111 = .ok (.aload_n 0, 1) := by decide +kernel
theorem dX7_readStatement_112 : decode cX7_readStatement 112 = .ok (.iconst 4, 1) := by decide +kernel
theorem dX7_readStatement_113 : decode cX7_readStatement 113 = .ok (.invokevirtual 65, 3) := by decide +kernel
theorem dX7_readStatement_116 : decode cX7_readStatement 116 = .ok (.aload_n 0, 1) := by decide +kernel
theorem dX7_readStatement_117 : decode cX7_readStatement 117 = .ok (.getfield 12, 3) := by decide +kernel
theorem dX7_readStatement_120 : decode cX7_readStatement 120 = .ok (.aload_n 0, 1) := by decide +kernel
theorem dX7_readStatement_121 : decode cX7_readStatement 121 = .ok (.getfield 18, 3) := by decide +kernel
theorem dX7_readStatement_124 : decode cX7_readStatement 124 = .ok (.iconst 0, 1) := by decide +kernel
theorem dX7_readStatement_125 : decode cX7_readStatement 125 = .ok (.bipush 10, 2) := by decide +kernel
theorem dX7_readStatement_127 : decode cX7_readStatement 127 = .ok (.invokevirtual 44, 3) := by decide +kernel
theorem dX7_readStatement_130 : decode cX7_readStatement 130 = .ok (.putfield 81, 3) := by decide +kernel
theorem dX7_readStatement_133 : decode cX7_readStatement 133 = .ok (.goto 106, 3) := by decide +kernel
theorem dX7_readStatement_136 : decode cX7_readStatement 136 = .ok (.aload_n 0, 1) := by decide +kernel
theorem dX7_readStatement_137 : decode cX7_readStatement 137 = .ok (.getfield 18, 3) := by decide +kernel
theorem dX7_readStatement_140 : decode cX7_readStatement 140 = .ok (.ldc 83, 2) := by decide +kernel
theorem dX7_readStatement_142 : decode cX7_readStatement 142 = .ok (.invokevirtual 33, 3) := by decide +kernel
theorem dX7_readStatement_145 : decode cX7_readStatement 145 = .ok (.ifCond .eq 28, 3) := by decide +kernel
theorem dX7_readStatement_148 : decode cX7_readStatement 148 = .ok (.aload_n 0, 1) := by decide +kernel
theorem dX7_readStatement_149 : decode cX7_readStatement 149 = .ok (.bipush 8, 2) := by decide +kernel
theorem dX7_readStatement_151 : decode cX7_readStatement 151 = .ok (.invokevirtual 65, 3) := by decide +kernel
theorem dX7_readStatement_154 : decode cX7_readStatement 154 = .ok (.aload_n 0, 1) := by decide +kernel
theorem dX7_readStatement_155 : decode cX7_readStatement 155 = .ok (.getfield 12, 3) := by decide +kernel
theorem dX7_readStatement_158 : decode cX7_readStatement 158 = .ok (.aload_n 0, 1) := by decide +kernel
theorem dX7_readStatement_159 : decode cX7_readStatement 159 = .ok (.getfield 18, 3) := by decide +kernel
theorem dX7_readStatement_162 : decode cX7_readStatement 162 = .ok (.iconst 0, 1) := by decide +kernel
theorem dX7_readStatement_163 : decode cX7_readStatement 163 = .ok (.iconst 1, 1) := by decide +kernel
theorem dX7_readStatement_164 : decode cX7_readStatement 164 = .ok (.invokevirtual 44, 3) := by decide +kernel
theorem dX7_readStatement_167 : decode cX7_readStatement 167 = .ok (.putfield 85, 3) := by decide +kernel
theorem dX7_readStatement_170 : decode cX7_readStatement 170 = .ok (.goto 69, 3) := by decide +kernel
theorem dX7_readStatement_173 : decode cX7_readStatement 173 = .ok (.aload_n 0, 1) := by decide +kernel
theorem dX7_readStatement_174 : decode cX7_readStatement 174 = .ok (.getfield 18, 3) := by decide +kernel
theorem dX7_readStatement_177 : decode cX7_readStatement 177 = .ok (.ldc 87, 2) := by decide +kernel
theorem dX7_readStatement_179 : decode cX7_readStatement 179 = .ok (.invokevirtual 33, 3) := by decide +kernel
theorem dX7_readStatement_182 : decode cX7_readStatement 182 = .ok (.ifCond .eq 30, 3) := by decide +kernel
theorem dX7_readStatement_185 : decode cX7_readStatement 185 = .ok (.aload_n 0, 1) := by decide +kernel
theorem dX7_readStatement_186 : decode cX7_readStatement 186 = .ok (.bipush 16, 2) := by decide +kernel
theorem dX7_readStatement_188 : decode cX7_readStatement 188 = .ok (.invokevirtual 65, 3) := by decide +kernel
theorem dX7_readStatement_191 : decode cX7_readStatement 191 = .ok (.aload_n 0, 1) := by decide +kernel
theorem dX7_readStatement_192 : decode cX7_readStatement 192 = .ok (.getfield 12, 3) := by decide +kernel
theorem dX7_readStatement_195 : decode cX7_readStatement 195 = .ok (.aload_n 0, 1) := by decide +kernel
theorem dX7_readStatement_196 : decode cX7_readStatement 196 = .ok (.getfield 18, 3) := by decide +kernel
theorem dX7_readStatement_199 : decode cX7_readStatement 199 = .ok (.iconst 0, 1) := by decide +kernel
theorem dX7_readStatement_200 : decode cX7_readStatement 200 = .ok (.sipush 9999, 3) := by decide +kernel
theorem dX7_readStatement_203 : decode cX7_readStatement 203 = .ok (.invokevirtual 44, 3) := by decide +kernel
theorem dX7_readStatement_206 : decode cX7_readStatement 206 = .ok (.putfield 89, 3) := by decide +kernel
theorem dX7_readStatement_209 : decode cX7_readStatement 209 = .ok (.goto 30, 3) := by decide +kernel
theorem dX7_readStatement_212 : decode cX7_readStatement 212 = .ok (.aload_n 0, 1) := by decide +kernel
theorem dX7_readStatement_213 : decode cX7_readStatement 213 = .ok (.getfield 18, 3) := by decide +kernel
theorem dX7_readStatement_216 : decode cX7_readStatement 216 = .ok (.ldc 92, 2) := by decide +kernel
theorem dX7_readStatement_218 : decode cX7_readStatement 218 = .ok (.invokevirtual 33, 3) := by decide +kernel
theorem dX7_readStatement_221 : decode cX7_readStatement 221 = .ok (.ifCond .eq 10, 3) := by decide +kernel
theorem dX7_readStatement_224 : decode cX7_readStatement 224 = .ok (.aload_n 0, 1) := by decide +kernel
theorem dX7_readStatement_225 : decode cX7_readStatement 225 = .ok (.invokevirtual 94, 3) := by decide +kernel
theorem dX7_readStatement_228 : decode cX7_readStatement 228 = .ok (.goto 11, 3) := by decide +kernel
theorem dX7_readStatement_231 : decode cX7_readStatement 231 = .ok (.aload_n 0, 1) := by decide +kernel
theorem dX7_readStatement_232 : decode cX7_readStatement 232 = .ok (.getfield 18, 3) := by decide +kernel
theorem dX7_readStatement_235 : decode cX7_readStatement 235 = .ok (.iconst 1, 1) := by decide +kernel
theorem dX7_readStatement_236 : decode cX7_readStatement 236 = .ok (.invokevirtual 37, 3) := by decide +kernel
theorem dX7_readStatement_239 : decode cX7_readStatement 239 = .ok (.return_, 1) := by decide +kernel
theorem dX7_readFlow_0 : decode cX7_readFlow 0 = .ok (.aload_n 0, 1) := by decide +kernel
theorem dX7_readFlow_1 : decode cX7_readFlow 1 = .ok (.getfield 12, 3) := by decide +kernel
theorem dX7_readFlow_4 : decode cX7_readFlow 4 = .ok (.getfield 97, 3) := by decide +kernel
theorem dX7_readFlow_7 : decode cX7_readFlow 7 = .ok (.istore_n 1, 1) := by decide +kernel
theorem dX7_readFlow_8 : decode cX7_readFlow 8 = .ok (.iload_n 1, 1) := by decide +kernel
theorem dX7_readFlow_9 : decode cX7_readFlow 9 = .ok (.ifCond .lt 9, 3) := by decide +kernel
theorem dX7_readFlow_12 : decode cX7_readFlow 12 = .ok (.iload_n 1, 1) := by decide +kernel
theorem dX7_readFlow_13 : decode cX7_readFlow 13 = .ok (.bipush 6, 2) := by decide +kernel
theorem dX7_readFlow_15 : decode cX7_readFlow 15 = .ok (.if_icmp .lt 12, 3) := by decide +kernel
theorem dX7_readFlow_18 : decode cX7_readFlow 18 = .ok (.aload_n 0, 1) := by decide +kernel
theorem dX7_readFlow_19 : decode cX7_readFlow 19 = .ok (.getfield 18, 3) := by decide +kernel
theorem dX7_readFlow_22 : decode cX7_readFlow 22 = .ok (.iconst 5, 1) := by decide +kernel
theorem dX7_readFlow_23 : decode cX7_readFlow 23 = .ok (.invokevirtual 37, 3) := by decide +kernel
theorem dX7_readFlow_26 : decode cX7_readFlow 26 = .ok (.return_, 1) := by decide +kernel
theorem dX7_readFlow_27 : decode cX7_readFlow 27 = .ok (.aload_n 0, 1) := by decide +kernel
theorem dX7_readFlow_28 : decode cX7_readFlow 28 = .ok (.getfield 12, 3) := by decide +kernel
theorem dX7_readFlow_31 : decode cX7_readFlow 31 = .ok (.getfield 100, 3) := by decide +kernel
theorem dX7_readFlow_34 : decode cX7_readFlow 34 = .ok (.iload_n 1, 1) := by decide +kernel
theorem dX7_readFlow_35 : decode cX7_readFlow 35 = .ok (.aaload, 1) := by decide +kernel
theorem dX7_readFlow_36 : decode cX7_readFlow 36 = .ok (.astore_n 2, 1) := by decide +kernel
theorem dX7_readFlow_37 : decode cX7_readFlow 37 = .ok (.aload_n 0, 1) := by decide +kernel
theorem dX7_readFlow_38 : decode cX7_readFlow 38 = .ok (.getfield 18, 3) := by decide +kernel
theorem dX7_readFlow_41 : decode cX7_readFlow 41 = .ok (.iconst 1, 1) := by decide +kernel
theorem dX7_readFlow_42 : decode cX7_readFlow 42 = .ok (.invokevirtual 41, 3) := by decide +kernel
theorem dX7_readFlow_45 : decode cX7_readFlow 45 = .ok (.aload_n 2, 1) := by decide +kernel
theorem dX7_readFlow_46 : decode cX7_readFlow 46 = .ok (.aload_n 0, 1) := by decide +kernel
theorem dX7_readFlow_47 : decode cX7_readFlow 47 = .ok (.invokevirtual 104, 3) := by decide +kernel
theorem dX7_readFlow_50 : decode cX7_readFlow 50 = .ok (.putfield 108, 3) := by decide +kernel
theorem dX7_readFlow_53 : decode cX7_readFlow 53 = .ok (.aload_n 0, 1) := by decide +kernel
theorem dX7_readFlow_54 : decode cX7_readFlow 54 = .ok (.getfield 18, 3) := by decide +kernel
theorem dX7_readFlow_57 : decode cX7_readFlow 57 = .ok (.iconst 1, 1) := by decide +kernel
theorem dX7_readFlow_58 : decode cX7_readFlow 58 = .ok (.invokevirtual 41, 3) := by decide +kernel
theorem dX7_readFlow_61 : decode cX7_readFlow 61 = .ok (.aload_n 2, 1) := by decide +kernel
theorem dX7_readFlow_62 : decode cX7_readFlow 62 = .ok (.aload_n 0, 1) := by decide +kernel
theorem dX7_readFlow_63 : decode cX7_readFlow 63 = .ok (.getfield 18, 3) := by decide +kernel
theorem dX7_readFlow_66 : decode cX7_readFlow 66 = .ok (.iconst 1, 1) := by decide +kernel
theorem dX7_readFlow_67 : decode cX7_readFlow 67 = .ok (.bipush 99, 2) := by decide +kernel
theorem dX7_readFlow_69 : decode cX7_readFlow 69 = .ok (.invokevirtual 44, 3) := by decide +kernel
theorem dX7_readFlow_72 : decode cX7_readFlow 72 = .ok (.putfield 114, 3) := by decide +kernel
theorem dX7_readFlow_75 : decode cX7_readFlow 75 = .ok (.aload_n 2, 1) := by decide +kernel
theorem dX7_readFlow_76 : decode cX7_readFlow 76 = .ok (.aload_n 0, 1) := by decide +kernel
theorem dX7_readFlow_77 : decode cX7_readFlow 77 = .ok (.getfield 18, 3) := by decide +kernel
theorem dX7_readFlow_80 : decode cX7_readFlow 80 = .ok (.iconst 1, 1) := by decide +kernel
theorem dX7_readFlow_81 : decode cX7_readFlow 81 = .ok (.bipush 50, 2) := by decide +kernel
theorem dX7_readFlow_83 : decode cX7_readFlow 83 = .ok (.invokevirtual 44, 3) := by decide +kernel
theorem dX7_readFlow_86 : decode cX7_readFlow 86 = .ok (.putfield 117, 3) := by decide +kernel
theorem dX7_readFlow_89 : decode cX7_readFlow 89 = .ok (.aload_n 2, 1) := by decide +kernel
theorem dX7_readFlow_90 : decode cX7_readFlow 90 = .ok (.aload_n 0, 1) := by decide +kernel
theorem dX7_readFlow_91 : decode cX7_readFlow 91 = .ok (.getfield 18, 3) := by decide +kernel
theorem dX7_readFlow_94 : decode cX7_readFlow 94 = .ok (.iconst 1, 1) := by decide +kernel
theorem dX7_readFlow_95 : decode cX7_readFlow 95 = .ok (.bipush 9, 2) := by decide +kernel
theorem dX7_readFlow_97 : decode cX7_readFlow 97 = .ok (.invokevirtual 44, 3) := by decide +kernel
theorem dX7_readFlow_100 : decode cX7_readFlow 100 = .ok (.putfield 120, 3) := by decide +kernel
theorem dX7_readFlow_103 : decode cX7_readFlow 103 = .ok (.aload_n 2, 1) := by decide +kernel
theorem dX7_readFlow_104 : decode cX7_readFlow 104 = .ok (.aload_n 0, 1) := by decide +kernel
theorem dX7_readFlow_105 : decode cX7_readFlow 105 = .ok (.getfield 18, 3) := by decide +kernel
theorem dX7_readFlow_108 : decode cX7_readFlow 108 = .ok (.aload_n 2, 1) := by decide +kernel
theorem dX7_readFlow_109 : decode cX7_readFlow 109 = .ok (.getfield 120, 3) := by decide +kernel
theorem dX7_readFlow_112 : decode cX7_readFlow 112 = .ok (.bipush 9, 2) := by decide +kernel
theorem dX7_readFlow_114 : decode cX7_readFlow 114 = .ok (.invokevirtual 44, 3) := by decide +kernel
theorem dX7_readFlow_117 : decode cX7_readFlow 117 = .ok (.putfield 123, 3) := by decide +kernel
theorem dX7_readFlow_120 : decode cX7_readFlow 120 = .ok (.aload_n 2, 1) := by decide +kernel
theorem dX7_readFlow_121 : decode cX7_readFlow 121 = .ok (.aload_n 0, 1) := by decide +kernel
theorem dX7_readFlow_122 : decode cX7_readFlow 122 = .ok (.getfield 18, 3) := by decide +kernel
theorem dX7_readFlow_125 : decode cX7_readFlow 125 = .ok (.ldc 126, 2) := by decide +kernel
theorem dX7_readFlow_127 : decode cX7_readFlow 127 = .ok (.invokevirtual 33, 3) := by decide +kernel
theorem dX7_readFlow_130 : decode cX7_readFlow 130 = .ok (.putfield 128, 3) := by decide +kernel
theorem dX7_readFlow_133 : decode cX7_readFlow 133 = .ok (.aload_n 2, 1) := by decide +kernel
theorem dX7_readFlow_134 : decode cX7_readFlow 134 = .ok (.getfield 128, 3) := by decide +kernel
theorem dX7_readFlow_137 : decode cX7_readFlow 137 = .ok (.ifCond .eq 11, 3) := by decide +kernel
theorem dX7_readFlow_140 : decode cX7_readFlow 140 = .ok (.aload_n 0, 1) := by decide +kernel
theorem dX7_readFlow_141 : decode cX7_readFlow 141 = .ok (.getfield 18, 3) := by decide +kernel
theorem dX7_readFlow_144 : decode cX7_readFlow 144 = .ok (.iconst 1, 1) := by decide +kernel
theorem dX7_readFlow_145 : decode cX7_readFlow 145 = .ok (.invokevirtual 41, 3) := by decide +kernel
theorem dX7_readFlow_148 : decode cX7_readFlow 148 = .ok (.aload_n 2, 1) := by decide +kernel
theorem dX7_readFlow_149 : decode cX7_readFlow 149 = .ok (.invokevirtual 131, 3) := by decide +kernel
theorem dX7_readFlow_152 : decode cX7_readFlow 152 = .ok (.aload_n 0, 1) := by decide +kernel
theorem dX7_readFlow_153 : decode cX7_readFlow 153 = .ok (.getfield 12, 3) := by decide +kernel
theorem dX7_readFlow_156 : decode cX7_readFlow 156 = .ok (.dup, 1) := by decide +kernel
theorem dX7_readFlow_157 : decode cX7_readFlow 157 = .ok (.getfield 97, 3) := by decide +kernel
theorem dX7_readFlow_160 : decode cX7_readFlow 160 = .ok (.iconst 1, 1) := by decide +kernel
theorem dX7_readFlow_161 : decode cX7_readFlow 161 = .ok (.iadd, 1) := by decide +kernel
theorem dX7_readFlow_162 : decode cX7_readFlow 162 = .ok (.putfield 97, 3) := by decide +kernel
theorem dX7_readFlow_165 : decode cX7_readFlow 165 = .ok (.return_, 1) := by decide +kernel
-- X5_arriveAll
set_option maxRecDepth 100000 in
set_option maxHeartbeats 4000000 in
theorem zm_X5_arriveAll {l : Launch} {G : zG} {i0 : Nat} {p1 : Int32} {p2 : Int32} {M : zM} {Kf : Int32 → zM → Prop} (h : zAt l G Y_X5_arriveAll (zEI G Y_X5_arriveAll Kf) 5 [(0, vr 15 i0), (1, vi p1), (2, vi p2), (3, vi 0), (4, vi 0)] [] M 0 0) : zCalI l G Y_X5_arriveAll 0 0 [vr 15 i0, vi p1, vi p2] M Kf := by
  refine zCal_of (lv := [(0, vr 15 i0), (1, vi p1), (2, vi p2)]) (by decide) rfl (zle rfl) rfl (fun hv => zlv_args (lv := [(0, vr 15 i0), (1, vi p1), (2, vi p2)]) rfl hv) ?_
  refine Z_iconst (v := 0) (by decide) dX5_arriveAll_0 ?_
  refine Z_istore_n (lv2 := [(3, vi 0), (0, vr 15 i0), (1, vi p1), (2, vi p2)]) dX5_arriveAll_1 rfl (by decide) rfl ?_
  refine Z_iconst (v := 0) (by decide) dX5_arriveAll_2 ?_
  refine Z_istore (lv2 := [(4, vi 0), (3, vi 0), (0, vr 15 i0), (1, vi p1), (2, vi p2)]) dX5_arriveAll_3 (by decide) rfl ?_
  exact Z_pick [2, 3, 4, 1, 0] rfl h
set_option maxRecDepth 100000 in
set_option maxHeartbeats 4000000 in
theorem zb_X5_arriveAll_5 {l : Launch} {G : zG} {i0 : Nat} {y1 : Int32} {y2 : Int32} {y3 : Int32} {y4 : Int32} {M : zM} {Kf : Int32 → zM → Prop} (h : ((y2 ≤ y4 → (Kf y3 M)) ∧ (¬ y2 ≤ y4 → (zCalI l G Y_X5_hasFlow 0 0 [vr 15 i0, vi y1] M (fun x2 M1 => ((x2 = 0 → (Kf y3 M1)) ∧ (¬ x2 = 0 → (zCalI l G Y_X5_arrive 0 0 [vr 15 i0, vi y1] M1 (fun x4 M3 => ((x4 = 2 → zAt l G Y_X5_arriveAll (zEI G Y_X5_arriveAll Kf) 31 [(0, vr 15 i0), (1, vi y1), (2, vi y2), (3, vi y3), (4, vi y4)] [] M3 0 0) ∧ (¬ x4 = 2 → zAt l G Y_X5_arriveAll (zEI G Y_X5_arriveAll Kf) 31 [(0, vr 15 i0), (1, vi y1), (2, vi y2), (3, vi (y3 + 1)), (4, vi y4)] [] M3 0 0))))))))))) : zAt l G Y_X5_arriveAll (zEI G Y_X5_arriveAll Kf) 5 [(0, vr 15 i0), (1, vi y1), (2, vi y2), (3, vi y3), (4, vi y4)] [] M 0 0 := by
  refine Z_iload dX5_arriveAll_5 4 rfl ?_
  refine Z_iload_n dX5_arriveAll_7 rfl 2 rfl ?_
  refine Z_icmp_ge (tgt := 37) dX5_arriveAll_8 (by decide) (fun q => ?_) (fun q => ?_)
  · have h := h.1 q
    refine Z_iload_n dX5_arriveAll_37 rfl 3 rfl ?_
    exact Z_iret rfl rfl dX5_arriveAll_38 (Nat.le_refl _) (Nat.le_refl _) ⟨_, rfl, h⟩
  · have h := h.2 q
    refine Z_aload_n dX5_arriveAll_11 rfl 0 rfl ?_
    refine Z_iload_n dX5_arriveAll_12 rfl 1 rfl ?_
    refine Z_callVI (as := [vi y1]) zRm_M zcv_X5_arriveAll_X5_hasFlow_95 (ci := 9) rfl rfl rfl rfl (zle rfl) dX5_arriveAll_13 ⟨Nat.le_refl _, Nat.le_refl _⟩ h (fun x2 M1 h => ?_)
    refine Z_if_eq (tgt := 37) dX5_arriveAll_16 (by decide) (fun q => ?_) (fun q => ?_)
    · have h := h.1 q
      refine Z_iload_n dX5_arriveAll_37 rfl 3 rfl ?_
      exact Z_iret rfl rfl dX5_arriveAll_38 (Nat.le_refl _) (Nat.le_refl _) ⟨_, rfl, h⟩
    · have h := h.2 q
      refine Z_aload_n dX5_arriveAll_19 rfl 0 rfl ?_
      refine Z_iload_n dX5_arriveAll_20 rfl 1 rfl ?_
      refine Z_callVI (as := [vi y1]) zRm_M zcv_X5_arriveAll_X5_arrive_154 (ci := 9) rfl rfl rfl rfl (zle rfl) dX5_arriveAll_21 ⟨Nat.le_refl _, Nat.le_refl _⟩ h (fun x4 M3 h => ?_)
      refine Z_iconst (v := 2) (by decide) dX5_arriveAll_24 ?_
      refine Z_icmp_eq (tgt := 31) dX5_arriveAll_25 (by decide) (fun q => ?_) (fun q => ?_)
      · have h := h.1 q
        exact h
      · have h := h.2 q
        refine Z_iinc (v := (y3 + 1)) (lv2 := [(3, vi (y3 + 1)), (0, vr 15 i0), (1, vi y1), (2, vi y2), (4, vi y4)]) dX5_arriveAll_28 3 rfl rfl (by decide) rfl ?_
        exact Z_pick [1, 2, 3, 0, 4] rfl h
set_option maxRecDepth 100000 in
set_option maxHeartbeats 4000000 in
theorem zb_X5_arriveAll_31 {l : Launch} {G : zG} {i0 : Nat} {y1 : Int32} {y2 : Int32} {y3 : Int32} {y4 : Int32} {M : zM} {Kf : Int32 → zM → Prop} (h : zAt l G Y_X5_arriveAll (zEI G Y_X5_arriveAll Kf) 5 [(0, vr 15 i0), (1, vi y1), (2, vi y2), (3, vi y3), (4, vi (y4 + 1))] [] M 0 0) : zAt l G Y_X5_arriveAll (zEI G Y_X5_arriveAll Kf) 31 [(0, vr 15 i0), (1, vi y1), (2, vi y2), (3, vi y3), (4, vi y4)] [] M 0 0 := by
  refine Z_iinc (v := (y4 + 1)) (lv2 := [(4, vi (y4 + 1)), (0, vr 15 i0), (1, vi y1), (2, vi y2), (3, vi y3)]) dX5_arriveAll_31 4 rfl rfl (by decide) rfl ?_
  refine Z_goto (tgt := 5) dX5_arriveAll_34 (by decide) ?_
  exact Z_pick [1, 2, 3, 4, 0] rfl h
-- X5_passTick
set_option maxRecDepth 100000 in
set_option maxHeartbeats 4000000 in
theorem zm_X5_passTick {l : Launch} {G : zG} {i0 : Nat} {M : zM} {Kf : zM → Prop} (h : zAt l G Y_X5_passTick (zEV G Y_X5_passTick Kf) 12 [(0, vr 15 i0), (1, vi 0)] [] (zsI M 15 i0 7 ((zmI M 15 i0 7) + 1)) 0 0) : zCalV l G Y_X5_passTick 0 0 [vr 15 i0] M Kf := by
  refine zCal_of (lv := [(0, vr 15 i0)]) (by decide) rfl (zle rfl) rfl (fun hv => zlv_args (lv := [(0, vr 15 i0)]) rfl hv) ?_
  refine Z_aload_n dX5_passTick_0 rfl 0 rfl ?_
  refine Z_dup rfl dX5_passTick_1 ?_
  refine Z_getI zfl_X5_57 dX5_passTick_2 ?_
  refine Z_iconst (v := 1) (by decide) dX5_passTick_5 ?_
  refine Z_iadd dX5_passTick_6 ?_
  refine Z_putI zfp_X5_57 rfl rfl dX5_passTick_7 ?_
  refine Z_iconst (v := 0) (by decide) dX5_passTick_10 ?_
  refine Z_istore_n (lv2 := [(1, vi 0), (0, vr 15 i0)]) dX5_passTick_11 rfl (by decide) rfl ?_
  exact Z_pick [1, 0] rfl h
set_option maxRecDepth 100000 in
set_option maxHeartbeats 4000000 in
theorem zb_X5_passTick_12 {l : Launch} {G : zG} {i0 : Nat} {y1 : Int32} {M : zM} {Kf : zM → Prop} (h : (((zmI M 15 i0 12) ≤ y1 → zAt l G Y_X5_passTick (zEV G Y_X5_passTick Kf) 84 [(0, vr 15 i0)] [] M 0 0) ∧ (¬ (zmI M 15 i0 12) ≤ y1 → ((6 ≤ y1 → zAt l G Y_X5_passTick (zEV G Y_X5_passTick Kf) 84 [(0, vr 15 i0)] [] M 0 0) ∧ (¬ 6 ≤ y1 → (vp_in y1 6 ∧ (zCalI l G Y_X1_sendsAt 0 0 [vr 17 (6 * i0 + y1.toNatClampNeg), vi (zmI M 15 i0 7)] M (fun x3 M2 => ((x3 = 0 → zAt l G Y_X5_passTick (zEV G Y_X5_passTick Kf) 78 [(0, vr 15 i0), (1, vi y1)] [] M2 0 0) ∧ (¬ x3 = 0 → (vp_in y1 6 ∧ (zCalV l G Y_X1_adapt 0 0 [vr 17 (6 * i0 + y1.toNatClampNeg)] M2 (fun M5 => zAt l G Y_X5_passTick (zEV G Y_X5_passTick Kf) 53 [(0, vr 15 i0), (1, vi y1), (2, vi 0)] [] M5 0 0))))))))))))) : zAt l G Y_X5_passTick (zEV G Y_X5_passTick Kf) 12 [(0, vr 15 i0), (1, vi y1)] [] M 0 0 := by
  refine Z_iload_n dX5_passTick_12 rfl 1 rfl ?_
  refine Z_aload_n dX5_passTick_13 rfl 0 rfl ?_
  refine Z_getI zfl_X5_73 dX5_passTick_14 ?_
  refine Z_icmp_ge (tgt := 84) dX5_passTick_17 (by decide) (fun q => ?_) (fun q => ?_)
  · have h := h.1 q
    exact Z_pick [0] rfl h
  · have h := h.2 q
    refine Z_iload_n dX5_passTick_20 rfl 1 rfl ?_
    refine Z_bipush (v := 6) (by decide) dX5_passTick_21 ?_
    refine Z_icmp_ge (tgt := 84) dX5_passTick_23 (by decide) (fun q => ?_) (fun q => ?_)
    · have h := h.1 q
      exact Z_pick [0] rfl h
    · have h := h.2 q
      refine Z_aload_n dX5_passTick_26 rfl 0 rfl ?_
      refine Z_getR (s1 := 16) (i1 := i0) zfl_X5_11 rfl (fun q => by first | exact q | decide) dX5_passTick_27 ?_
      refine Z_iload_n dX5_passTick_30 rfl 1 rfl ?_
      obtain ⟨g1, h⟩ := h
      refine Z_aald (s1 := 17) (i1 := (6 * i0 + y1.toNatClampNeg)) (n := 6) (t := 6) rfl (by decide) g1 rfl (fun z => zref_ok_16 g1 z) dX5_passTick_31 ?_
      refine Z_aload_n dX5_passTick_32 rfl 0 rfl ?_
      refine Z_getI zfl_X5_57 dX5_passTick_33 ?_
      refine Z_callVI (as := [vi (zmI M 15 i0 7)]) zRm_M zcv_X5_passTick_X1_sendsAt_157 (ci := 5) rfl rfl rfl rfl (zle rfl) dX5_passTick_36 ⟨Nat.le_refl _, Nat.le_refl _⟩ h (fun x3 M2 h => ?_)
      refine Z_if_eq (tgt := 78) dX5_passTick_39 (by decide) (fun q => ?_) (fun q => ?_)
      · have h := h.1 q
        exact h
      · have h := h.2 q
        refine Z_aload_n dX5_passTick_42 rfl 0 rfl ?_
        refine Z_getR (s1 := 16) (i1 := i0) zfl_X5_11 rfl (fun q => by first | exact q | decide) dX5_passTick_43 ?_
        refine Z_iload_n dX5_passTick_46 rfl 1 rfl ?_
        obtain ⟨g4, h⟩ := h
        refine Z_aald (s1 := 17) (i1 := (6 * i0 + y1.toNatClampNeg)) (n := 6) (t := 6) rfl (by decide) g4 rfl (fun z => zref_ok_16 g4 z) dX5_passTick_47 ?_
        refine Z_callVV (as := []) zRm_M zcv_X5_passTick_X1_adapt_160 (ci := 5) rfl rfl rfl rfl (zle rfl) dX5_passTick_48 ⟨Nat.le_refl _, Nat.le_refl _⟩ h (fun M5 h => ?_)
        refine Z_iconst (v := 0) (by decide) dX5_passTick_51 ?_
        refine Z_istore_n (lv2 := [(2, vi 0), (0, vr 15 i0), (1, vi y1)]) dX5_passTick_52 rfl (by decide) rfl ?_
        exact Z_pick [1, 2, 0] rfl h
set_option maxRecDepth 100000 in
set_option maxHeartbeats 4000000 in
theorem zb_X5_passTick_84 {l : Launch} {G : zG} {i0 : Nat} {M : zM} {Kf : zM → Prop} (h : (zCalV l G Y_X5_letLeave 0 0 [vr 15 i0, vi (if (zmI M 19 i0 1) < (zmI M 15 i0 1) then (zmI M 19 i0 1) else (zmI M 15 i0 1))] M (fun M1 => ((¬ (zmI M1 19 i0 1) = 0 → (Kf M1)) ∧ ((zmI M1 19 i0 1) = 0 → (Kf (zsI M1 15 i0 8 ((zmI M1 15 i0 8) - ((zmI M1 15 i0 8) >>> ((zmI M1 15 i0 5) &&& 31)))))))))) : zAt l G Y_X5_passTick (zEV G Y_X5_passTick Kf) 84 [(0, vr 15 i0)] [] M 0 0 := by
  refine Z_aload_n dX5_passTick_84 rfl 0 rfl ?_
  refine Z_aload_n dX5_passTick_85 rfl 0 rfl ?_
  refine Z_getI zfl_X5_39 dX5_passTick_86 ?_
  refine Z_aload_n dX5_passTick_89 rfl 0 rfl ?_
  refine Z_getR (s1 := 19) (i1 := i0) zfl_X5_20 rfl (fun q => by first | exact q | decide) dX5_passTick_90 ?_
  refine Z_getI zfl_X5_76 dX5_passTick_93 ?_
  refine Z_mmin zw_880 zw_797 zw_129 zw_798 zRm_M (by decide) (zle rfl) (Nat.zero_le _) (Nat.zero_le _) dX5_passTick_96 ?_
  refine Z_callVV (as := [vi (if (zmI M 19 i0 1) < (zmI M 15 i0 1) then (zmI M 19 i0 1) else (zmI M 15 i0 1))]) zRm_M zcv_X5_passTick_X5_letLeave_170 (ci := 9) rfl rfl rfl rfl (zle rfl) dX5_passTick_99 ⟨Nat.le_refl _, Nat.le_refl _⟩ h (fun M1 h => ?_)
  refine Z_aload_n dX5_passTick_102 rfl 0 rfl ?_
  refine Z_getR (s1 := 19) (i1 := i0) zfl_X5_20 rfl (fun q => by first | exact q | decide) dX5_passTick_103 ?_
  refine Z_getI zfl_X5_76 dX5_passTick_106 ?_
  refine Z_if_ne (tgt := 130) dX5_passTick_109 (by decide) (fun q => ?_) (fun q => ?_)
  · have h := h.1 q
    exact Z_vret rfl dX5_passTick_130 (Nat.le_refl _) (Nat.le_refl _) ⟨rfl, h⟩
  · have h := h.2 q
    refine Z_aload_n dX5_passTick_112 rfl 0 rfl ?_
    refine Z_dup rfl dX5_passTick_113 ?_
    refine Z_getI zfl_X5_60 dX5_passTick_114 ?_
    refine Z_aload_n dX5_passTick_117 rfl 0 rfl ?_
    refine Z_getI zfl_X5_60 dX5_passTick_118 ?_
    refine Z_aload_n dX5_passTick_121 rfl 0 rfl ?_
    refine Z_getI zfl_X5_51 dX5_passTick_122 ?_
    refine Z_ishr dX5_passTick_125 ?_
    refine Z_isub dX5_passTick_126 ?_
    refine Z_putI zfp_X5_60 rfl rfl dX5_passTick_127 ?_
    exact Z_vret rfl dX5_passTick_130 (Nat.le_refl _) (Nat.le_refl _) ⟨rfl, h⟩
set_option maxRecDepth 100000 in
set_option maxHeartbeats 4000000 in
theorem zb_X5_passTick_78 {l : Launch} {G : zG} {i0 : Nat} {y1 : Int32} {M : zM} {Kf : zM → Prop} (h : zAt l G Y_X5_passTick (zEV G Y_X5_passTick Kf) 12 [(0, vr 15 i0), (1, vi (y1 + 1))] [] M 0 0) : zAt l G Y_X5_passTick (zEV G Y_X5_passTick Kf) 78 [(0, vr 15 i0), (1, vi y1)] [] M 0 0 := by
  refine Z_iinc (v := (y1 + 1)) (lv2 := [(1, vi (y1 + 1)), (0, vr 15 i0)]) dX5_passTick_78 1 rfl rfl (by decide) rfl ?_
  refine Z_goto (tgt := 12) dX5_passTick_81 (by decide) ?_
  exact Z_pick [1, 0] rfl h
set_option maxRecDepth 100000 in
set_option maxHeartbeats 4000000 in
theorem zb_X5_passTick_53 {l : Launch} {G : zG} {i0 : Nat} {y1 : Int32} {y2 : Int32} {M : zM} {Kf : zM → Prop} (h : (vp_in y1 6 ∧ (((zmI M 17 (6 * i0 + y1.toNatClampNeg) 7) ≤ y2 → zAt l G Y_X5_passTick (zEV G Y_X5_passTick Kf) 78 [(0, vr 15 i0), (1, vi y1)] [] M 0 0) ∧ (¬ (zmI M 17 (6 * i0 + y1.toNatClampNeg) 7) ≤ y2 → (zCalI l G Y_X5_arrive 0 0 [vr 15 i0, vi y1] M (fun x3 M2 => zAt l G Y_X5_passTick (zEV G Y_X5_passTick Kf) 53 [(0, vr 15 i0), (1, vi y1), (2, vi (y2 + 1))] [] M2 0 0)))))) : zAt l G Y_X5_passTick (zEV G Y_X5_passTick Kf) 53 [(0, vr 15 i0), (1, vi y1), (2, vi y2)] [] M 0 0 := by
  refine Z_iload_n dX5_passTick_53 rfl 2 rfl ?_
  refine Z_aload_n dX5_passTick_54 rfl 0 rfl ?_
  refine Z_getR (s1 := 16) (i1 := i0) zfl_X5_11 rfl (fun q => by first | exact q | decide) dX5_passTick_55 ?_
  refine Z_iload_n dX5_passTick_58 rfl 1 rfl ?_
  obtain ⟨g1, h⟩ := h
  refine Z_aald (s1 := 17) (i1 := (6 * i0 + y1.toNatClampNeg)) (n := 6) (t := 6) rfl (by decide) g1 rfl (fun z => zref_ok_16 g1 z) dX5_passTick_59 ?_
  refine Z_getI zfl_X5_163 dX5_passTick_60 ?_
  refine Z_icmp_ge (tgt := 78) dX5_passTick_63 (by decide) (fun q => ?_) (fun q => ?_)
  · have h := h.1 q
    exact Z_pick [0, 1] rfl h
  · have h := h.2 q
    refine Z_aload_n dX5_passTick_66 rfl 0 rfl ?_
    refine Z_iload_n dX5_passTick_67 rfl 1 rfl ?_
    refine Z_callVI (as := [vi y1]) zRm_M zcv_X5_passTick_X5_arrive_154 (ci := 9) rfl rfl rfl rfl (zle rfl) dX5_passTick_68 ⟨Nat.le_refl _, Nat.le_refl _⟩ h (fun x3 M2 h => ?_)
    refine Z_pop rfl dX5_passTick_71 ?_
    refine Z_iinc (v := (y2 + 1)) (lv2 := [(2, vi (y2 + 1)), (0, vr 15 i0), (1, vi y1)]) dX5_passTick_72 2 rfl rfl (by decide) rfl ?_
    refine Z_goto (tgt := 53) dX5_passTick_75 (by decide) ?_
    exact Z_pick [1, 2, 0] rfl h
-- X7_readFlow
set_option maxRecDepth 100000 in
set_option maxHeartbeats 4000000 in
theorem zm_X7_readFlow {l : Launch} {G : zG} {mc ms : Nat} {M : zM} {Kf : zM → Prop} (h : (((zmI M 15 0 12) < 0 → zAt l G Y_X7_readFlow (zEM G Y_X7_readFlow mc ms (zKV Kf, none)) 18 [(0, vr 3 0)] [] M 0 0) ∧ (¬ (zmI M 15 0 12) < 0 → (((zmI M 15 0 12) < 6 → (vp_in (zmI M 15 0 12) 6 ∧ ((0 ≤ mc ∧ 0 ≤ ms ∧ zCalV l G Y_X4_expect 0 0 [vr 1 0, vi 1] M (fun M2 => ((∃ mc3 ms4 : Nat, (0 + mc3) ≤ mc ∧ (0 + ms4) ≤ ms ∧ zCalA l G Y_X7_newName mc3 ms4 [vr 3 0] M2 (fun x6 M5 => (((0 + mc3) ≤ mc ∧ (0 + ms4) ≤ ms ∧ zCalV l G Y_X4_expect 0 0 [vr 1 0, vi 1] (zsN M5 17 (6 * 0 + (zmI M 15 0 12).toNatClampNeg) 0 x6) (fun M7 => (((0 + mc3) ≤ mc ∧ (0 + ms4) ≤ ms ∧ zCalI l G Y_X4_number 0 0 [vr 1 0, vi 1, vi 99] M7 (fun x9 M8 => (((0 + mc3) ≤ mc ∧ (0 + ms4) ≤ ms ∧ zCalI l G Y_X4_number 0 0 [vr 1 0, vi 1, vi 50] (zsI M8 17 (6 * 0 + (zmI M 15 0 12).toNatClampNeg) 1 x9) (fun x11 M10 => (((0 + mc3) ≤ mc ∧ (0 + ms4) ≤ ms ∧ zCalI l G Y_X4_number 0 0 [vr 1 0, vi 1, vi 9] (zsI M10 17 (6 * 0 + (zmI M 15 0 12).toNatClampNeg) 2 x11) (fun x13 M12 => (((0 + mc3) ≤ mc ∧ (0 + ms4) ≤ ms ∧ zCalI l G Y_X4_number 0 0 [vr 1 0, vi (zmI (zsI M12 17 (6 * 0 + (zmI M 15 0 12).toNatClampNeg) 3 x13) 17 (6 * 0 + (zmI M 15 0 12).toNatClampNeg) 3), vi 9] (zsI M12 17 (6 * 0 + (zmI M 15 0 12).toNatClampNeg) 3 x13) (fun x15 M14 => (∀ a16 : Nat, zmT (zsI M14 17 (6 * 0 + (zmI M 15 0 12).toNatClampNeg) 4 x15) a16 = some [109, 97, 114, 107, 115] → (((0 + mc3) ≤ mc ∧ (0 + ms4) ≤ ms ∧ zCalI l G Y_X4_isWord 0 0 [vr 1 0, va a16] (zsI M14 17 (6 * 0 + (zmI M 15 0 12).toNatClampNeg) 4 x15) (fun x18 M17 => (zbit x18 ∧ (((zmI (zsI M17 17 (6 * 0 + (zmI M 15 0 12).toNatClampNeg) 5 x18) 17 (6 * 0 + (zmI M 15 0 12).toNatClampNeg) 5) = 0 → zAt l G Y_X7_readFlow (zEM G Y_X7_readFlow mc ms (zKV Kf, none)) 148 [(0, vr 3 0), (2, vr 17 (6 * 0 + (zmI M 15 0 12).toNatClampNeg))] [] (zsI M17 17 (6 * 0 + (zmI M 15 0 12).toNatClampNeg) 5 x18) (0 + mc3) (0 + ms4)) ∧ (¬ (zmI (zsI M17 17 (6 * 0 + (zmI M 15 0 12).toNatClampNeg) 5 x18) 17 (6 * 0 + (zmI M 15 0 12).toNatClampNeg) 5) = 0 → (((0 + mc3) ≤ mc ∧ (0 + ms4) ≤ ms ∧ zCalV l G Y_X4_expect 0 0 [vr 1 0, vi 1] (zsI M17 17 (6 * 0 + (zmI M 15 0 12).toNatClampNeg) 5 x18) (fun M20 => zAt l G Y_X7_readFlow (zEM G Y_X7_readFlow mc ms (zKV Kf, none)) 148 [(0, vr 3 0), (2, vr 17 (6 * 0 + (zmI M 15 0 12).toNatClampNeg))] [] M20 (0 + mc3) (0 + ms4)))))))))))))))))))))))))))))))))) ∧ (¬ (zmI M 15 0 12) < 6 → zAt l G Y_X7_readFlow (zEM G Y_X7_readFlow mc ms (zKV Kf, none)) 18 [(0, vr 3 0)] [] M 0 0))))) : zCalV l G Y_X7_readFlow mc ms [vr 3 0] M Kf := by
  refine zCal_of (lv := [(0, vr 3 0)]) (by decide) rfl (zle rfl) rfl (fun hv => zlv_args (lv := [(0, vr 3 0)]) rfl hv) ?_
  refine Z_aload_n dX7_readFlow_0 rfl 0 rfl ?_
  refine Z_getR (s1 := 15) (i1 := 0) zfl_X7_12 rfl (fun q => by first | exact q | decide) dX7_readFlow_1 ?_
  refine Z_getI zfl_X7_97 dX7_readFlow_4 ?_
  refine Z_istore_n (lv2 := [(1, vi (zmI M 15 0 12)), (0, vr 3 0)]) dX7_readFlow_7 rfl (by decide) rfl ?_
  refine Z_iload_n dX7_readFlow_8 rfl 0 rfl ?_
  refine Z_if_lt (tgt := 18) dX7_readFlow_9 (by decide) (fun q => ?_) (fun q => ?_)
  · have h := h.1 q
    exact Z_pick [1] rfl h
  · have h := h.2 q
    refine Z_iload_n dX7_readFlow_12 rfl 0 rfl ?_
    refine Z_bipush (v := 6) (by decide) dX7_readFlow_13 ?_
    refine Z_icmp_lt (tgt := 27) dX7_readFlow_15 (by decide) (fun q => ?_) (fun q => ?_)
    · have h := h.1 q
      refine Z_aload_n dX7_readFlow_27 rfl 1 rfl ?_
      refine Z_getR (s1 := 15) (i1 := 0) zfl_X7_12 rfl (fun q => by first | exact q | decide) dX7_readFlow_28 ?_
      refine Z_getR (s1 := 16) (i1 := 0) zfl_X7_100 rfl (fun q => by first | exact q | decide) dX7_readFlow_31 ?_
      refine Z_iload_n dX7_readFlow_34 rfl 0 rfl ?_
      obtain ⟨g1, h⟩ := h
      refine Z_aald (s1 := 17) (i1 := (6 * 0 + (zmI M 15 0 12).toNatClampNeg)) (n := 6) (t := 6) rfl (by decide) g1 rfl (fun z => zref_ok_16 g1 z) dX7_readFlow_35 ?_
      refine Z_astore_n (lv2 := [(2, vr 17 (6 * 0 + (zmI M 15 0 12).toNatClampNeg)), (1, vi (zmI M 15 0 12)), (0, vr 3 0)]) dX7_readFlow_36 rfl (by decide) rfl ?_
      refine Z_aload_n dX7_readFlow_37 rfl 2 rfl ?_
      refine Z_getR (s1 := 1) (i1 := 0) zfl_X7_18 rfl (fun q => by first | exact q | decide) dX7_readFlow_38 ?_
      refine Z_iconst (v := 1) (by decide) dX7_readFlow_41 ?_
      obtain ⟨hcm, hkm, h⟩ := h
      refine Z_callVV (as := [vi 1]) zRm_M zcv_X7_readFlow_X4_expect_41 (ci := 8) rfl rfl rfl rfl (zle rfl) dX7_readFlow_42 ⟨hcm, hkm⟩ h (fun M2 h => ?_)
      refine Z_aload_n dX7_readFlow_45 rfl 0 rfl ?_
      refine Z_aload_n dX7_readFlow_46 rfl 2 rfl ?_
      obtain ⟨mc3, ms4, hmM5, hnM5, h⟩ := h
      refine Z_callVA (as := []) zRm_M zcv_X7_readFlow_X7_newName_104 (ci := 11) rfl rfl rfl rfl (zle rfl) dX7_readFlow_47 ⟨hmM5, hnM5⟩ h (fun x6 M5 h => ?_)
      refine Z_putN zfp_X7_108 rfl rfl dX7_readFlow_50 ?_
      refine Z_aload_n dX7_readFlow_53 rfl 2 rfl ?_
      refine Z_getR (s1 := 1) (i1 := 0) zfl_X7_18 rfl (fun q => by first | exact q | decide) dX7_readFlow_54 ?_
      refine Z_iconst (v := 1) (by decide) dX7_readFlow_57 ?_
      obtain ⟨hcm, hkm, h⟩ := h
      refine Z_callVV (as := [vi 1]) zRm_M zcv_X7_readFlow_X4_expect_41 (ci := 8) rfl rfl rfl rfl (zle rfl) dX7_readFlow_58 ⟨hcm, hkm⟩ h (fun M7 h => ?_)
      refine Z_aload_n dX7_readFlow_61 rfl 0 rfl ?_
      refine Z_aload_n dX7_readFlow_62 rfl 2 rfl ?_
      refine Z_getR (s1 := 1) (i1 := 0) zfl_X7_18 rfl (fun q => by first | exact q | decide) dX7_readFlow_63 ?_
      refine Z_iconst (v := 1) (by decide) dX7_readFlow_66 ?_
      refine Z_bipush (v := 99) (by decide) dX7_readFlow_67 ?_
      obtain ⟨hcm, hkm, h⟩ := h
      refine Z_callVI (as := [vi 1, vi 99]) zRm_M zcv_X7_readFlow_X4_number_44 (ci := 8) rfl rfl rfl rfl (zle rfl) dX7_readFlow_69 ⟨hcm, hkm⟩ h (fun x9 M8 h => ?_)
      refine Z_putI zfp_X7_114 rfl rfl dX7_readFlow_72 ?_
      refine Z_aload_n dX7_readFlow_75 rfl 0 rfl ?_
      refine Z_aload_n dX7_readFlow_76 rfl 2 rfl ?_
      refine Z_getR (s1 := 1) (i1 := 0) zfl_X7_18 rfl (fun q => by first | exact q | decide) dX7_readFlow_77 ?_
      refine Z_iconst (v := 1) (by decide) dX7_readFlow_80 ?_
      refine Z_bipush (v := 50) (by decide) dX7_readFlow_81 ?_
      obtain ⟨hcm, hkm, h⟩ := h
      refine Z_callVI (as := [vi 1, vi 50]) zRm_M zcv_X7_readFlow_X4_number_44 (ci := 8) rfl rfl rfl rfl (zle rfl) dX7_readFlow_83 ⟨hcm, hkm⟩ h (fun x11 M10 h => ?_)
      refine Z_putI zfp_X7_117 rfl rfl dX7_readFlow_86 ?_
      refine Z_aload_n dX7_readFlow_89 rfl 0 rfl ?_
      refine Z_aload_n dX7_readFlow_90 rfl 2 rfl ?_
      refine Z_getR (s1 := 1) (i1 := 0) zfl_X7_18 rfl (fun q => by first | exact q | decide) dX7_readFlow_91 ?_
      refine Z_iconst (v := 1) (by decide) dX7_readFlow_94 ?_
      refine Z_bipush (v := 9) (by decide) dX7_readFlow_95 ?_
      obtain ⟨hcm, hkm, h⟩ := h
      refine Z_callVI (as := [vi 1, vi 9]) zRm_M zcv_X7_readFlow_X4_number_44 (ci := 8) rfl rfl rfl rfl (zle rfl) dX7_readFlow_97 ⟨hcm, hkm⟩ h (fun x13 M12 h => ?_)
      refine Z_putI zfp_X7_120 rfl rfl dX7_readFlow_100 ?_
      refine Z_aload_n dX7_readFlow_103 rfl 0 rfl ?_
      refine Z_aload_n dX7_readFlow_104 rfl 2 rfl ?_
      refine Z_getR (s1 := 1) (i1 := 0) zfl_X7_18 rfl (fun q => by first | exact q | decide) dX7_readFlow_105 ?_
      refine Z_aload_n dX7_readFlow_108 rfl 0 rfl ?_
      refine Z_getI zfl_X7_120 dX7_readFlow_109 ?_
      refine Z_bipush (v := 9) (by decide) dX7_readFlow_112 ?_
      obtain ⟨hcm, hkm, h⟩ := h
      refine Z_callVI (as := [vi (zmI (zsI M12 17 (6 * 0 + (zmI M 15 0 12).toNatClampNeg) 3 x13) 17 (6 * 0 + (zmI M 15 0 12).toNatClampNeg) 3), vi 9]) zRm_M zcv_X7_readFlow_X4_number_44 (ci := 8) rfl rfl rfl rfl (zle rfl) dX7_readFlow_114 ⟨hcm, hkm⟩ h (fun x15 M14 h => ?_)
      refine Z_putI zfp_X7_123 rfl rfl dX7_readFlow_117 ?_
      refine Z_aload_n dX7_readFlow_120 rfl 0 rfl ?_
      refine Z_aload_n dX7_readFlow_121 rfl 2 rfl ?_
      refine Z_getR (s1 := 1) (i1 := 0) zfl_X7_18 rfl (fun q => by first | exact q | decide) dX7_readFlow_122 ?_
      refine Z_ldcS (tx := "marks") (zLits_at 9 rfl) dX7_readFlow_125 (fun a16 qa16 => ?_)
      have h := h a16 qa16
      obtain ⟨hcm, hkm, h⟩ := h
      refine Z_callVI (as := [va a16]) zRm_M zcv_X7_readFlow_X4_isWord_33 (ci := 8) rfl rfl rfl rfl (zle rfl) dX7_readFlow_127 ⟨hcm, hkm⟩ h (fun x18 M17 h => ?_)
      obtain ⟨g19, h⟩ := h
      refine Z_putI zfp_X7_128 (zbit_n g19) (zbit_f g19) dX7_readFlow_130 ?_
      refine Z_aload_n dX7_readFlow_133 rfl 0 rfl ?_
      refine Z_getI zfl_X7_128 dX7_readFlow_134 ?_
      refine Z_if_eq (tgt := 148) dX7_readFlow_137 (by decide) (fun q => ?_) (fun q => ?_)
      · have h := h.1 q
        exact Z_pick [2, 0] rfl h
      · have h := h.2 q
        refine Z_aload_n dX7_readFlow_140 rfl 2 rfl ?_
        refine Z_getR (s1 := 1) (i1 := 0) zfl_X7_18 rfl (fun q => by first | exact q | decide) dX7_readFlow_141 ?_
        refine Z_iconst (v := 1) (by decide) dX7_readFlow_144 ?_
        obtain ⟨hcm, hkm, h⟩ := h
        refine Z_callVV (as := [vi 1]) zRm_M zcv_X7_readFlow_X4_expect_41 (ci := 8) rfl rfl rfl rfl (zle rfl) dX7_readFlow_145 ⟨hcm, hkm⟩ h (fun M20 h => ?_)
        exact Z_pick [2, 0] rfl h
    · have h := h.2 q
      exact Z_pick [1] rfl h
set_option maxRecDepth 100000 in
set_option maxHeartbeats 4000000 in
theorem zb_X7_readFlow_18 {l : Launch} {G : zG}  {mc ms : Nat} {c k : Nat} {M : zM} {Kf : zM → Prop} (h : ((c ≤ mc ∧ k ≤ ms ∧ zCalV l G Y_X4_fail 0 0 [vr 1 0, vi 5] M (fun M1 => (c ≤ mc ∧ k ≤ ms ∧ Kf M1))))) : zAt l G Y_X7_readFlow (zEM G Y_X7_readFlow mc ms (zKV Kf, none)) 18 [(0, vr 3 0)] [] M c k := by
  refine Z_aload_n dX7_readFlow_18 rfl 0 rfl ?_
  refine Z_getR (s1 := 1) (i1 := 0) zfl_X7_18 rfl (fun q => by first | exact q | decide) dX7_readFlow_19 ?_
  refine Z_iconst (v := 5) (by decide) dX7_readFlow_22 ?_
  obtain ⟨hcm, hkm, h⟩ := h
  refine Z_callVV (as := [vi 5]) zRm_M zcv_X7_readFlow_X4_fail_37 (ci := 8) rfl rfl rfl rfl (zle rfl) dX7_readFlow_23 ⟨hcm, hkm⟩ h (fun M1 h => ?_)
  obtain ⟨hc, hk, h⟩ := h
  exact Z_vret rfl dX7_readFlow_26 hc hk ⟨rfl, h⟩
set_option maxRecDepth 100000 in
set_option maxHeartbeats 4000000 in
theorem zb_X7_readFlow_148 {l : Launch} {G : zG} {y2 : Nat} {mc ms : Nat} {c k : Nat} {M : zM} {Kf : zM → Prop} (h : ((c ≤ mc ∧ k ≤ ms ∧ zCalV l G Y_X1_begin 0 0 [vr 17 y2] M (fun M1 => (c ≤ mc ∧ k ≤ ms ∧ Kf (zsI M1 15 0 12 ((zmI M1 15 0 12) + 1))))))) : zAt l G Y_X7_readFlow (zEM G Y_X7_readFlow mc ms (zKV Kf, none)) 148 [(0, vr 3 0), (2, vr 17 y2)] [] M c k := by
  refine Z_aload_n dX7_readFlow_148 rfl 1 rfl ?_
  obtain ⟨hcm, hkm, h⟩ := h
  refine Z_callVV (as := []) zRm_M zcv_X7_readFlow_X1_begin_131 (ci := 5) rfl rfl rfl rfl (zle rfl) dX7_readFlow_149 ⟨hcm, hkm⟩ h (fun M1 h => ?_)
  refine Z_aload_n dX7_readFlow_152 rfl 0 rfl ?_
  refine Z_getR (s1 := 15) (i1 := 0) zfl_X7_12 rfl (fun q => by first | exact q | decide) dX7_readFlow_153 ?_
  refine Z_dup rfl dX7_readFlow_156 ?_
  refine Z_getI zfl_X7_97 dX7_readFlow_157 ?_
  refine Z_iconst (v := 1) (by decide) dX7_readFlow_160 ?_
  refine Z_iadd dX7_readFlow_161 ?_
  refine Z_putI zfp_X7_97 rfl rfl dX7_readFlow_162 ?_
  obtain ⟨hc, hk, h⟩ := h
  exact Z_vret rfl dX7_readFlow_165 hc hk ⟨rfl, h⟩
-- X5_passTicks
set_option maxRecDepth 100000 in
set_option maxHeartbeats 4000000 in
theorem zm_X5_passTicks {l : Launch} {G : zG} {i0 : Nat} {p1 : Int32} {M : zM} {Kf : Int32 → zM → Prop} (h : ((((zmI M 15 i0 7) + p1) ≤ 9999 → zAt l G Y_X5_passTicks (zEI G Y_X5_passTicks Kf) 17 [(0, vr 15 i0), (1, vi p1), (2, vi 0)] [] M 0 0) ∧ (¬ ((zmI M 15 i0 7) + p1) ≤ 9999 → (Kf (-2) M)))) : zCalI l G Y_X5_passTicks 0 0 [vr 15 i0, vi p1] M Kf := by
  refine zCal_of (lv := [(0, vr 15 i0), (1, vi p1)]) (by decide) rfl (zle rfl) rfl (fun hv => zlv_args (lv := [(0, vr 15 i0), (1, vi p1)]) rfl hv) ?_
  refine Z_aload_n dX5_passTicks_0 rfl 0 rfl ?_
  refine Z_getI zfl_X5_57 dX5_passTicks_1 ?_
  refine Z_iload_n dX5_passTicks_4 rfl 1 rfl ?_
  refine Z_iadd dX5_passTicks_5 ?_
  refine Z_sipush (v := 9999) (by decide) dX5_passTicks_6 ?_
  refine Z_icmp_le (tgt := 15) dX5_passTicks_9 (by decide) (fun q => ?_) (fun q => ?_)
  · have h := h.1 q
    refine Z_iconst (v := 0) (by decide) dX5_passTicks_15 ?_
    refine Z_istore_n (lv2 := [(2, vi 0), (0, vr 15 i0), (1, vi p1)]) dX5_passTicks_16 rfl (by decide) rfl ?_
    exact Z_pick [1, 2, 0] rfl h
  · have h := h.2 q
    refine Z_bipush (v := (-2)) (by decide) dX5_passTicks_12 ?_
    exact Z_iret rfl rfl dX5_passTicks_14 (Nat.le_refl _) (Nat.le_refl _) ⟨_, rfl, h⟩
set_option maxRecDepth 100000 in
set_option maxHeartbeats 4000000 in
theorem zb_X5_passTicks_17 {l : Launch} {G : zG} {i0 : Nat} {y1 : Int32} {y2 : Int32} {M : zM} {Kf : Int32 → zM → Prop} (h : ((y1 ≤ y2 → (Kf (zmI M 15 i0 7) M)) ∧ (¬ y1 ≤ y2 → (zCalV l G Y_X5_passTick 0 0 [vr 15 i0] M (fun M1 => zAt l G Y_X5_passTicks (zEI G Y_X5_passTicks Kf) 17 [(0, vr 15 i0), (1, vi y1), (2, vi (y2 + 1))] [] M1 0 0))))) : zAt l G Y_X5_passTicks (zEI G Y_X5_passTicks Kf) 17 [(0, vr 15 i0), (1, vi y1), (2, vi y2)] [] M 0 0 := by
  refine Z_iload_n dX5_passTicks_17 rfl 2 rfl ?_
  refine Z_iload_n dX5_passTicks_18 rfl 1 rfl ?_
  refine Z_icmp_ge (tgt := 32) dX5_passTicks_19 (by decide) (fun q => ?_) (fun q => ?_)
  · have h := h.1 q
    refine Z_aload_n dX5_passTicks_32 rfl 0 rfl ?_
    refine Z_getI zfl_X5_57 dX5_passTicks_33 ?_
    exact Z_iret rfl rfl dX5_passTicks_36 (Nat.le_refl _) (Nat.le_refl _) ⟨_, rfl, h⟩
  · have h := h.2 q
    refine Z_aload_n dX5_passTicks_22 rfl 0 rfl ?_
    refine Z_callVV (as := []) zRm_M zcv_X5_passTicks_X5_passTick_183 (ci := 9) rfl rfl rfl rfl (zle rfl) dX5_passTicks_23 ⟨Nat.le_refl _, Nat.le_refl _⟩ h (fun M1 h => ?_)
    refine Z_iinc (v := (y2 + 1)) (lv2 := [(2, vi (y2 + 1)), (0, vr 15 i0), (1, vi y1)]) dX5_passTicks_26 2 rfl rfl (by decide) rfl ?_
    refine Z_goto (tgt := 17) dX5_passTicks_29 (by decide) ?_
    exact Z_pick [1, 2, 0] rfl h
-- X7_readStatement
set_option maxRecDepth 100000 in
set_option maxHeartbeats 4000000 in
theorem zm_X7_readStatement {l : Launch} {G : zG} {mc ms : Nat} {M : zM} {Kf : zM → Prop} (h : (∀ a1 : Nat, zmT M a1 = some [108, 105, 109, 105, 116, 115] → ((0 ≤ mc ∧ 0 ≤ ms ∧ zCalI l G Y_X4_isWord 0 0 [vr 1 0, va a1] M (fun x3 M2 => ((x3 = 0 → (∀ a4 : Nat, zmT M2 a4 = some [116, 111, 112] → ((0 ≤ mc ∧ 0 ≤ ms ∧ zCalI l G Y_X4_isWord 0 0 [vr 1 0, va a4] M2 (fun x6 M5 => ((x6 = 0 → (∀ a7 : Nat, zmT M5 a7 = some [119, 101, 105, 103, 104, 116] → ((0 ≤ mc ∧ 0 ≤ ms ∧ zCalI l G Y_X4_isWord 0 0 [vr 1 0, va a7] M5 (fun x9 M8 => ((x9 = 0 → (∀ a10 : Nat, zmT M8 a10 = some [103, 101, 110, 116, 108, 101] → ((0 ≤ mc ∧ 0 ≤ ms ∧ zCalI l G Y_X4_isWord 0 0 [vr 1 0, va a10] M8 (fun x12 M11 => ((x12 = 0 → (∀ a13 : Nat, zmT M11 a13 = some [115, 101, 101, 100] → ((0 ≤ mc ∧ 0 ≤ ms ∧ zCalI l G Y_X4_isWord 0 0 [vr 1 0, va a13] M11 (fun x15 M14 => ((x15 = 0 → (∀ a16 : Nat, zmT M14 a16 = some [102, 108, 111, 119] → ((0 ≤ mc ∧ 0 ≤ ms ∧ zCalI l G Y_X4_isWord 0 0 [vr 1 0, va a16] M14 (fun x18 M17 => ((x18 = 0 → ((0 ≤ mc ∧ 0 ≤ ms ∧ zCalV l G Y_X4_fail 0 0 [vr 1 0, vi 1] M17 (fun M19 => (0 ≤ mc ∧ 0 ≤ ms ∧ Kf M19))))) ∧ (¬ x18 = 0 → ((∃ mc20 ms21 : Nat, (0 + mc20) ≤ mc ∧ (0 + ms21) ≤ ms ∧ zCalV l G Y_X7_readFlow mc20 ms21 [vr 3 0] M17 (fun M22 => ((0 + mc20) ≤ mc ∧ (0 + ms21) ≤ ms ∧ Kf M22))))))))))) ∧ (¬ x15 = 0 → ((0 ≤ mc ∧ 0 ≤ ms ∧ zCalV l G Y_X7_readOnce 0 0 [vr 3 0, vi 16] M14 (fun M23 => ((0 ≤ mc ∧ 0 ≤ ms ∧ zCalI l G Y_X4_number 0 0 [vr 1 0, vi 0, vi 9999] M23 (fun x25 M24 => (0 ≤ mc ∧ 0 ≤ ms ∧ Kf (zsI M24 15 0 10 x25))))))))))))))) ∧ (¬ x12 = 0 → ((0 ≤ mc ∧ 0 ≤ ms ∧ zCalV l G Y_X7_readOnce 0 0 [vr 3 0, vi 8] M11 (fun M26 => ((0 ≤ mc ∧ 0 ≤ ms ∧ zCalI l G Y_X4_number 0 0 [vr 1 0, vi 0, vi 1] M26 (fun x28 M27 => (0 ≤ mc ∧ 0 ≤ ms ∧ Kf (zsI M27 15 0 6 x28))))))))))))))) ∧ (¬ x9 = 0 → ((0 ≤ mc ∧ 0 ≤ ms ∧ zCalV l G Y_X7_readOnce 0 0 [vr 3 0, vi 4] M8 (fun M29 => ((0 ≤ mc ∧ 0 ≤ ms ∧ zCalI l G Y_X4_number 0 0 [vr 1 0, vi 0, vi 10] M29 (fun x31 M30 => (0 ≤ mc ∧ 0 ≤ ms ∧ Kf (zsI M30 15 0 5 x31))))))))))))))) ∧ (¬ x6 = 0 → ((0 ≤ mc ∧ 0 ≤ ms ∧ zCalV l G Y_X7_readOnce 0 0 [vr 3 0, vi 2] M5 (fun M32 => ((0 ≤ mc ∧ 0 ≤ ms ∧ zCalI l G Y_X4_number 0 0 [vr 1 0, vi 0, vi 65536] M32 (fun x34 M33 => (0 ≤ mc ∧ 0 ≤ ms ∧ Kf (zsI M33 15 0 4 x34))))))))))))))) ∧ (¬ x3 = 0 → ((0 ≤ mc ∧ 0 ≤ ms ∧ zCalV l G Y_X7_readOnce 0 0 [vr 3 0, vi 1] M2 (fun M35 => ((0 ≤ mc ∧ 0 ≤ ms ∧ zCalI l G Y_X4_number 0 0 [vr 1 0, vi 0, vi 39] M35 (fun x37 M36 => ((0 ≤ mc ∧ 0 ≤ ms ∧ zCalI l G Y_X4_number 0 0 [vr 1 0, vi ((zmI (zsI M36 15 0 2 x37) 15 0 2) + 1), vi 40] (zsI M36 15 0 2 x37) (fun x39 M38 => (0 ≤ mc ∧ 0 ≤ ms ∧ Kf (zsI M38 15 0 3 x39)))))))))))))))))) : zCalV l G Y_X7_readStatement mc ms [vr 3 0] M Kf := by
  refine zCal_of (lv := [(0, vr 3 0)]) (by decide) rfl (zle rfl) rfl (fun hv => zlv_args (lv := [(0, vr 3 0)]) rfl hv) ?_
  refine Z_aload_n dX7_readStatement_0 rfl 0 rfl ?_
  refine Z_getR (s1 := 1) (i1 := 0) zfl_X7_18 rfl (fun q => by first | exact q | decide) dX7_readStatement_1 ?_
  refine Z_ldcS (tx := "limits") (zLits_at 2 rfl) dX7_readStatement_4 (fun a1 qa1 => ?_)
  have h := h a1 qa1
  obtain ⟨hcm, hkm, h⟩ := h
  refine Z_callVI (as := [va a1]) zRm_M zcv_X7_readStatement_X4_isWord_33 (ci := 8) rfl rfl rfl rfl (zle rfl) dX7_readStatement_6 ⟨hcm, hkm⟩ h (fun x3 M2 h => ?_)
  refine Z_if_eq (tgt := 62) dX7_readStatement_9 (by decide) (fun q => ?_) (fun q => ?_)
  · have h := h.1 q
    refine Z_aload_n dX7_readStatement_62 rfl 0 rfl ?_
    refine Z_getR (s1 := 1) (i1 := 0) zfl_X7_18 rfl (fun q => by first | exact q | decide) dX7_readStatement_63 ?_
    refine Z_ldcS (tx := "top") (zLits_at 3 rfl) dX7_readStatement_66 (fun a4 qa4 => ?_)
    have h := h a4 qa4
    obtain ⟨hcm, hkm, h⟩ := h
    refine Z_callVI (as := [va a4]) zRm_M zcv_X7_readStatement_X4_isWord_33 (ci := 8) rfl rfl rfl rfl (zle rfl) dX7_readStatement_68 ⟨hcm, hkm⟩ h (fun x6 M5 h => ?_)
    refine Z_if_eq (tgt := 99) dX7_readStatement_71 (by decide) (fun q => ?_) (fun q => ?_)
    · have h := h.1 q
      refine Z_aload_n dX7_readStatement_99 rfl 0 rfl ?_
      refine Z_getR (s1 := 1) (i1 := 0) zfl_X7_18 rfl (fun q => by first | exact q | decide) dX7_readStatement_100 ?_
      refine Z_ldcS (tx := "weight") (zLits_at 4 rfl) dX7_readStatement_103 (fun a7 qa7 => ?_)
      have h := h a7 qa7
      obtain ⟨hcm, hkm, h⟩ := h
      refine Z_callVI (as := [va a7]) zRm_M zcv_X7_readStatement_X4_isWord_33 (ci := 8) rfl rfl rfl rfl (zle rfl) dX7_readStatement_105 ⟨hcm, hkm⟩ h (fun x9 M8 h => ?_)
      refine Z_if_eq (tgt := 136) dX7_readStatement_108 (by decide) (fun q => ?_) (fun q => ?_)
      · have h := h.1 q
        refine Z_aload_n dX7_readStatement_136 rfl 0 rfl ?_
        refine Z_getR (s1 := 1) (i1 := 0) zfl_X7_18 rfl (fun q => by first | exact q | decide) dX7_readStatement_137 ?_
        refine Z_ldcS (tx := "gentle") (zLits_at 5 rfl) dX7_readStatement_140 (fun a10 qa10 => ?_)
        have h := h a10 qa10
        obtain ⟨hcm, hkm, h⟩ := h
        refine Z_callVI (as := [va a10]) zRm_M zcv_X7_readStatement_X4_isWord_33 (ci := 8) rfl rfl rfl rfl (zle rfl) dX7_readStatement_142 ⟨hcm, hkm⟩ h (fun x12 M11 h => ?_)
        refine Z_if_eq (tgt := 173) dX7_readStatement_145 (by decide) (fun q => ?_) (fun q => ?_)
        · have h := h.1 q
          refine Z_aload_n dX7_readStatement_173 rfl 0 rfl ?_
          refine Z_getR (s1 := 1) (i1 := 0) zfl_X7_18 rfl (fun q => by first | exact q | decide) dX7_readStatement_174 ?_
          refine Z_ldcS (tx := "seed") (zLits_at 6 rfl) dX7_readStatement_177 (fun a13 qa13 => ?_)
          have h := h a13 qa13
          obtain ⟨hcm, hkm, h⟩ := h
          refine Z_callVI (as := [va a13]) zRm_M zcv_X7_readStatement_X4_isWord_33 (ci := 8) rfl rfl rfl rfl (zle rfl) dX7_readStatement_179 ⟨hcm, hkm⟩ h (fun x15 M14 h => ?_)
          refine Z_if_eq (tgt := 212) dX7_readStatement_182 (by decide) (fun q => ?_) (fun q => ?_)
          · have h := h.1 q
            refine Z_aload_n dX7_readStatement_212 rfl 0 rfl ?_
            refine Z_getR (s1 := 1) (i1 := 0) zfl_X7_18 rfl (fun q => by first | exact q | decide) dX7_readStatement_213 ?_
            refine Z_ldcS (tx := "flow") (zLits_at 7 rfl) dX7_readStatement_216 (fun a16 qa16 => ?_)
            have h := h a16 qa16
            obtain ⟨hcm, hkm, h⟩ := h
            refine Z_callVI (as := [va a16]) zRm_M zcv_X7_readStatement_X4_isWord_33 (ci := 8) rfl rfl rfl rfl (zle rfl) dX7_readStatement_218 ⟨hcm, hkm⟩ h (fun x18 M17 h => ?_)
            refine Z_if_eq (tgt := 231) dX7_readStatement_221 (by decide) (fun q => ?_) (fun q => ?_)
            · have h := h.1 q
              refine Z_aload_n dX7_readStatement_231 rfl 0 rfl ?_
              refine Z_getR (s1 := 1) (i1 := 0) zfl_X7_18 rfl (fun q => by first | exact q | decide) dX7_readStatement_232 ?_
              refine Z_iconst (v := 1) (by decide) dX7_readStatement_235 ?_
              obtain ⟨hcm, hkm, h⟩ := h
              refine Z_callVV (as := [vi 1]) zRm_M zcv_X7_readStatement_X4_fail_37 (ci := 8) rfl rfl rfl rfl (zle rfl) dX7_readStatement_236 ⟨hcm, hkm⟩ h (fun M19 h => ?_)
              obtain ⟨hc, hk, h⟩ := h
              exact Z_vret rfl dX7_readStatement_239 hc hk ⟨rfl, h⟩
            · have h := h.2 q
              refine Z_aload_n dX7_readStatement_224 rfl 0 rfl ?_
              obtain ⟨mc20, ms21, hmM22, hnM22, h⟩ := h
              refine Z_callVV (as := []) zRm_M zcv_X7_readStatement_X7_readFlow_94 (ci := 11) rfl rfl rfl rfl (zle rfl) dX7_readStatement_225 ⟨hmM22, hnM22⟩ h (fun M22 h => ?_)
              refine Z_goto (tgt := 239) dX7_readStatement_228 (by decide) ?_
              obtain ⟨hc, hk, h⟩ := h
              exact Z_vret rfl dX7_readStatement_239 hc hk ⟨rfl, h⟩
          · have h := h.2 q
            refine Z_aload_n dX7_readStatement_185 rfl 0 rfl ?_
            refine Z_bipush (v := 16) (by decide) dX7_readStatement_186 ?_
            obtain ⟨hcm, hkm, h⟩ := h
            refine Z_callVV (as := [vi 16]) zRm_M zcv_X7_readStatement_X7_readOnce_65 (ci := 11) rfl rfl rfl rfl (zle rfl) dX7_readStatement_188 ⟨hcm, hkm⟩ h (fun M23 h => ?_)
            refine Z_aload_n dX7_readStatement_191 rfl 0 rfl ?_
            refine Z_getR (s1 := 15) (i1 := 0) zfl_X7_12 rfl (fun q => by first | exact q | decide) dX7_readStatement_192 ?_
            refine Z_aload_n dX7_readStatement_195 rfl 0 rfl ?_
            refine Z_getR (s1 := 1) (i1 := 0) zfl_X7_18 rfl (fun q => by first | exact q | decide) dX7_readStatement_196 ?_
            refine Z_iconst (v := 0) (by decide) dX7_readStatement_199 ?_
            refine Z_sipush (v := 9999) (by decide) dX7_readStatement_200 ?_
            obtain ⟨hcm, hkm, h⟩ := h
            refine Z_callVI (as := [vi 0, vi 9999]) zRm_M zcv_X7_readStatement_X4_number_44 (ci := 8) rfl rfl rfl rfl (zle rfl) dX7_readStatement_203 ⟨hcm, hkm⟩ h (fun x25 M24 h => ?_)
            refine Z_putI zfp_X7_89 rfl rfl dX7_readStatement_206 ?_
            refine Z_goto (tgt := 239) dX7_readStatement_209 (by decide) ?_
            obtain ⟨hc, hk, h⟩ := h
            exact Z_vret rfl dX7_readStatement_239 hc hk ⟨rfl, h⟩
        · have h := h.2 q
          refine Z_aload_n dX7_readStatement_148 rfl 0 rfl ?_
          refine Z_bipush (v := 8) (by decide) dX7_readStatement_149 ?_
          obtain ⟨hcm, hkm, h⟩ := h
          refine Z_callVV (as := [vi 8]) zRm_M zcv_X7_readStatement_X7_readOnce_65 (ci := 11) rfl rfl rfl rfl (zle rfl) dX7_readStatement_151 ⟨hcm, hkm⟩ h (fun M26 h => ?_)
          refine Z_aload_n dX7_readStatement_154 rfl 0 rfl ?_
          refine Z_getR (s1 := 15) (i1 := 0) zfl_X7_12 rfl (fun q => by first | exact q | decide) dX7_readStatement_155 ?_
          refine Z_aload_n dX7_readStatement_158 rfl 0 rfl ?_
          refine Z_getR (s1 := 1) (i1 := 0) zfl_X7_18 rfl (fun q => by first | exact q | decide) dX7_readStatement_159 ?_
          refine Z_iconst (v := 0) (by decide) dX7_readStatement_162 ?_
          refine Z_iconst (v := 1) (by decide) dX7_readStatement_163 ?_
          obtain ⟨hcm, hkm, h⟩ := h
          refine Z_callVI (as := [vi 0, vi 1]) zRm_M zcv_X7_readStatement_X4_number_44 (ci := 8) rfl rfl rfl rfl (zle rfl) dX7_readStatement_164 ⟨hcm, hkm⟩ h (fun x28 M27 h => ?_)
          refine Z_putI zfp_X7_85 rfl rfl dX7_readStatement_167 ?_
          refine Z_goto (tgt := 239) dX7_readStatement_170 (by decide) ?_
          obtain ⟨hc, hk, h⟩ := h
          exact Z_vret rfl dX7_readStatement_239 hc hk ⟨rfl, h⟩
      · have h := h.2 q
        refine Z_aload_n dX7_readStatement_111 rfl 0 rfl ?_
        refine Z_iconst (v := 4) (by decide) dX7_readStatement_112 ?_
        obtain ⟨hcm, hkm, h⟩ := h
        refine Z_callVV (as := [vi 4]) zRm_M zcv_X7_readStatement_X7_readOnce_65 (ci := 11) rfl rfl rfl rfl (zle rfl) dX7_readStatement_113 ⟨hcm, hkm⟩ h (fun M29 h => ?_)
        refine Z_aload_n dX7_readStatement_116 rfl 0 rfl ?_
        refine Z_getR (s1 := 15) (i1 := 0) zfl_X7_12 rfl (fun q => by first | exact q | decide) dX7_readStatement_117 ?_
        refine Z_aload_n dX7_readStatement_120 rfl 0 rfl ?_
        refine Z_getR (s1 := 1) (i1 := 0) zfl_X7_18 rfl (fun q => by first | exact q | decide) dX7_readStatement_121 ?_
        refine Z_iconst (v := 0) (by decide) dX7_readStatement_124 ?_
        refine Z_bipush (v := 10) (by decide) dX7_readStatement_125 ?_
        obtain ⟨hcm, hkm, h⟩ := h
        refine Z_callVI (as := [vi 0, vi 10]) zRm_M zcv_X7_readStatement_X4_number_44 (ci := 8) rfl rfl rfl rfl (zle rfl) dX7_readStatement_127 ⟨hcm, hkm⟩ h (fun x31 M30 h => ?_)
        refine Z_putI zfp_X7_81 rfl rfl dX7_readStatement_130 ?_
        refine Z_goto (tgt := 239) dX7_readStatement_133 (by decide) ?_
        obtain ⟨hc, hk, h⟩ := h
        exact Z_vret rfl dX7_readStatement_239 hc hk ⟨rfl, h⟩
    · have h := h.2 q
      refine Z_aload_n dX7_readStatement_74 rfl 0 rfl ?_
      refine Z_iconst (v := 2) (by decide) dX7_readStatement_75 ?_
      obtain ⟨hcm, hkm, h⟩ := h
      refine Z_callVV (as := [vi 2]) zRm_M zcv_X7_readStatement_X7_readOnce_65 (ci := 11) rfl rfl rfl rfl (zle rfl) dX7_readStatement_76 ⟨hcm, hkm⟩ h (fun M32 h => ?_)
      refine Z_aload_n dX7_readStatement_79 rfl 0 rfl ?_
      refine Z_getR (s1 := 15) (i1 := 0) zfl_X7_12 rfl (fun q => by first | exact q | decide) dX7_readStatement_80 ?_
      refine Z_aload_n dX7_readStatement_83 rfl 0 rfl ?_
      refine Z_getR (s1 := 1) (i1 := 0) zfl_X7_18 rfl (fun q => by first | exact q | decide) dX7_readStatement_84 ?_
      refine Z_iconst (v := 0) (by decide) dX7_readStatement_87 ?_
      refine Z_ldc (v := 65536) zw_627 dX7_readStatement_88 ?_
      obtain ⟨hcm, hkm, h⟩ := h
      refine Z_callVI (as := [vi 0, vi 65536]) zRm_M zcv_X7_readStatement_X4_number_44 (ci := 8) rfl rfl rfl rfl (zle rfl) dX7_readStatement_90 ⟨hcm, hkm⟩ h (fun x34 M33 h => ?_)
      refine Z_putI zfp_X7_77 rfl rfl dX7_readStatement_93 ?_
      refine Z_goto (tgt := 239) dX7_readStatement_96 (by decide) ?_
      obtain ⟨hc, hk, h⟩ := h
      exact Z_vret rfl dX7_readStatement_239 hc hk ⟨rfl, h⟩
  · have h := h.2 q
    refine Z_aload_n dX7_readStatement_12 rfl 0 rfl ?_
    refine Z_iconst (v := 1) (by decide) dX7_readStatement_13 ?_
    obtain ⟨hcm, hkm, h⟩ := h
    refine Z_callVV (as := [vi 1]) zRm_M zcv_X7_readStatement_X7_readOnce_65 (ci := 11) rfl rfl rfl rfl (zle rfl) dX7_readStatement_14 ⟨hcm, hkm⟩ h (fun M35 h => ?_)
    refine Z_aload_n dX7_readStatement_17 rfl 0 rfl ?_
    refine Z_getR (s1 := 15) (i1 := 0) zfl_X7_12 rfl (fun q => by first | exact q | decide) dX7_readStatement_18 ?_
    refine Z_aload_n dX7_readStatement_21 rfl 0 rfl ?_
    refine Z_getR (s1 := 1) (i1 := 0) zfl_X7_18 rfl (fun q => by first | exact q | decide) dX7_readStatement_22 ?_
    refine Z_iconst (v := 0) (by decide) dX7_readStatement_25 ?_
    refine Z_bipush (v := 39) (by decide) dX7_readStatement_26 ?_
    obtain ⟨hcm, hkm, h⟩ := h
    refine Z_callVI (as := [vi 0, vi 39]) zRm_M zcv_X7_readStatement_X4_number_44 (ci := 8) rfl rfl rfl rfl (zle rfl) dX7_readStatement_28 ⟨hcm, hkm⟩ h (fun x37 M36 h => ?_)
    refine Z_putI zfp_X7_68 rfl rfl dX7_readStatement_31 ?_
    refine Z_aload_n dX7_readStatement_34 rfl 0 rfl ?_
    refine Z_getR (s1 := 15) (i1 := 0) zfl_X7_12 rfl (fun q => by first | exact q | decide) dX7_readStatement_35 ?_
    refine Z_aload_n dX7_readStatement_38 rfl 0 rfl ?_
    refine Z_getR (s1 := 1) (i1 := 0) zfl_X7_18 rfl (fun q => by first | exact q | decide) dX7_readStatement_39 ?_
    refine Z_aload_n dX7_readStatement_42 rfl 0 rfl ?_
    refine Z_getR (s1 := 15) (i1 := 0) zfl_X7_12 rfl (fun q => by first | exact q | decide) dX7_readStatement_43 ?_
    refine Z_getI zfl_X7_68 dX7_readStatement_46 ?_
    refine Z_iconst (v := 1) (by decide) dX7_readStatement_49 ?_
    refine Z_iadd dX7_readStatement_50 ?_
    refine Z_bipush (v := 40) (by decide) dX7_readStatement_51 ?_
    obtain ⟨hcm, hkm, h⟩ := h
    refine Z_callVI (as := [vi ((zmI (zsI M36 15 0 2 x37) 15 0 2) + 1), vi 40]) zRm_M zcv_X7_readStatement_X4_number_44 (ci := 8) rfl rfl rfl rfl (zle rfl) dX7_readStatement_53 ⟨hcm, hkm⟩ h (fun x39 M38 h => ?_)
    refine Z_putI zfp_X7_71 rfl rfl dX7_readStatement_56 ?_
    refine Z_goto (tgt := 239) dX7_readStatement_59 (by decide) ?_
    obtain ⟨hc, hk, h⟩ := h
    exact Z_vret rfl dX7_readStatement_239 hc hk ⟨rfl, h⟩
-- X6_doOrder
set_option maxRecDepth 100000 in
set_option maxHeartbeats 4000000 in
theorem zm_X6_doOrder {l : Launch} {G : zG} {p1 : Int32} {M : zM} {Kf : Int32 → zM → Prop} (h : (vp_in p1 60 ∧ (vp_in p1 60 ∧ (vp_in p1 60 ∧ (((zmI M 5 0 p1.toNatClampNeg) = 0 → (zCalI l G Y_X5_passTicks 0 0 [vr 15 1, vi (zmI M 6 0 p1.toNatClampNeg)] M (fun x5 M4 => (Kf x5 M4)))) ∧ ((zmI M 5 0 p1.toNatClampNeg) = 1 → (zCalI l G Y_X5_arriveAll 0 0 [vr 15 1, vi (zmI M 6 0 p1.toNatClampNeg), vi (zmI M 7 0 p1.toNatClampNeg)] M (fun x7 M6 => (Kf x7 M6)))) ∧ ((zmI M 5 0 p1.toNatClampNeg) = 2 → (zCalI l G Y_X5_changeLimits 0 0 [vr 15 1, vi (zmI M 6 0 p1.toNatClampNeg), vi (zmI M 7 0 p1.toNatClampNeg)] M (fun x9 M8 => (Kf x9 M8)))) ∧ ((zmI M 5 0 p1.toNatClampNeg) = 3 → (zCalI l G Y_X5_changeTop 0 0 [vr 15 1, vi (zmI M 6 0 p1.toNatClampNeg)] M (fun x11 M10 => (Kf x11 M10)))) ∧ ((zmI M 5 0 p1.toNatClampNeg) = 4 → (zCalI l G Y_X5_changeWeight 0 0 [vr 15 1, vi (zmI M 6 0 p1.toNatClampNeg)] M (fun x13 M12 => (Kf x13 M12)))) ∧ ((zmI M 5 0 p1.toNatClampNeg) = 5 → (zCalI l G Y_X5_changeGentle 0 0 [vr 15 1, vi (zmI M 6 0 p1.toNatClampNeg)] M (fun x15 M14 => (Kf x15 M14)))) ∧ (¬ (zmI M 5 0 p1.toNatClampNeg) = 0 ∧ ¬ (zmI M 5 0 p1.toNatClampNeg) = 1 ∧ ¬ (zmI M 5 0 p1.toNatClampNeg) = 2 ∧ ¬ (zmI M 5 0 p1.toNatClampNeg) = 3 ∧ ¬ (zmI M 5 0 p1.toNatClampNeg) = 4 ∧ ¬ (zmI M 5 0 p1.toNatClampNeg) = 5 → (vp_in p1 60 ∧ ((¬ (zmI M 5 0 p1.toNatClampNeg) = 7 → zAt l G Y_X6_doOrder (zEI G Y_X6_doOrder Kf) 137 [] [vi 0, vi (zmI M 6 0 p1.toNatClampNeg), vr 15 1] M 0 0) ∧ ((zmI M 5 0 p1.toNatClampNeg) = 7 → zAt l G Y_X6_doOrder (zEI G Y_X6_doOrder Kf) 137 [] [vi 1, vi (zmI M 6 0 p1.toNatClampNeg), vr 15 1] M 0 0))))))))) : zCalI l G Y_X6_doOrder 0 0 [vr 4 0, vi p1] M Kf := by
  refine zCal_of (lv := [(0, vr 4 0), (1, vi p1)]) (by decide) rfl (zle rfl) rfl (fun hv => zlv_args (lv := [(0, vr 4 0), (1, vi p1)]) rfl hv) ?_
  refine Z_aload_n dX6_doOrder_0 rfl 0 rfl ?_
  refine Z_getR (s1 := 6) (i1 := 0) zfl_X6_15 rfl (fun q => by first | exact q | decide) dX6_doOrder_1 ?_
  refine Z_iload_n dX6_doOrder_4 rfl 1 rfl ?_
  obtain ⟨g1, h⟩ := h
  refine Z_iald (n := 60) rfl g1 dX6_doOrder_5 ?_
  refine Z_istore_n (lv2 := [(2, vi (zmI M 6 0 p1.toNatClampNeg)), (0, vr 4 0), (1, vi p1)]) dX6_doOrder_6 rfl (by decide) rfl ?_
  refine Z_aload_n dX6_doOrder_7 rfl 1 rfl ?_
  refine Z_getR (s1 := 7) (i1 := 0) zfl_X6_18 rfl (fun q => by first | exact q | decide) dX6_doOrder_8 ?_
  refine Z_iload_n dX6_doOrder_11 rfl 2 rfl ?_
  obtain ⟨g2, h⟩ := h
  refine Z_iald (n := 60) rfl g2 dX6_doOrder_12 ?_
  refine Z_istore_n (lv2 := [(3, vi (zmI M 7 0 p1.toNatClampNeg)), (2, vi (zmI M 6 0 p1.toNatClampNeg)), (0, vr 4 0), (1, vi p1)]) dX6_doOrder_13 rfl (by decide) rfl ?_
  refine Z_aload_n dX6_doOrder_14 rfl 2 rfl ?_
  refine Z_getR (s1 := 5) (i1 := 0) zfl_X6_11 rfl (fun q => by first | exact q | decide) dX6_doOrder_15 ?_
  refine Z_iload_n dX6_doOrder_18 rfl 3 rfl ?_
  obtain ⟨g3, h⟩ := h
  refine Z_iald (n := 60) rfl g3 dX6_doOrder_19 ?_
  by_cases qs0 : (zmI M 5 0 p1.toNatClampNeg) = 0
  · have h := h.1 qs0
    refine Z_tabIn (x := (zmI M 5 0 p1.toNatClampNeg)) dX6_doOrder_20 (j := 0) (by rw [qs0]; decide) (off := 40) (tgt := 60) rfl (by decide) ?_
    refine Z_aload_n dX6_doOrder_60 rfl 2 rfl ?_
    refine Z_getR (s1 := 15) (i1 := 1) zfl_X6_31 rfl (fun q => by first | exact q | decide) dX6_doOrder_61 ?_
    refine Z_iload_n dX6_doOrder_64 rfl 1 rfl ?_
    refine Z_callVI (as := [vi (zmI M 6 0 p1.toNatClampNeg)]) zRm_M zcv_X6_doOrder_X5_passTicks_126 (ci := 9) rfl rfl rfl rfl (zle rfl) dX6_doOrder_65 ⟨Nat.le_refl _, Nat.le_refl _⟩ h (fun x5 M4 h => ?_)
    exact Z_iret rfl rfl dX6_doOrder_68 (Nat.le_refl _) (Nat.le_refl _) ⟨_, rfl, h⟩
  by_cases qs1 : (zmI M 5 0 p1.toNatClampNeg) = 1
  · have h := h.2.1 qs1
    refine Z_tabIn (x := (zmI M 5 0 p1.toNatClampNeg)) dX6_doOrder_20 (j := 1) (by rw [qs1]; decide) (off := 49) (tgt := 69) rfl (by decide) ?_
    refine Z_aload_n dX6_doOrder_69 rfl 2 rfl ?_
    refine Z_getR (s1 := 15) (i1 := 1) zfl_X6_31 rfl (fun q => by first | exact q | decide) dX6_doOrder_70 ?_
    refine Z_iload_n dX6_doOrder_73 rfl 1 rfl ?_
    refine Z_iload_n dX6_doOrder_74 rfl 0 rfl ?_
    refine Z_callVI (as := [vi (zmI M 6 0 p1.toNatClampNeg), vi (zmI M 7 0 p1.toNatClampNeg)]) zRm_M zcv_X6_doOrder_X5_arriveAll_131 (ci := 9) rfl rfl rfl rfl (zle rfl) dX6_doOrder_75 ⟨Nat.le_refl _, Nat.le_refl _⟩ h (fun x7 M6 h => ?_)
    exact Z_iret rfl rfl dX6_doOrder_78 (Nat.le_refl _) (Nat.le_refl _) ⟨_, rfl, h⟩
  by_cases qs2 : (zmI M 5 0 p1.toNatClampNeg) = 2
  · have h := h.2.2.1 qs2
    refine Z_tabIn (x := (zmI M 5 0 p1.toNatClampNeg)) dX6_doOrder_20 (j := 2) (by rw [qs2]; decide) (off := 59) (tgt := 79) rfl (by decide) ?_
    refine Z_aload_n dX6_doOrder_79 rfl 2 rfl ?_
    refine Z_getR (s1 := 15) (i1 := 1) zfl_X6_31 rfl (fun q => by first | exact q | decide) dX6_doOrder_80 ?_
    refine Z_iload_n dX6_doOrder_83 rfl 1 rfl ?_
    refine Z_iload_n dX6_doOrder_84 rfl 0 rfl ?_
    refine Z_callVI (as := [vi (zmI M 6 0 p1.toNatClampNeg), vi (zmI M 7 0 p1.toNatClampNeg)]) zRm_M zcv_X6_doOrder_X5_changeLimits_134 (ci := 9) rfl rfl rfl rfl (zle rfl) dX6_doOrder_85 ⟨Nat.le_refl _, Nat.le_refl _⟩ h (fun x9 M8 h => ?_)
    exact Z_iret rfl rfl dX6_doOrder_88 (Nat.le_refl _) (Nat.le_refl _) ⟨_, rfl, h⟩
  by_cases qs3 : (zmI M 5 0 p1.toNatClampNeg) = 3
  · have h := h.2.2.2.1 qs3
    refine Z_tabIn (x := (zmI M 5 0 p1.toNatClampNeg)) dX6_doOrder_20 (j := 3) (by rw [qs3]; decide) (off := 69) (tgt := 89) rfl (by decide) ?_
    refine Z_aload_n dX6_doOrder_89 rfl 2 rfl ?_
    refine Z_getR (s1 := 15) (i1 := 1) zfl_X6_31 rfl (fun q => by first | exact q | decide) dX6_doOrder_90 ?_
    refine Z_iload_n dX6_doOrder_93 rfl 1 rfl ?_
    refine Z_callVI (as := [vi (zmI M 6 0 p1.toNatClampNeg)]) zRm_M zcv_X6_doOrder_X5_changeTop_137 (ci := 9) rfl rfl rfl rfl (zle rfl) dX6_doOrder_94 ⟨Nat.le_refl _, Nat.le_refl _⟩ h (fun x11 M10 h => ?_)
    exact Z_iret rfl rfl dX6_doOrder_97 (Nat.le_refl _) (Nat.le_refl _) ⟨_, rfl, h⟩
  by_cases qs4 : (zmI M 5 0 p1.toNatClampNeg) = 4
  · have h := h.2.2.2.2.1 qs4
    refine Z_tabIn (x := (zmI M 5 0 p1.toNatClampNeg)) dX6_doOrder_20 (j := 4) (by rw [qs4]; decide) (off := 78) (tgt := 98) rfl (by decide) ?_
    refine Z_aload_n dX6_doOrder_98 rfl 2 rfl ?_
    refine Z_getR (s1 := 15) (i1 := 1) zfl_X6_31 rfl (fun q => by first | exact q | decide) dX6_doOrder_99 ?_
    refine Z_iload_n dX6_doOrder_102 rfl 1 rfl ?_
    refine Z_callVI (as := [vi (zmI M 6 0 p1.toNatClampNeg)]) zRm_M zcv_X6_doOrder_X5_changeWeight_140 (ci := 9) rfl rfl rfl rfl (zle rfl) dX6_doOrder_103 ⟨Nat.le_refl _, Nat.le_refl _⟩ h (fun x13 M12 h => ?_)
    exact Z_iret rfl rfl dX6_doOrder_106 (Nat.le_refl _) (Nat.le_refl _) ⟨_, rfl, h⟩
  by_cases qs5 : (zmI M 5 0 p1.toNatClampNeg) = 5
  · have h := h.2.2.2.2.2.1 qs5
    refine Z_tabIn (x := (zmI M 5 0 p1.toNatClampNeg)) dX6_doOrder_20 (j := 5) (by rw [qs5]; decide) (off := 87) (tgt := 107) rfl (by decide) ?_
    refine Z_aload_n dX6_doOrder_107 rfl 2 rfl ?_
    refine Z_getR (s1 := 15) (i1 := 1) zfl_X6_31 rfl (fun q => by first | exact q | decide) dX6_doOrder_108 ?_
    refine Z_iload_n dX6_doOrder_111 rfl 1 rfl ?_
    refine Z_callVI (as := [vi (zmI M 6 0 p1.toNatClampNeg)]) zRm_M zcv_X6_doOrder_X5_changeGentle_143 (ci := 9) rfl rfl rfl rfl (zle rfl) dX6_doOrder_112 ⟨Nat.le_refl _, Nat.le_refl _⟩ h (fun x15 M14 h => ?_)
    exact Z_iret rfl rfl dX6_doOrder_115 (Nat.le_refl _) (Nat.le_refl _) ⟨_, rfl, h⟩
  have h := h.2.2.2.2.2.2 ⟨qs0, qs1, qs2, qs3, qs4, qs5⟩
  refine Z_tabOut (x := (zmI M 5 0 p1.toNatClampNeg)) dX6_doOrder_20 (zsw6 qs0 qs1 qs2 qs3 qs4 qs5) (tgt := 116) (by decide) ?_
  refine Z_aload_n dX6_doOrder_116 rfl 2 rfl ?_
  refine Z_getR (s1 := 15) (i1 := 1) zfl_X6_31 rfl (fun q => by first | exact q | decide) dX6_doOrder_117 ?_
  refine Z_iload_n dX6_doOrder_120 rfl 1 rfl ?_
  refine Z_aload_n dX6_doOrder_121 rfl 2 rfl ?_
  refine Z_getR (s1 := 5) (i1 := 0) zfl_X6_11 rfl (fun q => by first | exact q | decide) dX6_doOrder_122 ?_
  refine Z_iload_n dX6_doOrder_125 rfl 3 rfl ?_
  obtain ⟨g16, h⟩ := h
  refine Z_iald (n := 60) rfl g16 dX6_doOrder_126 ?_
  refine Z_bipush (v := 7) (by decide) dX6_doOrder_127 ?_
  refine Z_icmp_ne (tgt := 136) dX6_doOrder_129 (by decide) (fun q => ?_) (fun q => ?_)
  · have h := h.1 q
    refine Z_iconst (v := 0) (by decide) dX6_doOrder_136 ?_
    exact Z_pick [] rfl h
  · have h := h.2 q
    refine Z_iconst (v := 1) (by decide) dX6_doOrder_132 ?_
    refine Z_goto (tgt := 137) dX6_doOrder_133 (by decide) ?_
    exact Z_pick [] rfl h
set_option maxRecDepth 100000 in
set_option maxHeartbeats 4000000 in
theorem zb_X6_doOrder_137 {l : Launch} {G : zG} {s0 : Int32} {s1 : Int32} {M : zM} {Kf : Int32 → zM → Prop} (h : (zCalI l G Y_X5_changeOn 0 0 [vr 15 1, vi s1, vi s0] M (fun x2 M1 => (Kf x2 M1)))) : zAt l G Y_X6_doOrder (zEI G Y_X6_doOrder Kf) 137 [] [vi s0, vi s1, vr 15 1] M 0 0 := by
  refine Z_callVI (as := [vi s1, vi s0]) zRm_M zcv_X6_doOrder_X5_changeOn_146 (ci := 9) rfl rfl rfl rfl (zle rfl) dX6_doOrder_137 ⟨Nat.le_refl _, Nat.le_refl _⟩ h (fun x2 M1 h => ?_)
  exact Z_iret rfl rfl dX6_doOrder_140 (Nat.le_refl _) (Nat.le_refl _) ⟨_, rfl, h⟩
-- X7_readAll
set_option maxRecDepth 100000 in
set_option maxHeartbeats 4000000 in
theorem zm_X7_readAll {l : Launch} {G : zG} {mc ms : Nat} {M : zM} {Kf : Int32 → zM → Prop} (h : ((0 ≤ mc ∧ 0 ≤ ms ∧ zCalV l G Y_X5_begin 0 0 [vr 15 0] (zsI M 3 0 2 0) (fun M1 => ((0 ≤ mc ∧ 0 ≤ ms ∧ zCalV l G Y_X4_begin 0 0 [vr 1 0] M1 (fun M2 => (∀ a3 : Nat, zmT M2 a3 = some [114, 111, 117, 116, 101, 114] → ((0 ≤ mc ∧ 0 ≤ ms ∧ zCalI l G Y_X4_isWord 0 0 [vr 1 0, va a3] M2 (fun x5 M4 => ((¬ x5 = 0 → zAt l G Y_X7_readAll (zEM G Y_X7_readAll mc ms (zKI Kf, none)) 39 [(0, vr 3 0)] [] M4 0 0) ∧ (x5 = 0 → ((0 ≤ mc ∧ 0 ≤ ms ∧ zCalV l G Y_X4_fail 0 0 [vr 1 0, vi 1] M4 (fun M6 => zAt l G Y_X7_readAll (zEM G Y_X7_readAll mc ms (zKI Kf, none)) 39 [(0, vr 3 0)] [] M6 0 0)))))))))))))))) : zCalI l G Y_X7_readAll mc ms [vr 3 0] M Kf := by
  refine zCal_of (lv := [(0, vr 3 0)]) (by decide) rfl (zle rfl) rfl (fun hv => zlv_args (lv := [(0, vr 3 0)]) rfl hv) ?_
  refine Z_aload_n dX7_readAll_0 rfl 0 rfl ?_
  refine Z_iconst (v := 0) (by decide) dX7_readAll_1 ?_
  refine Z_putI zfp_X7_22 rfl rfl dX7_readAll_2 ?_
  refine Z_aload_n dX7_readAll_5 rfl 0 rfl ?_
  refine Z_getR (s1 := 15) (i1 := 0) zfl_X7_12 rfl (fun q => by first | exact q | decide) dX7_readAll_6 ?_
  obtain ⟨hcm, hkm, h⟩ := h
  refine Z_callVV (as := []) zRm_M zcv_X7_readAll_X5_begin_26 (ci := 9) rfl rfl rfl rfl (zle rfl) dX7_readAll_9 ⟨hcm, hkm⟩ h (fun M1 h => ?_)
  refine Z_aload_n dX7_readAll_12 rfl 0 rfl ?_
  refine Z_getR (s1 := 1) (i1 := 0) zfl_X7_18 rfl (fun q => by first | exact q | decide) dX7_readAll_13 ?_
  obtain ⟨hcm, hkm, h⟩ := h
  refine Z_callVV (as := []) zRm_M zcv_X7_readAll_X4_begin_29 (ci := 8) rfl rfl rfl rfl (zle rfl) dX7_readAll_16 ⟨hcm, hkm⟩ h (fun M2 h => ?_)
  refine Z_aload_n dX7_readAll_19 rfl 0 rfl ?_
  refine Z_getR (s1 := 1) (i1 := 0) zfl_X7_18 rfl (fun q => by first | exact q | decide) dX7_readAll_20 ?_
  refine Z_ldcS (tx := "router") (zLits_at 1 rfl) dX7_readAll_23 (fun a3 qa3 => ?_)
  have h := h a3 qa3
  obtain ⟨hcm, hkm, h⟩ := h
  refine Z_callVI (as := [va a3]) zRm_M zcv_X7_readAll_X4_isWord_33 (ci := 8) rfl rfl rfl rfl (zle rfl) dX7_readAll_25 ⟨hcm, hkm⟩ h (fun x5 M4 h => ?_)
  refine Z_if_ne (tgt := 39) dX7_readAll_28 (by decide) (fun q => ?_) (fun q => ?_)
  · have h := h.1 q
    exact h
  · have h := h.2 q
    refine Z_aload_n dX7_readAll_31 rfl 0 rfl ?_
    refine Z_getR (s1 := 1) (i1 := 0) zfl_X7_18 rfl (fun q => by first | exact q | decide) dX7_readAll_32 ?_
    refine Z_iconst (v := 1) (by decide) dX7_readAll_35 ?_
    obtain ⟨hcm, hkm, h⟩ := h
    refine Z_callVV (as := [vi 1]) zRm_M zcv_X7_readAll_X4_fail_37 (ci := 8) rfl rfl rfl rfl (zle rfl) dX7_readAll_36 ⟨hcm, hkm⟩ h (fun M6 h => ?_)
    exact h
set_option maxRecDepth 100000 in
set_option maxHeartbeats 4000000 in
theorem zb_X7_readAll_39 {l : Launch} {G : zG}  {mc ms : Nat} {c k : Nat} {M : zM} {Kf : Int32 → zM → Prop} (h : ((c ≤ mc ∧ k ≤ ms ∧ zCalV l G Y_X4_expect 0 0 [vr 1 0, vi 1] M (fun M1 => ((c ≤ mc ∧ k ≤ ms ∧ zCalI l G Y_X4_number 0 0 [vr 1 0, vi 1, vi 40] M1 (fun x3 M2 => ((c ≤ mc ∧ k ≤ ms ∧ zCalI l G Y_X4_number 0 0 [vr 1 0, vi 1, vi 9] (zsI M2 15 0 0 x3) (fun x5 M4 => zAt l G Y_X7_readAll (zEM G Y_X7_readAll mc ms (zKI Kf, none)) 83 [(0, vr 3 0), (1, vi 0)] [] (zsI M4 15 0 1 x5) c k)))))))))) : zAt l G Y_X7_readAll (zEM G Y_X7_readAll mc ms (zKI Kf, none)) 39 [(0, vr 3 0)] [] M c k := by
  refine Z_aload_n dX7_readAll_39 rfl 0 rfl ?_
  refine Z_getR (s1 := 1) (i1 := 0) zfl_X7_18 rfl (fun q => by first | exact q | decide) dX7_readAll_40 ?_
  refine Z_iconst (v := 1) (by decide) dX7_readAll_43 ?_
  obtain ⟨hcm, hkm, h⟩ := h
  refine Z_callVV (as := [vi 1]) zRm_M zcv_X7_readAll_X4_expect_41 (ci := 8) rfl rfl rfl rfl (zle rfl) dX7_readAll_44 ⟨hcm, hkm⟩ h (fun M1 h => ?_)
  refine Z_aload_n dX7_readAll_47 rfl 0 rfl ?_
  refine Z_getR (s1 := 15) (i1 := 0) zfl_X7_12 rfl (fun q => by first | exact q | decide) dX7_readAll_48 ?_
  refine Z_aload_n dX7_readAll_51 rfl 0 rfl ?_
  refine Z_getR (s1 := 1) (i1 := 0) zfl_X7_18 rfl (fun q => by first | exact q | decide) dX7_readAll_52 ?_
  refine Z_iconst (v := 1) (by decide) dX7_readAll_55 ?_
  refine Z_bipush (v := 40) (by decide) dX7_readAll_56 ?_
  obtain ⟨hcm, hkm, h⟩ := h
  refine Z_callVI (as := [vi 1, vi 40]) zRm_M zcv_X7_readAll_X4_number_44 (ci := 8) rfl rfl rfl rfl (zle rfl) dX7_readAll_58 ⟨hcm, hkm⟩ h (fun x3 M2 h => ?_)
  refine Z_putI zfp_X7_48 rfl rfl dX7_readAll_61 ?_
  refine Z_aload_n dX7_readAll_64 rfl 0 rfl ?_
  refine Z_getR (s1 := 15) (i1 := 0) zfl_X7_12 rfl (fun q => by first | exact q | decide) dX7_readAll_65 ?_
  refine Z_aload_n dX7_readAll_68 rfl 0 rfl ?_
  refine Z_getR (s1 := 1) (i1 := 0) zfl_X7_18 rfl (fun q => by first | exact q | decide) dX7_readAll_69 ?_
  refine Z_iconst (v := 1) (by decide) dX7_readAll_72 ?_
  refine Z_bipush (v := 9) (by decide) dX7_readAll_73 ?_
  obtain ⟨hcm, hkm, h⟩ := h
  refine Z_callVI (as := [vi 1, vi 9]) zRm_M zcv_X7_readAll_X4_number_44 (ci := 8) rfl rfl rfl rfl (zle rfl) dX7_readAll_75 ⟨hcm, hkm⟩ h (fun x5 M4 h => ?_)
  refine Z_putI zfp_X7_51 rfl rfl dX7_readAll_78 ?_
  refine Z_iconst (v := 0) (by decide) dX7_readAll_81 ?_
  refine Z_istore_n (lv2 := [(1, vi 0), (0, vr 3 0)]) dX7_readAll_82 rfl (by decide) rfl ?_
  exact Z_pick [1, 0] rfl h
set_option maxRecDepth 100000 in
set_option maxHeartbeats 4000000 in
theorem zb_X7_readAll_83 {l : Launch} {G : zG} {y1 : Int32} {mc ms : Nat} {c k : Nat} {M : zM} {Kf : Int32 → zM → Prop} (h : ((500 ≤ y1 → zAt l G Y_X7_readAll (zEM G Y_X7_readAll mc ms (zKI Kf, none)) 128 [(0, vr 3 0)] [] M c k) ∧ (¬ 500 ≤ y1 → ((¬ (zmI M 1 0 5) = 0 → zAt l G Y_X7_readAll (zEM G Y_X7_readAll mc ms (zKI Kf, none)) 128 [(0, vr 3 0)] [] M c k) ∧ ((zmI M 1 0 5) = 0 → (((zmI M 1 0 2) = 0 → zAt l G Y_X7_readAll (zEM G Y_X7_readAll mc ms (zKI Kf, none)) 128 [(0, vr 3 0)] [] M c k) ∧ (¬ (zmI M 1 0 2) = 0 → ((c ≤ mc ∧ k ≤ ms ∧ zCalV l G Y_X4_expect 0 0 [vr 1 0, vi 3] M (fun M1 => ((∃ mc2 ms3 : Nat, (c + mc2) ≤ mc ∧ (k + ms3) ≤ ms ∧ zCalV l G Y_X7_readStatement mc2 ms3 [vr 3 0] M1 (fun M4 => zAt l G Y_X7_readAll (zEM G Y_X7_readAll mc ms (zKI Kf, none)) 83 [(0, vr 3 0), (1, vi (y1 + 1))] [] M4 (c + mc2) (k + ms3)))))))))))))) : zAt l G Y_X7_readAll (zEM G Y_X7_readAll mc ms (zKI Kf, none)) 83 [(0, vr 3 0), (1, vi y1)] [] M c k := by
  refine Z_iload_n dX7_readAll_83 rfl 1 rfl ?_
  refine Z_sipush (v := 500) (by decide) dX7_readAll_84 ?_
  refine Z_icmp_ge (tgt := 128) dX7_readAll_87 (by decide) (fun q => ?_) (fun q => ?_)
  · have h := h.1 q
    exact Z_pick [0] rfl h
  · have h := h.2 q
    refine Z_aload_n dX7_readAll_90 rfl 0 rfl ?_
    refine Z_getR (s1 := 1) (i1 := 0) zfl_X7_18 rfl (fun q => by first | exact q | decide) dX7_readAll_91 ?_
    refine Z_getI zfl_X7_54 dX7_readAll_94 ?_
    refine Z_if_ne (tgt := 128) dX7_readAll_97 (by decide) (fun q => ?_) (fun q => ?_)
    · have h := h.1 q
      exact Z_pick [0] rfl h
    · have h := h.2 q
      refine Z_aload_n dX7_readAll_100 rfl 0 rfl ?_
      refine Z_getR (s1 := 1) (i1 := 0) zfl_X7_18 rfl (fun q => by first | exact q | decide) dX7_readAll_101 ?_
      refine Z_getI zfl_X7_57 dX7_readAll_104 ?_
      refine Z_if_eq (tgt := 128) dX7_readAll_107 (by decide) (fun q => ?_) (fun q => ?_)
      · have h := h.1 q
        exact Z_pick [0] rfl h
      · have h := h.2 q
        refine Z_aload_n dX7_readAll_110 rfl 0 rfl ?_
        refine Z_getR (s1 := 1) (i1 := 0) zfl_X7_18 rfl (fun q => by first | exact q | decide) dX7_readAll_111 ?_
        refine Z_iconst (v := 3) (by decide) dX7_readAll_114 ?_
        obtain ⟨hcm, hkm, h⟩ := h
        refine Z_callVV (as := [vi 3]) zRm_M zcv_X7_readAll_X4_expect_41 (ci := 8) rfl rfl rfl rfl (zle rfl) dX7_readAll_115 ⟨hcm, hkm⟩ h (fun M1 h => ?_)
        refine Z_aload_n dX7_readAll_118 rfl 0 rfl ?_
        obtain ⟨mc2, ms3, hmM4, hnM4, h⟩ := h
        refine Z_callVV (as := []) zRm_M zcv_X7_readAll_X7_readStatement_60 (ci := 11) rfl rfl rfl rfl (zle rfl) dX7_readAll_119 ⟨hmM4, hnM4⟩ h (fun M4 h => ?_)
        refine Z_iinc (v := (y1 + 1)) (lv2 := [(1, vi (y1 + 1)), (0, vr 3 0)]) dX7_readAll_122 1 rfl rfl (by decide) rfl ?_
        refine Z_goto (tgt := 83) dX7_readAll_125 (by decide) ?_
        exact Z_pick [1, 0] rfl h
set_option maxRecDepth 100000 in
set_option maxHeartbeats 4000000 in
theorem zb_X7_readAll_128 {l : Launch} {G : zG}  {mc ms : Nat} {c k : Nat} {M : zM} {Kf : Int32 → zM → Prop} (h : ((¬ (zmI M 1 0 5) = 0 → (c ≤ mc ∧ k ≤ ms ∧ Kf 0 M)) ∧ ((zmI M 1 0 5) = 0 → (c ≤ mc ∧ k ≤ ms ∧ Kf 1 M)))) : zAt l G Y_X7_readAll (zEM G Y_X7_readAll mc ms (zKI Kf, none)) 128 [(0, vr 3 0)] [] M c k := by
  refine Z_aload_n dX7_readAll_128 rfl 0 rfl ?_
  refine Z_getR (s1 := 1) (i1 := 0) zfl_X7_18 rfl (fun q => by first | exact q | decide) dX7_readAll_129 ?_
  refine Z_getI zfl_X7_54 dX7_readAll_132 ?_
  refine Z_if_ne (tgt := 142) dX7_readAll_135 (by decide) (fun q => ?_) (fun q => ?_)
  · have h := h.1 q
    refine Z_iconst (v := 0) (by decide) dX7_readAll_142 ?_
    obtain ⟨hc, hk, h⟩ := h
    exact Z_iret rfl (by decide) dX7_readAll_143 hc hk ⟨_, rfl, h⟩
  · have h := h.2 q
    refine Z_iconst (v := 1) (by decide) dX7_readAll_138 ?_
    refine Z_goto (tgt := 143) dX7_readAll_139 (by decide) ?_
    obtain ⟨hc, hk, h⟩ := h
    exact Z_iret rfl (by decide) dX7_readAll_143 hc hk ⟨_, rfl, h⟩
-- X6_perform
set_option maxRecDepth 100000 in
set_option maxHeartbeats 4000000 in
theorem zm_X6_perform {l : Launch} {G : zG} {M : zM} {Kf : Int32 → zM → Prop} (h : zAt l G Y_X6_perform (zEI G Y_X6_perform Kf) 6 [(0, vr 4 0), (1, vi 0), (2, vi 0), (3, vi 0)] [] M 0 0) : zCalI l G Y_X6_perform 0 0 [vr 4 0] M Kf := by
  refine zCal_of (lv := [(0, vr 4 0)]) (by decide) rfl (zle rfl) rfl (fun hv => zlv_args (lv := [(0, vr 4 0)]) rfl hv) ?_
  refine Z_iconst (v := 0) (by decide) dX6_perform_0 ?_
  refine Z_istore_n (lv2 := [(1, vi 0), (0, vr 4 0)]) dX6_perform_1 rfl (by decide) rfl ?_
  refine Z_iconst (v := 0) (by decide) dX6_perform_2 ?_
  refine Z_istore_n (lv2 := [(2, vi 0), (1, vi 0), (0, vr 4 0)]) dX6_perform_3 rfl (by decide) rfl ?_
  refine Z_iconst (v := 0) (by decide) dX6_perform_4 ?_
  refine Z_istore_n (lv2 := [(3, vi 0), (2, vi 0), (1, vi 0), (0, vr 4 0)]) dX6_perform_5 rfl (by decide) rfl ?_
  exact Z_pick [3, 2, 1, 0] rfl h
set_option maxRecDepth 100000 in
set_option maxHeartbeats 4000000 in
theorem zb_X6_perform_6 {l : Launch} {G : zG} {y1 : Int32} {y2 : Int32} {y3 : Int32} {M : zM} {Kf : Int32 → zM → Prop} (h : ((1000000 ≤ y3 → (Kf y1 M)) ∧ (¬ 1000000 ≤ y3 → ((y2 < 0 → (Kf y1 M)) ∧ (¬ y2 < 0 → (((zmI M 4 0 7) ≤ y2 → (Kf y1 M)) ∧ (¬ (zmI M 4 0 7) ≤ y2 → ((40 ≤ y1 → (Kf y1 M)) ∧ (¬ 40 ≤ y1 → (vp_in y2 60 ∧ (((zmI M 5 0 y2.toNatClampNeg) = 8 → zAt l G Y_X6_perform (zEI G Y_X6_perform Kf) 52 [(0, vr 4 0), (1, vi y1), (2, vi y2), (3, vi y3)] [] M 0 0) ∧ (¬ (zmI M 5 0 y2.toNatClampNeg) = 8 → (vp_in y2 60 ∧ ((¬ (zmI M 5 0 y2.toNatClampNeg) = 9 → (zCalI l G Y_X6_doOrder 0 0 [vr 4 0, vi y2] M (fun x4 M3 => ((0 ≤ x4 → zAt l G Y_X6_perform (zEI G Y_X6_perform Kf) 77 [(0, vr 4 0), (1, vi (y1 + 1)), (2, vi (y2 + 1)), (3, vi y3)] [] M3 0 0) ∧ (¬ 0 ≤ x4 → (Kf y1 M3)))))) ∧ ((zmI M 5 0 y2.toNatClampNeg) = 9 → zAt l G Y_X6_perform (zEI G Y_X6_perform Kf) 52 [(0, vr 4 0), (1, vi y1), (2, vi y2), (3, vi y3)] [] M 0 0))))))))))))))) : zAt l G Y_X6_perform (zEI G Y_X6_perform Kf) 6 [(0, vr 4 0), (1, vi y1), (2, vi y2), (3, vi y3)] [] M 0 0 := by
  refine Z_iload_n dX6_perform_6 rfl 3 rfl ?_
  refine Z_ldc (v := 1000000) zw_803 dX6_perform_7 ?_
  refine Z_icmp_ge (tgt := 83) dX6_perform_9 (by decide) (fun q => ?_) (fun q => ?_)
  · have h := h.1 q
    refine Z_iload_n dX6_perform_83 rfl 1 rfl ?_
    exact Z_iret rfl rfl dX6_perform_84 (Nat.le_refl _) (Nat.le_refl _) ⟨_, rfl, h⟩
  · have h := h.2 q
    refine Z_iload_n dX6_perform_12 rfl 2 rfl ?_
    refine Z_if_lt (tgt := 83) dX6_perform_13 (by decide) (fun q => ?_) (fun q => ?_)
    · have h := h.1 q
      refine Z_iload_n dX6_perform_83 rfl 1 rfl ?_
      exact Z_iret rfl rfl dX6_perform_84 (Nat.le_refl _) (Nat.le_refl _) ⟨_, rfl, h⟩
    · have h := h.2 q
      refine Z_iload_n dX6_perform_16 rfl 2 rfl ?_
      refine Z_aload_n dX6_perform_17 rfl 0 rfl ?_
      refine Z_getI zfl_X6_35 dX6_perform_18 ?_
      refine Z_icmp_ge (tgt := 83) dX6_perform_21 (by decide) (fun q => ?_) (fun q => ?_)
      · have h := h.1 q
        refine Z_iload_n dX6_perform_83 rfl 1 rfl ?_
        exact Z_iret rfl rfl dX6_perform_84 (Nat.le_refl _) (Nat.le_refl _) ⟨_, rfl, h⟩
      · have h := h.2 q
        refine Z_iload_n dX6_perform_24 rfl 1 rfl ?_
        refine Z_bipush (v := 40) (by decide) dX6_perform_25 ?_
        refine Z_icmp_ge (tgt := 83) dX6_perform_27 (by decide) (fun q => ?_) (fun q => ?_)
        · have h := h.1 q
          refine Z_iload_n dX6_perform_83 rfl 1 rfl ?_
          exact Z_iret rfl rfl dX6_perform_84 (Nat.le_refl _) (Nat.le_refl _) ⟨_, rfl, h⟩
        · have h := h.2 q
          refine Z_aload_n dX6_perform_30 rfl 0 rfl ?_
          refine Z_getR (s1 := 5) (i1 := 0) zfl_X6_11 rfl (fun q => by first | exact q | decide) dX6_perform_31 ?_
          refine Z_iload_n dX6_perform_34 rfl 2 rfl ?_
          obtain ⟨g1, h⟩ := h
          refine Z_iald (n := 60) rfl g1 dX6_perform_35 ?_
          refine Z_bipush (v := 8) (by decide) dX6_perform_36 ?_
          refine Z_icmp_eq (tgt := 52) dX6_perform_38 (by decide) (fun q => ?_) (fun q => ?_)
          · have h := h.1 q
            exact h
          · have h := h.2 q
            refine Z_aload_n dX6_perform_41 rfl 0 rfl ?_
            refine Z_getR (s1 := 5) (i1 := 0) zfl_X6_11 rfl (fun q => by first | exact q | decide) dX6_perform_42 ?_
            refine Z_iload_n dX6_perform_45 rfl 2 rfl ?_
            obtain ⟨g2, h⟩ := h
            refine Z_iald (n := 60) rfl g2 dX6_perform_46 ?_
            refine Z_bipush (v := 9) (by decide) dX6_perform_47 ?_
            refine Z_icmp_ne (tgt := 61) dX6_perform_49 (by decide) (fun q => ?_) (fun q => ?_)
            · have h := h.1 q
              refine Z_aload_n dX6_perform_61 rfl 0 rfl ?_
              refine Z_iload_n dX6_perform_62 rfl 2 rfl ?_
              refine Z_callVI (as := [vi y2]) zRm_M zcv_X6_perform_X6_doOrder_123 (ci := 10) rfl rfl rfl rfl (zle rfl) dX6_perform_63 ⟨Nat.le_refl _, Nat.le_refl _⟩ h (fun x4 M3 h => ?_)
              refine Z_if_ge (tgt := 71) dX6_perform_66 (by decide) (fun q => ?_) (fun q => ?_)
              · have h := h.1 q
                refine Z_iinc (v := (y1 + 1)) (lv2 := [(1, vi (y1 + 1)), (0, vr 4 0), (2, vi y2), (3, vi y3)]) dX6_perform_71 1 rfl rfl (by decide) rfl ?_
                refine Z_iinc (v := (y2 + 1)) (lv2 := [(2, vi (y2 + 1)), (1, vi (y1 + 1)), (0, vr 4 0), (3, vi y3)]) dX6_perform_74 2 rfl rfl (by decide) rfl ?_
                exact Z_pick [2, 1, 0, 3] rfl h
              · have h := h.2 q
                refine Z_iload_n dX6_perform_69 rfl 1 rfl ?_
                exact Z_iret rfl rfl dX6_perform_70 (Nat.le_refl _) (Nat.le_refl _) ⟨_, rfl, h⟩
            · have h := h.2 q
              exact h
set_option maxRecDepth 100000 in
set_option maxHeartbeats 4000000 in
theorem zb_X6_perform_52 {l : Launch} {G : zG} {y1 : Int32} {y2 : Int32} {y3 : Int32} {M : zM} {Kf : Int32 → zM → Prop} (h : (zCalI l G Y_X6_rowBehind 0 0 [vr 4 0, vi y2] M (fun x2 M1 => zAt l G Y_X6_perform (zEI G Y_X6_perform Kf) 77 [(0, vr 4 0), (1, vi y1), (2, vi x2), (3, vi y3)] [] M1 0 0))) : zAt l G Y_X6_perform (zEI G Y_X6_perform Kf) 52 [(0, vr 4 0), (1, vi y1), (2, vi y2), (3, vi y3)] [] M 0 0 := by
  refine Z_aload_n dX6_perform_52 rfl 0 rfl ?_
  refine Z_iload_n dX6_perform_53 rfl 2 rfl ?_
  refine Z_callVI (as := [vi y2]) zRm_M zcv_X6_perform_X6_rowBehind_119 (ci := 10) rfl rfl rfl rfl (zle rfl) dX6_perform_54 ⟨Nat.le_refl _, Nat.le_refl _⟩ h (fun x2 M1 h => ?_)
  refine Z_istore_n (lv2 := [(2, vi x2), (0, vr 4 0), (1, vi y1), (3, vi y3)]) dX6_perform_57 rfl (by decide) rfl ?_
  refine Z_goto (tgt := 77) dX6_perform_58 (by decide) ?_
  exact Z_pick [1, 2, 0, 3] rfl h
set_option maxRecDepth 100000 in
set_option maxHeartbeats 4000000 in
theorem zb_X6_perform_77 {l : Launch} {G : zG} {y1 : Int32} {y2 : Int32} {y3 : Int32} {M : zM} {Kf : Int32 → zM → Prop} (h : zAt l G Y_X6_perform (zEI G Y_X6_perform Kf) 6 [(0, vr 4 0), (1, vi y1), (2, vi y2), (3, vi (y3 + 1))] [] M 0 0) : zAt l G Y_X6_perform (zEI G Y_X6_perform Kf) 77 [(0, vr 4 0), (1, vi y1), (2, vi y2), (3, vi y3)] [] M 0 0 := by
  refine Z_iinc (v := (y3 + 1)) (lv2 := [(3, vi (y3 + 1)), (0, vr 4 0), (1, vi y1), (2, vi y2)]) dX6_perform_77 3 rfl rfl (by decide) rfl ?_
  refine Z_goto (tgt := 6) dX6_perform_80 (by decide) ?_
  exact Z_pick [1, 2, 3, 0] rfl h
