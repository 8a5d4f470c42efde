/-! printed by wip/whole/drive.py -/
abbrev Y_X9_average : zY := (yX9_average, cX9_average, 1, (some .double), 2, [])
theorem zw_1601 : Cond.fieldLink RX9 60 "EarlyDropsModel" "thrown" "I" ∈ zAll := zin 1601 (by decide +kernel) (by decide +kernel)
theorem zws_X9 : ∀ w ∈ u_ws RX9 TX9 30, w ∈ zAll := fun w hw => List.mem_filter.mpr (goodIn_r (big := lw_tbl) _ [1624, 1626, 1628, 1630, 1632, 1634, 1636, 1638, 1640, 1642, 1644, 1646, 1648, 1650, 1652, 1654, 1656, 1658, 1660, 1662, 1664, 1666, 1668, 1670, 1672, 1674, 1676, 1678, 1680, 1682] (by decide +kernel) (by decide +kernel) w hw |>.imp_right (fun _ => List.all_eq_true.mp (show (u_ws RX9 TX9 30).all goodWord = true by decide +kernel) w hw))
theorem zfp_X9_60 : zFP RX9 60 30 7 0 .int := ⟨13, RX9, TX9, 30, tyX9, ⟨rfl, rfl, by decide, rfl, zw_1601, zws_X9⟩, tyX9_ok, nmX9, rfl, by decide +kernel⟩
theorem zw_1594 : Cond.fieldLink RX9 9 "EarlyDropsModel" "w" "[I" ∈ zAll := zin 1594 (by decide +kernel) (by decide +kernel)
theorem zfl_X9_9 : zFL RX9 9 30 0 1 := ⟨13, RX9, TX9, 30, rfl, rfl, by decide, rfl, zw_1594, zws_X9⟩
theorem zw_2057 : Cond.constantDouble RX9 393 4652218415073722368 ∈ zAll := zin 2057 (by decide +kernel) (by decide +kernel)
abbrev Y_X9_begins : zY := (yX9_begins, cX9_begins, 2, none, 2, [])
abbrev Y_X9_byteAt : zY := (yX9_byteAt, cX9_byteAt, 2, (some .int), 2, [])
theorem zw_1604 : Cond.fieldLink RX9 179 "EarlyDropsModel" "filled" "I" ∈ zAll := zin 1604 (by decide +kernel) (by decide +kernel)
theorem zfl_X9_179 : zFL RX9 179 30 10 0 := ⟨13, RX9, TX9, 30, rfl, rfl, by decide, rfl, zw_1604, zws_X9⟩
theorem zw_1603 : Cond.fieldLink RX9 29 "EarlyDropsModel" "buffer" "[I" ∈ zAll := zin 1603 (by decide +kernel) (by decide +kernel)
theorem zfl_X9_29 : zFL RX9 29 30 9 1 := ⟨13, RX9, TX9, 30, rfl, rfl, by decide, rfl, zw_1603, zws_X9⟩
abbrev Y_X9_draws : zY := (yX9_draws, cX9_draws, 1, (some .int), 2, [])
theorem zw_1959 : Cond.constant RX9 97 1103515245 ∈ zAll := zin 1959 (by decide +kernel) (by decide +kernel)
theorem zw_1960 : Cond.constant RX9 98 65535 ∈ zAll := zin 1960 (by decide +kernel) (by decide +kernel)
abbrev Y_X9_ended : zY := (yX9_ended, cX9_ended, 1, (some .int), 2, [])
theorem zfp_X9_179 : zFP RX9 179 30 10 0 .int := ⟨13, RX9, TX9, 30, tyX9, ⟨rfl, rfl, by decide, rfl, zw_1604, zws_X9⟩, tyX9_ok, nmX9, rfl, by decide +kernel⟩
theorem zw_1609 : Cond.fieldLink RX9 210 "EarlyDropsModel" "error" "I" ∈ zAll := zin 1609 (by decide +kernel) (by decide +kernel)
theorem zfl_X9_210 : zFL RX9 210 30 15 0 := ⟨13, RX9, TX9, 30, rfl, rfl, by decide, rfl, zw_1609, zws_X9⟩
theorem zw_1610 : Cond.fieldLink RX9 213 "EarlyDropsModel" "errorAt" "I" ∈ zAll := zin 1610 (by decide +kernel) (by decide +kernel)
theorem zfl_X9_213 : zFL RX9 213 30 16 0 := ⟨13, RX9, TX9, 30, rfl, rfl, by decide, rfl, zw_1610, zws_X9⟩
theorem zw_1611 : Cond.fieldLink RX9 32 "EarlyDropsModel" "lastError" "I" ∈ zAll := zin 1611 (by decide +kernel) (by decide +kernel)
theorem zfp_X9_32 : zFP RX9 32 30 17 0 .int := ⟨13, RX9, TX9, 30, tyX9, ⟨rfl, rfl, by decide, rfl, zw_1611, zws_X9⟩, tyX9_ok, nmX9, rfl, by decide +kernel⟩
abbrev Y_X9_errorPosition : zY := (yX9_errorPosition, cX9_errorPosition, 1, (some .int), 2, [])
theorem zfl_X9_32 : zFL RX9 32 30 17 0 := ⟨13, RX9, TX9, 30, rfl, rfl, by decide, rfl, zw_1611, zws_X9⟩
abbrev Y_X9_fails : zY := (yX9_fails, cX9_fails, 3, (some .boolean), 2, [])
theorem zfl_X9_60 : zFL RX9 60 30 7 0 := ⟨13, RX9, TX9, 30, rfl, rfl, by decide, rfl, zw_1601, zws_X9⟩
abbrev Y_X9_feeds : zY := (yX9_feeds, cX9_feeds, 4, none, 2, [])
abbrev Y_X9_high : zY := (yX9_high, cX9_high, 1, (some .int), 2, [])
abbrev Y_X9_in : zY := (yX9_in, cX9_in, 3, (some .boolean), 2, [])
abbrev Y_X9_isSign : zY := (yX9_isSign, cX9_isSign, 2, (some .boolean), 2, [])
theorem zw_1607 : Cond.fieldLink RX9 200 "EarlyDropsModel" "token" "I" ∈ zAll := zin 1607 (by decide +kernel) (by decide +kernel)
theorem zfl_X9_200 : zFL RX9 200 30 13 0 := ⟨13, RX9, TX9, 30, rfl, rfl, by decide, rfl, zw_1607, zws_X9⟩
theorem zw_1605 : Cond.fieldLink RX9 194 "EarlyDropsModel" "begin" "I" ∈ zAll := zin 1605 (by decide +kernel) (by decide +kernel)
theorem zfl_X9_194 : zFL RX9 194 30 11 0 := ⟨13, RX9, TX9, 30, rfl, rfl, by decide, rfl, zw_1605, zws_X9⟩
abbrev Y_X9_keeps : zY := (yX9_keeps, cX9_keeps, 8, none, 2, [])
abbrev Y_X9_lays : zY := (yX9_lays, cX9_lays, 5, none, 2, [])
abbrev Y_X9_length : zY := (yX9_length, cX9_length, 1, (some .int), 2, [])
theorem zw_1606 : Cond.fieldLink RX9 191 "EarlyDropsModel" "next" "I" ∈ zAll := zin 1606 (by decide +kernel) (by decide +kernel)
theorem zfl_X9_191 : zFL RX9 191 30 12 0 := ⟨13, RX9, TX9, 30, rfl, rfl, by decide, rfl, zw_1606, zws_X9⟩
abbrev Y_X9_limitsNow : zY := (yX9_limitsNow, cX9_limitsNow, 4, (some .int), 2, [])
abbrev Y_X9_low : zY := (yX9_low, cX9_low, 1, (some .int), 2, [])
abbrev Y_X9_moved : zY := (yX9_moved, cX9_moved, 3, (some .int), 2, [])
abbrev Y_X9_ofDecision : zY := (yX9_ofDecision, cX9_ofDecision, 3, (some .int), 2, [])
abbrev Y_X9_ofFlow : zY := (yX9_ofFlow, cX9_ofFlow, 3, (some .int), 2, [])
abbrev Y_X9_ofPacket : zY := (yX9_ofPacket, cX9_ofPacket, 3, (some .int), 2, [])
abbrev Y_X9_one : zY := (yX9_one, cX9_one, 1, (some .int), 2, [])
abbrev Y_X9_putsFlow : zY := (yX9_putsFlow, cX9_putsFlow, 4, none, 2, [])
abbrev Y_X9_setNow : zY := (yX9_setNow, cX9_setNow, 4, (some .int), 2, [])
abbrev Y_X9_thrown : zY := (yX9_thrown, cX9_thrown, 1, (some .int), 2, [])
abbrev Y_X9_writes : zY := (yX9_writes, cX9_writes, 2, none, 2, [])
theorem zw_1622 : Cond.fieldLink RX9 54 "EarlyDropsModel" "page" "[I" ∈ zAll := zin 1622 (by decide +kernel) (by decide +kernel)
theorem zfl_X9_54 : zFL RX9 54 30 28 1 := ⟨13, RX9, TX9, 30, rfl, rfl, by decide, rfl, zw_1622, zws_X9⟩
theorem zw_1623 : Cond.fieldLink RX9 432 "EarlyDropsModel" "pageMany" "I" ∈ zAll := zin 1623 (by decide +kernel) (by decide +kernel)
theorem zfl_X9_432 : zFL RX9 432 30 29 0 := ⟨13, RX9, TX9, 30, rfl, rfl, by decide, rfl, zw_1623, zws_X9⟩
theorem zfp_X9_432 : zFP RX9 432 30 29 0 .int := ⟨13, RX9, TX9, 30, tyX9, ⟨rfl, rfl, by decide, rfl, zw_1623, zws_X9⟩, tyX9_ok, nmX9, rfl, by decide +kernel⟩
abbrev Y_X9_wrong : zY := (yX9_wrong, cX9_wrong, 3, (some .boolean), 2, [])
theorem zfp_X9_210 : zFP RX9 210 30 15 0 .int := ⟨13, RX9, TX9, 30, tyX9, ⟨rfl, rfl, by decide, rfl, zw_1609, zws_X9⟩, tyX9_ok, nmX9, rfl, by decide +kernel⟩
theorem zfp_X9_213 : zFP RX9 213 30 16 0 .int := ⟨13, RX9, TX9, 30, tyX9, ⟨rfl, rfl, by decide, rfl, zw_1610, zws_X9⟩, tyX9_ok, nmX9, rfl, by decide +kernel⟩
theorem dX9_thrown_0 : decode cX9_thrown 0 = .ok (.aload_n 0, 1) := by decide +kernel
theorem dX9_thrown_1 : decode cX9_thrown 1 = .ok (.getfield 60, 3) := by decide +kernel
theorem dX9_thrown_4 : decode cX9_thrown 4 = .ok (.ireturn, 1) := by decide +kernel
theorem dX9_in_0 : decode cX9_in 0 = .ok (.iload_n 0, 1) := by decide +kernel
theorem dX9_in_1 : decode cX9_in 1 = .ok (.iload_n 1, 1) := by decide +kernel
theorem dX9_in_2 : decode cX9_in 2 = .ok (.if_icmp .lt 12, 3) := by decide +kernel
theorem dX9_in_5 : decode cX9_in 5 = .ok (.iload_n 0, 1) := by decide +kernel
theorem dX9_in_6 : decode cX9_in 6 = .ok (.iload_n 2, 1) := by decide +kernel
theorem dX9_in_7 : decode cX9_in 7 = .ok (.if_icmp .gt 7, 3) := by decide +kernel
theorem dX9_in_10 : decode cX9_in 10 = .ok (.iconst 1, 1) := by decide +kernel
theorem dX9_in_11 : decode cX9_in 11 = .ok (.goto 4, 3) := by decide +kernel
theorem dX9_in_14 : decode cX9_in 14 = .ok (.iconst 0, 1) := by decide +kernel
theorem dX9_in_15 : decode cX9_in 15 = .ok (.ireturn, 1) := by decide +kernel
theorem dX9_one_0 : decode cX9_one 0 = .ok (.iload_n 0, 1) := by decide +kernel
theorem dX9_one_1 : decode cX9_one 1 = .ok (.ifCond .eq 7, 3) := by decide +kernel
theorem dX9_one_4 : decode cX9_one 4 = .ok (.iconst 1, 1) := by decide +kernel
theorem dX9_one_5 : decode cX9_one 5 = .ok (.goto 4, 3) := by decide +kernel
theorem dX9_one_8 : decode cX9_one 8 = .ok (.iconst 0, 1) := by decide +kernel
theorem dX9_one_9 : decode cX9_one 9 = .ok (.ireturn, 1) := by decide +kernel
theorem dX9_fails_0 : decode cX9_fails 0 = .ok (.aload_n 0, 1) := by decide +kernel
theorem dX9_fails_1 : decode cX9_fails 1 = .ok (.getfield 60, 3) := by decide +kernel
theorem dX9_fails_4 : decode cX9_fails 4 = .ok (.ifCond .ne 12, 3) := by decide +kernel
theorem dX9_fails_7 : decode cX9_fails 7 = .ok (.iload_n 1, 1) := by decide +kernel
theorem dX9_fails_8 : decode cX9_fails 8 = .ok (.ifCond .eq 8, 3) := by decide +kernel
theorem dX9_fails_11 : decode cX9_fails 11 = .ok (.aload_n 0, 1) := by decide +kernel
theorem dX9_fails_12 : decode cX9_fails 12 = .ok (.iload_n 2, 1) := by decide +kernel
theorem dX9_fails_13 : decode cX9_fails 13 = .ok (.putfield 60, 3) := by decide +kernel
theorem dX9_fails_16 : decode cX9_fails 16 = .ok (.aload_n 0, 1) := by decide +kernel
theorem dX9_fails_17 : decode cX9_fails 17 = .ok (.getfield 60, 3) := by decide +kernel
theorem dX9_fails_20 : decode cX9_fails 20 = .ok (.ifCond .eq 7, 3) := by decide +kernel
theorem dX9_fails_23 : decode cX9_fails 23 = .ok (.iconst 1, 1) := by decide +kernel
theorem dX9_fails_24 : decode cX9_fails 24 = .ok (.goto 4, 3) := by decide +kernel
theorem dX9_fails_27 : decode cX9_fails 27 = .ok (.iconst 0, 1) := by decide +kernel
theorem dX9_fails_28 : decode cX9_fails 28 = .ok (.ireturn, 1) := by decide +kernel
theorem dX9_lays_0 : decode cX9_lays 0 = .ok (.iconst 0, 1) := by decide +kernel
theorem dX9_lays_1 : decode cX9_lays 1 = .ok (.istore 4, 2) := by decide +kernel
theorem dX9_lays_3 : decode cX9_lays 3 = .ok (.iload 4, 2) := by decide +kernel
theorem dX9_lays_5 : decode cX9_lays 5 = .ok (.sipush 484, 3) := by decide +kernel
theorem dX9_lays_8 : decode cX9_lays 8 = .ok (.if_icmp .ge 21, 3) := by decide +kernel
theorem dX9_lays_11 : decode cX9_lays 11 = .ok (.aload_n 2, 1) := by decide +kernel
theorem dX9_lays_12 : decode cX9_lays 12 = .ok (.iload_n 3, 1) := by decide +kernel
theorem dX9_lays_13 : decode cX9_lays 13 = .ok (.iload 4, 2) := by decide +kernel
theorem dX9_lays_15 : decode cX9_lays 15 = .ok (.iadd, 1) := by decide +kernel
theorem dX9_lays_16 : decode cX9_lays 16 = .ok (.aload_n 0, 1) := by decide +kernel
theorem dX9_lays_17 : decode cX9_lays 17 = .ok (.iload_n 1, 1) := by decide +kernel
theorem dX9_lays_18 : decode cX9_lays 18 = .ok (.iload 4, 2) := by decide +kernel
theorem dX9_lays_20 : decode cX9_lays 20 = .ok (.iadd, 1) := by decide +kernel
theorem dX9_lays_21 : decode cX9_lays 21 = .ok (.iaload, 1) := by decide +kernel
theorem dX9_lays_22 : decode cX9_lays 22 = .ok (.iastore, 1) := by decide +kernel
theorem dX9_lays_23 : decode cX9_lays 23 = .ok (.iinc 4 1, 3) := by decide +kernel
theorem dX9_lays_26 : decode cX9_lays 26 = .ok (.goto (-23), 3) := by decide +kernel
theorem dX9_lays_29 : decode cX9_lays 29 = .ok (.return_, 1) := by decide +kernel
theorem dX9_begins_0 : decode cX9_begins 0 = .ok (.iconst 0, 1) := by decide +kernel
theorem dX9_begins_1 : decode cX9_begins 1 = .ok (.istore_n 1, 1) := by decide +kernel
theorem dX9_begins_2 : decode cX9_begins 2 = .ok (.iload_n 1, 1) := by decide +kernel
theorem dX9_begins_3 : decode cX9_begins 3 = .ok (.sipush 484, 3) := by decide +kernel
theorem dX9_begins_6 : decode cX9_begins 6 = .ok (.if_icmp .ge 16, 3) := by decide +kernel
theorem dX9_begins_9 : decode cX9_begins 9 = .ok (.aload_n 0, 1) := by decide +kernel
theorem dX9_begins_10 : decode cX9_begins 10 = .ok (.getfield 9, 3) := by decide +kernel
theorem dX9_begins_13 : decode cX9_begins 13 = .ok (.iload_n 1, 1) := by decide +kernel
theorem dX9_begins_14 : decode cX9_begins 14 = .ok (.iconst 0, 1) := by decide +kernel
theorem dX9_begins_15 : decode cX9_begins 15 = .ok (.iastore, 1) := by decide +kernel
theorem dX9_begins_16 : decode cX9_begins 16 = .ok (.iinc 1 1, 3) := by decide +kernel
theorem dX9_begins_19 : decode cX9_begins 19 = .ok (.goto (-17), 3) := by decide +kernel
theorem dX9_begins_22 : decode cX9_begins 22 = .ok (.aload_n 0, 1) := by decide +kernel
theorem dX9_begins_23 : decode cX9_begins 23 = .ok (.getfield 9, 3) := by decide +kernel
theorem dX9_begins_26 : decode cX9_begins 26 = .ok (.iconst 2, 1) := by decide +kernel
theorem dX9_begins_27 : decode cX9_begins 27 = .ok (.iconst 5, 1) := by decide +kernel
theorem dX9_begins_28 : decode cX9_begins 28 = .ok (.iastore, 1) := by decide +kernel
theorem dX9_begins_29 : decode cX9_begins 29 = .ok (.aload_n 0, 1) := by decide +kernel
theorem dX9_begins_30 : decode cX9_begins 30 = .ok (.getfield 9, 3) := by decide +kernel
theorem dX9_begins_33 : decode cX9_begins 33 = .ok (.iconst 3, 1) := by decide +kernel
theorem dX9_begins_34 : decode cX9_begins 34 = .ok (.bipush 15, 2) := by decide +kernel
theorem dX9_begins_36 : decode cX9_begins 36 = .ok (.iastore, 1) := by decide +kernel
theorem dX9_begins_37 : decode cX9_begins 37 = .ok (.aload_n 0, 1) := by decide +kernel
theorem dX9_begins_38 : decode cX9_begins 38 = .ok (.getfield 9, 3) := by decide +kernel
theorem dX9_begins_41 : decode cX9_begins 41 = .ok (.iconst 4, 1) := by decide +kernel
theorem dX9_begins_42 : decode cX9_begins 42 = .ok (.sipush 6554, 3) := by decide +kernel
theorem dX9_begins_45 : decode cX9_begins 45 = .ok (.iastore, 1) := by decide +kernel
theorem dX9_begins_46 : decode cX9_begins 46 = .ok (.aload_n 0, 1) := by decide +kernel
theorem dX9_begins_47 : decode cX9_begins 47 = .ok (.getfield 9, 3) := by decide +kernel
theorem dX9_begins_50 : decode cX9_begins 50 = .ok (.iconst 5, 1) := by decide +kernel
theorem dX9_begins_51 : decode cX9_begins 51 = .ok (.iconst 4, 1) := by decide +kernel
theorem dX9_begins_52 : decode cX9_begins 52 = .ok (.iastore, 1) := by decide +kernel
theorem dX9_begins_53 : decode cX9_begins 53 = .ok (.aload_n 0, 1) := by decide +kernel
theorem dX9_begins_54 : decode cX9_begins 54 = .ok (.getfield 9, 3) := by decide +kernel
theorem dX9_begins_57 : decode cX9_begins 57 = .ok (.bipush 10, 2) := by decide +kernel
theorem dX9_begins_59 : decode cX9_begins 59 = .ok (.iconst (-1), 1) := by decide +kernel
theorem dX9_begins_60 : decode cX9_begins 60 = .ok (.iastore, 1) := by decide +kernel
theorem dX9_begins_61 : decode cX9_begins 61 = .ok (.aload_n 0, 1) := by decide +kernel
theorem dX9_begins_62 : decode cX9_begins 62 = .ok (.getfield 9, 3) := by decide +kernel
theorem dX9_begins_65 : decode cX9_begins 65 = .ok (.bipush 13, 2) := by decide +kernel
theorem dX9_begins_67 : decode cX9_begins 67 = .ok (.iconst 1, 1) := by decide +kernel
theorem dX9_begins_68 : decode cX9_begins 68 = .ok (.iastore, 1) := by decide +kernel
theorem dX9_begins_69 : decode cX9_begins 69 = .ok (.return_, 1) := by decide +kernel
theorem dX9_ofFlow_0 : decode cX9_ofFlow 0 = .ok (.aload_n 0, 1) := by decide +kernel
theorem dX9_ofFlow_1 : decode cX9_ofFlow 1 = .ok (.getfield 9, 3) := by decide +kernel
theorem dX9_ofFlow_4 : decode cX9_ofFlow 4 = .ok (.bipush 16, 2) := by decide +kernel
theorem dX9_ofFlow_6 : decode cX9_ofFlow 6 = .ok (.bipush 26, 2) := by decide +kernel
theorem dX9_ofFlow_8 : decode cX9_ofFlow 8 = .ok (.iload_n 1, 1) := by decide +kernel
theorem dX9_ofFlow_9 : decode cX9_ofFlow 9 = .ok (.imul, 1) := by decide +kernel
theorem dX9_ofFlow_10 : decode cX9_ofFlow 10 = .ok (.iadd, 1) := by decide +kernel
theorem dX9_ofFlow_11 : decode cX9_ofFlow 11 = .ok (.iload_n 2, 1) := by decide +kernel
theorem dX9_ofFlow_12 : decode cX9_ofFlow 12 = .ok (.iadd, 1) := by decide +kernel
theorem dX9_ofFlow_13 : decode cX9_ofFlow 13 = .ok (.iaload, 1) := by decide +kernel
theorem dX9_ofFlow_14 : decode cX9_ofFlow 14 = .ok (.ireturn, 1) := by decide +kernel
theorem dX9_putsFlow_0 : decode cX9_putsFlow 0 = .ok (.aload_n 0, 1) := by decide +kernel
theorem dX9_putsFlow_1 : decode cX9_putsFlow 1 = .ok (.getfield 9, 3) := by decide +kernel
theorem dX9_putsFlow_4 : decode cX9_putsFlow 4 = .ok (.bipush 16, 2) := by decide +kernel
theorem dX9_putsFlow_6 : decode cX9_putsFlow 6 = .ok (.bipush 26, 2) := by decide +kernel
theorem dX9_putsFlow_8 : decode cX9_putsFlow 8 = .ok (.iload_n 1, 1) := by decide +kernel
theorem dX9_putsFlow_9 : decode cX9_putsFlow 9 = .ok (.imul, 1) := by decide +kernel
theorem dX9_putsFlow_10 : decode cX9_putsFlow 10 = .ok (.iadd, 1) := by decide +kernel
theorem dX9_putsFlow_11 : decode cX9_putsFlow 11 = .ok (.iload_n 2, 1) := by decide +kernel
theorem dX9_putsFlow_12 : decode cX9_putsFlow 12 = .ok (.iadd, 1) := by decide +kernel
theorem dX9_putsFlow_13 : decode cX9_putsFlow 13 = .ok (.iload_n 3, 1) := by decide +kernel
theorem dX9_putsFlow_14 : decode cX9_putsFlow 14 = .ok (.iastore, 1) := by decide +kernel
theorem dX9_putsFlow_15 : decode cX9_putsFlow 15 = .ok (.return_, 1) := by decide +kernel
theorem dX9_ofPacket_0 : decode cX9_ofPacket 0 = .ok (.aload_n 0, 1) := by decide +kernel
theorem dX9_ofPacket_1 : decode cX9_ofPacket 1 = .ok (.getfield 9, 3) := by decide +kernel
theorem dX9_ofPacket_4 : decode cX9_ofPacket 4 = .ok (.sipush 172, 3) := by decide +kernel
theorem dX9_ofPacket_7 : decode cX9_ofPacket 7 = .ok (.iconst 3, 1) := by decide +kernel
theorem dX9_ofPacket_8 : decode cX9_ofPacket 8 = .ok (.iload_n 1, 1) := by decide +kernel
theorem dX9_ofPacket_9 : decode cX9_ofPacket 9 = .ok (.imul, 1) := by decide +kernel
theorem dX9_ofPacket_10 : decode cX9_ofPacket 10 = .ok (.iadd, 1) := by decide +kernel
theorem dX9_ofPacket_11 : decode cX9_ofPacket 11 = .ok (.iload_n 2, 1) := by decide +kernel
theorem dX9_ofPacket_12 : decode cX9_ofPacket 12 = .ok (.iadd, 1) := by decide +kernel
theorem dX9_ofPacket_13 : decode cX9_ofPacket 13 = .ok (.iaload, 1) := by decide +kernel
theorem dX9_ofPacket_14 : decode cX9_ofPacket 14 = .ok (.ireturn, 1) := by decide +kernel
theorem dX9_low_0 : decode cX9_low 0 = .ok (.sipush 1024, 3) := by decide +kernel
theorem dX9_low_3 : decode cX9_low 3 = .ok (.aload_n 0, 1) := by decide +kernel
theorem dX9_low_4 : decode cX9_low 4 = .ok (.getfield 9, 3) := by decide +kernel
theorem dX9_low_7 : decode cX9_low 7 = .ok (.iconst 2, 1) := by decide +kernel
theorem dX9_low_8 : decode cX9_low 8 = .ok (.iaload, 1) := by decide +kernel
theorem dX9_low_9 : decode cX9_low 9 = .ok (.imul, 1) := by decide +kernel
theorem dX9_low_10 : decode cX9_low 10 = .ok (.ireturn, 1) := by decide +kernel
theorem dX9_high_0 : decode cX9_high 0 = .ok (.sipush 1024, 3) := by decide +kernel
theorem dX9_high_3 : decode cX9_high 3 = .ok (.aload_n 0, 1) := by decide +kernel
theorem dX9_high_4 : decode cX9_high 4 = .ok (.getfield 9, 3) := by decide +kernel
theorem dX9_high_7 : decode cX9_high 7 = .ok (.iconst 3, 1) := by decide +kernel
theorem dX9_high_8 : decode cX9_high 8 = .ok (.iaload, 1) := by decide +kernel
theorem dX9_high_9 : decode cX9_high 9 = .ok (.imul, 1) := by decide +kernel
theorem dX9_high_10 : decode cX9_high 10 = .ok (.ireturn, 1) := by decide +kernel
theorem dX9_moved_0 : decode cX9_moved 0 = .ok (.iload_n 1, 1) := by decide +kernel
theorem dX9_moved_1 : decode cX9_moved 1 = .ok (.sipush 1024, 3) := by decide +kernel
theorem dX9_moved_4 : decode cX9_moved 4 = .ok (.iload_n 2, 1) := by decide +kernel
theorem dX9_moved_5 : decode cX9_moved 5 = .ok (.imul, 1) := by decide +kernel
theorem dX9_moved_6 : decode cX9_moved 6 = .ok (.iload_n 1, 1) := by decide +kernel
theorem dX9_moved_7 : decode cX9_moved 7 = .ok (.isub, 1) := by decide +kernel
theorem dX9_moved_8 : decode cX9_moved 8 = .ok (.aload_n 0, 1) := by decide +kernel
theorem dX9_moved_9 : decode cX9_moved 9 = .ok (.getfield 9, 3) := by decide +kernel
theorem dX9_moved_12 : decode cX9_moved 12 = .ok (.iconst 5, 1) := by decide +kernel
theorem dX9_moved_13 : decode cX9_moved 13 = .ok (.iaload, 1) := by decide +kernel
theorem dX9_moved_14 : decode cX9_moved 14 = .ok (.ishr, 1) := by decide +kernel
theorem dX9_moved_15 : decode cX9_moved 15 = .ok (.iadd, 1) := by decide +kernel
theorem dX9_moved_16 : decode cX9_moved 16 = .ok (.ireturn, 1) := by decide +kernel
theorem dX9_draws_0 : decode cX9_draws 0 = .ok (.aload_n 0, 1) := by decide +kernel
theorem dX9_draws_1 : decode cX9_draws 1 = .ok (.getfield 9, 3) := by decide +kernel
theorem dX9_draws_4 : decode cX9_draws 4 = .ok (.bipush 13, 2) := by decide +kernel
theorem dX9_draws_6 : decode cX9_draws 6 = .ok (.aload_n 0, 1) := by decide +kernel
theorem dX9_draws_7 : decode cX9_draws 7 = .ok (.getfield 9, 3) := by decide +kernel
theorem dX9_draws_10 : decode cX9_draws 10 = .ok (.bipush 13, 2) := by decide +kernel
theorem dX9_draws_12 : decode cX9_draws 12 = .ok (.iaload, 1) := by decide +kernel
theorem dX9_draws_13 : decode cX9_draws 13 = .ok (.ldc 97, 2) := by decide +kernel
theorem dX9_draws_15 : decode cX9_draws 15 = .ok (.imul, 1) := by decide +kernel
theorem dX9_draws_16 : decode cX9_draws 16 = .ok (.sipush 12345, 3) := by decide +kernel
theorem dX9_draws_19 : decode cX9_draws 19 = .ok (.iadd, 1) := by decide +kernel
theorem dX9_draws_20 : decode cX9_draws 20 = .ok (.iastore, 1) := by decide +kernel
theorem dX9_draws_21 : decode cX9_draws 21 = .ok (.aload_n 0, 1) := by decide +kernel
theorem dX9_draws_22 : decode cX9_draws 22 = .ok (.getfield 9, 3) := by decide +kernel
theorem dX9_draws_25 : decode cX9_draws 25 = .ok (.bipush 13, 2) := by decide +kernel
theorem dX9_draws_27 : decode cX9_draws 27 = .ok (.iaload, 1) := by decide +kernel
theorem dX9_draws_28 : decode cX9_draws 28 = .ok (.bipush 15, 2) := by decide +kernel
theorem dX9_draws_30 : decode cX9_draws 30 = .ok (.iushr, 1) := by decide +kernel
theorem dX9_draws_31 : decode cX9_draws 31 = .ok (.ldc 98, 2) := by decide +kernel
theorem dX9_draws_33 : decode cX9_draws 33 = .ok (.iand, 1) := by decide +kernel
theorem dX9_draws_34 : decode cX9_draws 34 = .ok (.ireturn, 1) := by decide +kernel
theorem dX9_keeps_0 : decode cX9_keeps 0 = .ok (.aload_n 0, 1) := by decide +kernel
theorem dX9_keeps_1 : decode cX9_keeps 1 = .ok (.getfield 9, 3) := by decide +kernel
theorem dX9_keeps_4 : decode cX9_keeps 4 = .ok (.bipush 12, 2) := by decide +kernel
theorem dX9_keeps_6 : decode cX9_keeps 6 = .ok (.iaload, 1) := by decide +kernel
theorem dX9_keeps_7 : decode cX9_keeps 7 = .ok (.bipush 24, 2) := by decide +kernel
theorem dX9_keeps_9 : decode cX9_keeps 9 = .ok (.if_icmp .ne 50, 3) := by decide +kernel
theorem dX9_keeps_12 : decode cX9_keeps 12 = .ok (.sipush 292, 3) := by decide +kernel
theorem dX9_keeps_15 : decode cX9_keeps 15 = .ok (.istore 7, 2) := by decide +kernel
theorem dX9_keeps_17 : decode cX9_keeps 17 = .ok (.iload 7, 2) := by decide +kernel
theorem dX9_keeps_19 : decode cX9_keeps 19 = .ok (.sipush 476, 3) := by decide +kernel
theorem dX9_keeps_22 : decode cX9_keeps 22 = .ok (.if_icmp .ge 26, 3) := by decide +kernel
theorem dX9_keeps_25 : decode cX9_keeps 25 = .ok (.aload_n 0, 1) := by decide +kernel
theorem dX9_keeps_26 : decode cX9_keeps 26 = .ok (.getfield 9, 3) := by decide +kernel
theorem dX9_keeps_29 : decode cX9_keeps 29 = .ok (.iload 7, 2) := by decide +kernel
theorem dX9_keeps_31 : decode cX9_keeps 31 = .ok (.aload_n 0, 1) := by decide +kernel
theorem dX9_keeps_32 : decode cX9_keeps 32 = .ok (.getfield 9, 3) := by decide +kernel
theorem dX9_keeps_35 : decode cX9_keeps 35 = .ok (.iload 7, 2) := by decide +kernel
theorem dX9_keeps_37 : decode cX9_keeps 37 = .ok (.bipush 8, 2) := by decide +kernel
theorem dX9_keeps_39 : decode cX9_keeps 39 = .ok (.iadd, 1) := by decide +kernel
theorem dX9_keeps_40 : decode cX9_keeps 40 = .ok (.iaload, 1) := by decide +kernel
theorem dX9_keeps_41 : decode cX9_keeps 41 = .ok (.iastore, 1) := by decide +kernel
theorem dX9_keeps_42 : decode cX9_keeps 42 = .ok (.iinc 7 1, 3) := by decide +kernel
theorem dX9_keeps_45 : decode cX9_keeps 45 = .ok (.goto (-28), 3) := by decide +kernel
theorem dX9_keeps_48 : decode cX9_keeps 48 = .ok (.aload_n 0, 1) := by decide +kernel
theorem dX9_keeps_49 : decode cX9_keeps 49 = .ok (.getfield 9, 3) := by decide +kernel
theorem dX9_keeps_52 : decode cX9_keeps 52 = .ok (.bipush 12, 2) := by decide +kernel
theorem dX9_keeps_54 : decode cX9_keeps 54 = .ok (.dup2, 1) := by decide +kernel
theorem dX9_keeps_55 : decode cX9_keeps 55 = .ok (.iaload, 1) := by decide +kernel
theorem dX9_keeps_56 : decode cX9_keeps 56 = .ok (.iconst 1, 1) := by decide +kernel
theorem dX9_keeps_57 : decode cX9_keeps 57 = .ok (.isub, 1) := by decide +kernel
theorem dX9_keeps_58 : decode cX9_keeps 58 = .ok (.iastore, 1) := by decide +kernel
theorem dX9_keeps_59 : decode cX9_keeps 59 = .ok (.sipush 292, 3) := by decide +kernel
theorem dX9_keeps_62 : decode cX9_keeps 62 = .ok (.bipush 8, 2) := by decide +kernel
theorem dX9_keeps_64 : decode cX9_keeps 64 = .ok (.aload_n 0, 1) := by decide +kernel
theorem dX9_keeps_65 : decode cX9_keeps 65 = .ok (.getfield 9, 3) := by decide +kernel
theorem dX9_keeps_68 : decode cX9_keeps 68 = .ok (.bipush 12, 2) := by decide +kernel
theorem dX9_keeps_70 : decode cX9_keeps 70 = .ok (.iaload, 1) := by decide +kernel
theorem dX9_keeps_71 : decode cX9_keeps 71 = .ok (.imul, 1) := by decide +kernel
theorem dX9_keeps_72 : decode cX9_keeps 72 = .ok (.iadd, 1) := by decide +kernel
theorem dX9_keeps_73 : decode cX9_keeps 73 = .ok (.istore 7, 2) := by decide +kernel
theorem dX9_keeps_75 : decode cX9_keeps 75 = .ok (.aload_n 0, 1) := by decide +kernel
theorem dX9_keeps_76 : decode cX9_keeps 76 = .ok (.getfield 9, 3) := by decide +kernel
theorem dX9_keeps_79 : decode cX9_keeps 79 = .ok (.iload 7, 2) := by decide +kernel
theorem dX9_keeps_81 : decode cX9_keeps 81 = .ok (.aload_n 0, 1) := by decide +kernel
theorem dX9_keeps_82 : decode cX9_keeps 82 = .ok (.getfield 9, 3) := by decide +kernel
theorem dX9_keeps_85 : decode cX9_keeps 85 = .ok (.bipush 7, 2) := by decide +kernel
theorem dX9_keeps_87 : decode cX9_keeps 87 = .ok (.iaload, 1) := by decide +kernel
theorem dX9_keeps_88 : decode cX9_keeps 88 = .ok (.iastore, 1) := by decide +kernel
theorem dX9_keeps_89 : decode cX9_keeps 89 = .ok (.aload_n 0, 1) := by decide +kernel
theorem dX9_keeps_90 : decode cX9_keeps 90 = .ok (.getfield 9, 3) := by decide +kernel
theorem dX9_keeps_93 : decode cX9_keeps 93 = .ok (.iload 7, 2) := by decide +kernel
theorem dX9_keeps_95 : decode cX9_keeps 95 = .ok (.iconst 1, 1) := by decide +kernel
theorem dX9_keeps_96 : decode cX9_keeps 96 = .ok (.iadd, 1) := by decide +kernel
theorem dX9_keeps_97 : decode cX9_keeps 97 = .ok (.iload_n 1, 1) := by decide +kernel
theorem dX9_keeps_98 : decode cX9_keeps 98 = .ok (.iastore, 1) := by decide +kernel
theorem dX9_keeps_99 : decode cX9_keeps 99 = .ok (.aload_n 0, 1) := by decide +kernel
theorem dX9_keeps_100 : decode cX9_keeps 100 = .ok (.getfield 9, 3) := by decide +kernel
theorem dX9_keeps_103 : decode cX9_keeps 103 = .ok (.iload 7, 2) := by decide +kernel
theorem dX9_keeps_105 : decode cX9_keeps 105 = .ok (.iconst 2, 1) := by decide +kernel
theorem dX9_keeps_106 : decode cX9_keeps 106 = .ok (.iadd, 1) := by decide +kernel
theorem dX9_keeps_107 : decode cX9_keeps 107 = .ok (.iload_n 2, 1) := by decide +kernel
theorem dX9_keeps_108 : decode cX9_keeps 108 = .ok (.iastore, 1) := by decide +kernel
theorem dX9_keeps_109 : decode cX9_keeps 109 = .ok (.aload_n 0, 1) := by decide +kernel
theorem dX9_keeps_110 : decode cX9_keeps 110 = .ok (.getfield 9, 3) := by decide +kernel
theorem dX9_keeps_113 : decode cX9_keeps 113 = .ok (.iload 7, 2) := by decide +kernel
theorem dX9_keeps_115 : decode cX9_keeps 115 = .ok (.iconst 3, 1) := by decide +kernel
theorem dX9_keeps_116 : decode cX9_keeps 116 = .ok (.iadd, 1) := by decide +kernel
theorem dX9_keeps_117 : decode cX9_keeps 117 = .ok (.aload_n 0, 1) := by decide +kernel
theorem dX9_keeps_118 : decode cX9_keeps 118 = .ok (.getfield 9, 3) := by decide +kernel
theorem dX9_keeps_121 : decode cX9_keeps 121 = .ok (.bipush 9, 2) := by decide +kernel
theorem dX9_keeps_123 : decode cX9_keeps 123 = .ok (.iaload, 1) := by decide +kernel
theorem dX9_keeps_124 : decode cX9_keeps 124 = .ok (.iastore, 1) := by decide +kernel
theorem dX9_keeps_125 : decode cX9_keeps 125 = .ok (.aload_n 0, 1) := by decide +kernel
theorem dX9_keeps_126 : decode cX9_keeps 126 = .ok (.getfield 9, 3) := by decide +kernel
theorem dX9_keeps_129 : decode cX9_keeps 129 = .ok (.iload 7, 2) := by decide +kernel
theorem dX9_keeps_131 : decode cX9_keeps 131 = .ok (.iconst 4, 1) := by decide +kernel
theorem dX9_keeps_132 : decode cX9_keeps 132 = .ok (.iadd, 1) := by decide +kernel
theorem dX9_keeps_133 : decode cX9_keeps 133 = .ok (.iload_n 3, 1) := by decide +kernel
theorem dX9_keeps_134 : decode cX9_keeps 134 = .ok (.iastore, 1) := by decide +kernel
theorem dX9_keeps_135 : decode cX9_keeps 135 = .ok (.aload_n 0, 1) := by decide +kernel
theorem dX9_keeps_136 : decode cX9_keeps 136 = .ok (.getfield 9, 3) := by decide +kernel
theorem dX9_keeps_139 : decode cX9_keeps 139 = .ok (.iload 7, 2) := by decide +kernel
theorem dX9_keeps_141 : decode cX9_keeps 141 = .ok (.iconst 5, 1) := by decide +kernel
theorem dX9_keeps_142 : decode cX9_keeps 142 = .ok (.iadd, 1) := by decide +kernel
theorem dX9_keeps_143 : decode cX9_keeps 143 = .ok (.iload 4, 2) := by decide +kernel
theorem dX9_keeps_145 : decode cX9_keeps 145 = .ok (.iastore, 1) := by decide +kernel
theorem dX9_keeps_146 : decode cX9_keeps 146 = .ok (.aload_n 0, 1) := by decide +kernel
theorem dX9_keeps_147 : decode cX9_keeps 147 = .ok (.getfield 9, 3) := by decide +kernel
theorem dX9_keeps_150 : decode cX9_keeps 150 = .ok (.iload 7, 2) := by decide +kernel
theorem dX9_keeps_152 : decode cX9_keeps 152 = .ok (.bipush 6, 2) := by decide +kernel
theorem dX9_keeps_154 : decode cX9_keeps 154 = .ok (.iadd, 1) := by decide +kernel
theorem dX9_keeps_155 : decode cX9_keeps 155 = .ok (.iload 5, 2) := by decide +kernel
theorem dX9_keeps_157 : decode cX9_keeps 157 = .ok (.iastore, 1) := by decide +kernel
theorem dX9_keeps_158 : decode cX9_keeps 158 = .ok (.aload_n 0, 1) := by decide +kernel
theorem dX9_keeps_159 : decode cX9_keeps 159 = .ok (.getfield 9, 3) := by decide +kernel
theorem dX9_keeps_162 : decode cX9_keeps 162 = .ok (.iload 7, 2) := by decide +kernel
theorem dX9_keeps_164 : decode cX9_keeps 164 = .ok (.bipush 7, 2) := by decide +kernel
theorem dX9_keeps_166 : decode cX9_keeps 166 = .ok (.iadd, 1) := by decide +kernel
theorem dX9_keeps_167 : decode cX9_keeps 167 = .ok (.iload 6, 2) := by decide +kernel
theorem dX9_keeps_169 : decode cX9_keeps 169 = .ok (.iastore, 1) := by decide +kernel
theorem dX9_keeps_170 : decode cX9_keeps 170 = .ok (.aload_n 0, 1) := by decide +kernel
theorem dX9_keeps_171 : decode cX9_keeps 171 = .ok (.getfield 9, 3) := by decide +kernel
theorem dX9_keeps_174 : decode cX9_keeps 174 = .ok (.bipush 12, 2) := by decide +kernel
theorem dX9_keeps_176 : decode cX9_keeps 176 = .ok (.dup2, 1) := by decide +kernel
theorem dX9_keeps_177 : decode cX9_keeps 177 = .ok (.iaload, 1) := by decide +kernel
theorem dX9_keeps_178 : decode cX9_keeps 178 = .ok (.iconst 1, 1) := by decide +kernel
theorem dX9_keeps_179 : decode cX9_keeps 179 = .ok (.iadd, 1) := by decide +kernel
theorem dX9_keeps_180 : decode cX9_keeps 180 = .ok (.iastore, 1) := by decide +kernel
theorem dX9_keeps_181 : decode cX9_keeps 181 = .ok (.return_, 1) := by decide +kernel
theorem dX9_feeds_0 : decode cX9_feeds 0 = .ok (.bipush 24, 2) := by decide +kernel
theorem dX9_feeds_2 : decode cX9_feeds 2 = .ok (.istore_n 2, 1) := by decide +kernel
theorem dX9_feeds_3 : decode cX9_feeds 3 = .ok (.iload_n 2, 1) := by decide +kernel
theorem dX9_feeds_4 : decode cX9_feeds 4 = .ok (.ifCond .lt 44, 3) := by decide +kernel
theorem dX9_feeds_7 : decode cX9_feeds 7 = .ok (.iload_n 1, 1) := by decide +kernel
theorem dX9_feeds_8 : decode cX9_feeds 8 = .ok (.iload_n 2, 1) := by decide +kernel
theorem dX9_feeds_9 : decode cX9_feeds 9 = .ok (.ishr, 1) := by decide +kernel
theorem dX9_feeds_10 : decode cX9_feeds 10 = .ok (.sipush 255, 3) := by decide +kernel
theorem dX9_feeds_13 : decode cX9_feeds 13 = .ok (.iand, 1) := by decide +kernel
theorem dX9_feeds_14 : decode cX9_feeds 14 = .ok (.istore_n 3, 1) := by decide +kernel
theorem dX9_feeds_15 : decode cX9_feeds 15 = .ok (.iload_n 3, 1) := by decide +kernel
theorem dX9_feeds_16 : decode cX9_feeds 16 = .ok (.ifCond .ne 6, 3) := by decide +kernel
theorem dX9_feeds_19 : decode cX9_feeds 19 = .ok (.goto 23, 3) := by decide +kernel
theorem dX9_feeds_22 : decode cX9_feeds 22 = .ok (.aload_n 0, 1) := by decide +kernel
theorem dX9_feeds_23 : decode cX9_feeds 23 = .ok (.getfield 29, 3) := by decide +kernel
theorem dX9_feeds_26 : decode cX9_feeds 26 = .ok (.aload_n 0, 1) := by decide +kernel
theorem dX9_feeds_27 : decode cX9_feeds 27 = .ok (.getfield 179, 3) := by decide +kernel
theorem dX9_feeds_30 : decode cX9_feeds 30 = .ok (.iload_n 3, 1) := by decide +kernel
theorem dX9_feeds_31 : decode cX9_feeds 31 = .ok (.iastore, 1) := by decide +kernel
theorem dX9_feeds_32 : decode cX9_feeds 32 = .ok (.aload_n 0, 1) := by decide +kernel
theorem dX9_feeds_33 : decode cX9_feeds 33 = .ok (.dup, 1) := by decide +kernel
theorem dX9_feeds_34 : decode cX9_feeds 34 = .ok (.getfield 179, 3) := by decide +kernel
theorem dX9_feeds_37 : decode cX9_feeds 37 = .ok (.iconst 1, 1) := by decide +kernel
theorem dX9_feeds_38 : decode cX9_feeds 38 = .ok (.iadd, 1) := by decide +kernel
theorem dX9_feeds_39 : decode cX9_feeds 39 = .ok (.putfield 179, 3) := by decide +kernel
theorem dX9_feeds_42 : decode cX9_feeds 42 = .ok (.iinc 2 (-8), 3) := by decide +kernel
theorem dX9_feeds_45 : decode cX9_feeds 45 = .ok (.goto (-42), 3) := by decide +kernel
theorem dX9_feeds_48 : decode cX9_feeds 48 = .ok (.return_, 1) := by decide +kernel
theorem dX9_byteAt_0 : decode cX9_byteAt 0 = .ok (.iload_n 1, 1) := by decide +kernel
theorem dX9_byteAt_1 : decode cX9_byteAt 1 = .ok (.aload_n 0, 1) := by decide +kernel
theorem dX9_byteAt_2 : decode cX9_byteAt 2 = .ok (.getfield 179, 3) := by decide +kernel
theorem dX9_byteAt_5 : decode cX9_byteAt 5 = .ok (.if_icmp .ge 12, 3) := by decide +kernel
theorem dX9_byteAt_8 : decode cX9_byteAt 8 = .ok (.aload_n 0, 1) := by decide +kernel
theorem dX9_byteAt_9 : decode cX9_byteAt 9 = .ok (.getfield 29, 3) := by decide +kernel
theorem dX9_byteAt_12 : decode cX9_byteAt 12 = .ok (.iload_n 1, 1) := by decide +kernel
theorem dX9_byteAt_13 : decode cX9_byteAt 13 = .ok (.iaload, 1) := by decide +kernel
theorem dX9_byteAt_14 : decode cX9_byteAt 14 = .ok (.goto 4, 3) := by decide +kernel
theorem dX9_byteAt_17 : decode cX9_byteAt 17 = .ok (.iconst (-1), 1) := by decide +kernel
theorem dX9_byteAt_18 : decode cX9_byteAt 18 = .ok (.ireturn, 1) := by decide +kernel
theorem dX9_wrong_0 : decode cX9_wrong 0 = .ok (.aload_n 0, 1) := by decide +kernel
theorem dX9_wrong_1 : decode cX9_wrong 1 = .ok (.getfield 210, 3) := by decide +kernel
theorem dX9_wrong_4 : decode cX9_wrong 4 = .ok (.ifCond .ne 20, 3) := by decide +kernel
theorem dX9_wrong_7 : decode cX9_wrong 7 = .ok (.iload_n 1, 1) := by decide +kernel
theorem dX9_wrong_8 : decode cX9_wrong 8 = .ok (.ifCond .eq 16, 3) := by decide +kernel
theorem dX9_wrong_11 : decode cX9_wrong 11 = .ok (.aload_n 0, 1) := by decide +kernel
theorem dX9_wrong_12 : decode cX9_wrong 12 = .ok (.iload_n 2, 1) := by decide +kernel
theorem dX9_wrong_13 : decode cX9_wrong 13 = .ok (.putfield 210, 3) := by decide +kernel
theorem dX9_wrong_16 : decode cX9_wrong 16 = .ok (.aload_n 0, 1) := by decide +kernel
theorem dX9_wrong_17 : decode cX9_wrong 17 = .ok (.aload_n 0, 1) := by decide +kernel
theorem dX9_wrong_18 : decode cX9_wrong 18 = .ok (.getfield 194, 3) := by decide +kernel
theorem dX9_wrong_21 : decode cX9_wrong 21 = .ok (.putfield 213, 3) := by decide +kernel
theorem dX9_wrong_24 : decode cX9_wrong 24 = .ok (.aload_n 0, 1) := by decide +kernel
theorem dX9_wrong_25 : decode cX9_wrong 25 = .ok (.getfield 210, 3) := by decide +kernel
theorem dX9_wrong_28 : decode cX9_wrong 28 = .ok (.ifCond .eq 7, 3) := by decide +kernel
theorem dX9_wrong_31 : decode cX9_wrong 31 = .ok (.iconst 1, 1) := by decide +kernel
theorem dX9_wrong_32 : decode cX9_wrong 32 = .ok (.goto 4, 3) := by decide +kernel
theorem dX9_wrong_35 : decode cX9_wrong 35 = .ok (.iconst 0, 1) := by decide +kernel
theorem dX9_wrong_36 : decode cX9_wrong 36 = .ok (.ireturn, 1) := by decide +kernel
theorem dX9_length_0 : decode cX9_length 0 = .ok (.aload_n 0, 1) := by decide +kernel
theorem dX9_length_1 : decode cX9_length 1 = .ok (.getfield 191, 3) := by decide +kernel
theorem dX9_length_4 : decode cX9_length 4 = .ok (.aload_n 0, 1) := by decide +kernel
theorem dX9_length_5 : decode cX9_length 5 = .ok (.getfield 194, 3) := by decide +kernel
theorem dX9_length_8 : decode cX9_length 8 = .ok (.isub, 1) := by decide +kernel
theorem dX9_length_9 : decode cX9_length 9 = .ok (.ireturn, 1) := by decide +kernel
theorem dX9_isSign_0 : decode cX9_isSign 0 = .ok (.aload_n 0, 1) := by decide +kernel
theorem dX9_isSign_1 : decode cX9_isSign 1 = .ok (.getfield 210, 3) := by decide +kernel
theorem dX9_isSign_4 : decode cX9_isSign 4 = .ok (.ifCond .ne 28, 3) := by decide +kernel
theorem dX9_isSign_7 : decode cX9_isSign 7 = .ok (.aload_n 0, 1) := by decide +kernel
theorem dX9_isSign_8 : decode cX9_isSign 8 = .ok (.getfield 200, 3) := by decide +kernel
theorem dX9_isSign_11 : decode cX9_isSign 11 = .ok (.iconst 3, 1) := by decide +kernel
theorem dX9_isSign_12 : decode cX9_isSign 12 = .ok (.if_icmp .ne 20, 3) := by decide +kernel
theorem dX9_isSign_15 : decode cX9_isSign 15 = .ok (.aload_n 0, 1) := by decide +kernel
theorem dX9_isSign_16 : decode cX9_isSign 16 = .ok (.getfield 29, 3) := by decide +kernel
theorem dX9_isSign_19 : decode cX9_isSign 19 = .ok (.aload_n 0, 1) := by decide +kernel
theorem dX9_isSign_20 : decode cX9_isSign 20 = .ok (.getfield 194, 3) := by decide +kernel
theorem dX9_isSign_23 : decode cX9_isSign 23 = .ok (.iaload, 1) := by decide +kernel
theorem dX9_isSign_24 : decode cX9_isSign 24 = .ok (.iload_n 1, 1) := by decide +kernel
theorem dX9_isSign_25 : decode cX9_isSign 25 = .ok (.if_icmp .ne 7, 3) := by decide +kernel
theorem dX9_isSign_28 : decode cX9_isSign 28 = .ok (.iconst 1, 1) := by decide +kernel
theorem dX9_isSign_29 : decode cX9_isSign 29 = .ok (.goto 4, 3) := by decide +kernel
theorem dX9_isSign_32 : decode cX9_isSign 32 = .ok (.iconst 0, 1) := by decide +kernel
theorem dX9_isSign_33 : decode cX9_isSign 33 = .ok (.ireturn, 1) := by decide +kernel
theorem dX9_ended_0 : decode cX9_ended 0 = .ok (.aload_n 0, 1) := by decide +kernel
theorem dX9_ended_1 : decode cX9_ended 1 = .ok (.iconst 0, 1) := by decide +kernel
theorem dX9_ended_2 : decode cX9_ended 2 = .ok (.putfield 179, 3) := by decide +kernel
theorem dX9_ended_5 : decode cX9_ended 5 = .ok (.aload_n 0, 1) := by decide +kernel
theorem dX9_ended_6 : decode cX9_ended 6 = .ok (.aload_n 0, 1) := by decide +kernel
theorem dX9_ended_7 : decode cX9_ended 7 = .ok (.getfield 210, 3) := by decide +kernel
theorem dX9_ended_10 : decode cX9_ended 10 = .ok (.ifCond .ne 7, 3) := by decide +kernel
theorem dX9_ended_13 : decode cX9_ended 13 = .ok (.iconst (-1), 1) := by decide +kernel
theorem dX9_ended_14 : decode cX9_ended 14 = .ok (.goto 7, 3) := by decide +kernel
theorem dX9_ended_17 : decode cX9_ended 17 = .ok (.aload_n 0, 1) := by decide +kernel
theorem dX9_ended_18 : decode cX9_ended 18 = .ok (.getfield 213, 3) := by decide +kernel
theorem dX9_ended_21 : decode cX9_ended 21 = .ok (.putfield 32, 3) := by decide +kernel
theorem dX9_ended_24 : decode cX9_ended 24 = .ok (.aload_n 0, 1) := by decide +kernel
theorem dX9_ended_25 : decode cX9_ended 25 = .ok (.getfield 210, 3) := by decide +kernel
theorem dX9_ended_28 : decode cX9_ended 28 = .ok (.ifCond .ne 7, 3) := by decide +kernel
theorem dX9_ended_31 : decode cX9_ended 31 = .ok (.iconst 0, 1) := by decide +kernel
theorem dX9_ended_32 : decode cX9_ended 32 = .ok (.goto 10, 3) := by decide +kernel
theorem dX9_ended_35 : decode cX9_ended 35 = .ok (.bipush (-10), 2) := by decide +kernel
theorem dX9_ended_37 : decode cX9_ended 37 = .ok (.aload_n 0, 1) := by decide +kernel
theorem dX9_ended_38 : decode cX9_ended 38 = .ok (.getfield 210, 3) := by decide +kernel
theorem dX9_ended_41 : decode cX9_ended 41 = .ok (.isub, 1) := by decide +kernel
theorem dX9_ended_42 : decode cX9_ended 42 = .ok (.ireturn, 1) := by decide +kernel
theorem dX9_errorPosition_0 : decode cX9_errorPosition 0 = .ok (.aload_n 0, 1) := by decide +kernel
theorem dX9_errorPosition_1 : decode cX9_errorPosition 1 = .ok (.iconst 0, 1) := by decide +kernel
theorem dX9_errorPosition_2 : decode cX9_errorPosition 2 = .ok (.putfield 60, 3) := by decide +kernel
theorem dX9_errorPosition_5 : decode cX9_errorPosition 5 = .ok (.aload_n 0, 1) := by decide +kernel
theorem dX9_errorPosition_6 : decode cX9_errorPosition 6 = .ok (.getfield 32, 3) := by decide +kernel
theorem dX9_errorPosition_9 : decode cX9_errorPosition 9 = .ok (.ireturn, 1) := by decide +kernel
theorem dX9_ofDecision_0 : decode cX9_ofDecision 0 = .ok (.aload_n 0, 1) := by decide +kernel
theorem dX9_ofDecision_1 : decode cX9_ofDecision 1 = .ok (.getfield 9, 3) := by decide +kernel
theorem dX9_ofDecision_4 : decode cX9_ofDecision 4 = .ok (.sipush 292, 3) := by decide +kernel
theorem dX9_ofDecision_7 : decode cX9_ofDecision 7 = .ok (.bipush 8, 2) := by decide +kernel
theorem dX9_ofDecision_9 : decode cX9_ofDecision 9 = .ok (.aload_n 0, 1) := by decide +kernel
theorem dX9_ofDecision_10 : decode cX9_ofDecision 10 = .ok (.getfield 9, 3) := by decide +kernel
theorem dX9_ofDecision_13 : decode cX9_ofDecision 13 = .ok (.bipush 12, 2) := by decide +kernel
theorem dX9_ofDecision_15 : decode cX9_ofDecision 15 = .ok (.iaload, 1) := by decide +kernel
theorem dX9_ofDecision_16 : decode cX9_ofDecision 16 = .ok (.iconst 1, 1) := by decide +kernel
theorem dX9_ofDecision_17 : decode cX9_ofDecision 17 = .ok (.isub, 1) := by decide +kernel
theorem dX9_ofDecision_18 : decode cX9_ofDecision 18 = .ok (.iload_n 1, 1) := by decide +kernel
theorem dX9_ofDecision_19 : decode cX9_ofDecision 19 = .ok (.isub, 1) := by decide +kernel
theorem dX9_ofDecision_20 : decode cX9_ofDecision 20 = .ok (.imul, 1) := by decide +kernel
theorem dX9_ofDecision_21 : decode cX9_ofDecision 21 = .ok (.iadd, 1) := by decide +kernel
theorem dX9_ofDecision_22 : decode cX9_ofDecision 22 = .ok (.iload_n 2, 1) := by decide +kernel
theorem dX9_ofDecision_23 : decode cX9_ofDecision 23 = .ok (.iadd, 1) := by decide +kernel
theorem dX9_ofDecision_24 : decode cX9_ofDecision 24 = .ok (.iaload, 1) := by decide +kernel
theorem dX9_ofDecision_25 : decode cX9_ofDecision 25 = .ok (.ireturn, 1) := by decide +kernel
theorem dX9_average_0 : decode cX9_average 0 = .ok (.aload_n 0, 1) := by decide +kernel
theorem dX9_average_1 : decode cX9_average 1 = .ok (.iconst 0, 1) := by decide +kernel
theorem dX9_average_2 : decode cX9_average 2 = .ok (.putfield 60, 3) := by decide +kernel
theorem dX9_average_5 : decode cX9_average 5 = .ok (.aload_n 0, 1) := by decide +kernel
theorem dX9_average_6 : decode cX9_average 6 = .ok (.getfield 9, 3) := by decide +kernel
theorem dX9_average_9 : decode cX9_average 9 = .ok (.bipush 9, 2) := by decide +kernel
theorem dX9_average_11 : decode cX9_average 11 = .ok (.iaload, 1) := by decide +kernel
theorem dX9_average_12 : decode cX9_average 12 = .ok (.i2d, 1) := by decide +kernel
theorem dX9_average_13 : decode cX9_average 13 = .ok (.ldc2_w 393, 3) := by decide +kernel
theorem dX9_average_16 : decode cX9_average 16 = .ok (.ddiv, 1) := by decide +kernel
theorem dX9_average_17 : decode cX9_average 17 = .ok (.dreturn, 1) := by decide +kernel
theorem dX9_limitsNow_0 : decode cX9_limitsNow 0 = .ok (.bipush 100, 2) := by decide +kernel
theorem dX9_limitsNow_2 : decode cX9_limitsNow 2 = .ok (.aload_n 0, 1) := by decide +kernel
theorem dX9_limitsNow_3 : decode cX9_limitsNow 3 = .ok (.getfield 9, 3) := by decide +kernel
theorem dX9_limitsNow_6 : decode cX9_limitsNow 6 = .ok (.iconst 2, 1) := by decide +kernel
theorem dX9_limitsNow_7 : decode cX9_limitsNow 7 = .ok (.iaload, 1) := by decide +kernel
theorem dX9_limitsNow_8 : decode cX9_limitsNow 8 = .ok (.imul, 1) := by decide +kernel
theorem dX9_limitsNow_9 : decode cX9_limitsNow 9 = .ok (.aload_n 0, 1) := by decide +kernel
theorem dX9_limitsNow_10 : decode cX9_limitsNow 10 = .ok (.getfield 9, 3) := by decide +kernel
theorem dX9_limitsNow_13 : decode cX9_limitsNow 13 = .ok (.iconst 3, 1) := by decide +kernel
theorem dX9_limitsNow_14 : decode cX9_limitsNow 14 = .ok (.iaload, 1) := by decide +kernel
theorem dX9_limitsNow_15 : decode cX9_limitsNow 15 = .ok (.iadd, 1) := by decide +kernel
theorem dX9_limitsNow_16 : decode cX9_limitsNow 16 = .ok (.istore_n 3, 1) := by decide +kernel
theorem dX9_limitsNow_17 : decode cX9_limitsNow 17 = .ok (.aload_n 0, 1) := by decide +kernel
theorem dX9_limitsNow_18 : decode cX9_limitsNow 18 = .ok (.getfield 9, 3) := by decide +kernel
theorem dX9_limitsNow_21 : decode cX9_limitsNow 21 = .ok (.iconst 2, 1) := by decide +kernel
theorem dX9_limitsNow_22 : decode cX9_limitsNow 22 = .ok (.iload_n 1, 1) := by decide +kernel
theorem dX9_limitsNow_23 : decode cX9_limitsNow 23 = .ok (.iastore, 1) := by decide +kernel
theorem dX9_limitsNow_24 : decode cX9_limitsNow 24 = .ok (.aload_n 0, 1) := by decide +kernel
theorem dX9_limitsNow_25 : decode cX9_limitsNow 25 = .ok (.getfield 9, 3) := by decide +kernel
theorem dX9_limitsNow_28 : decode cX9_limitsNow 28 = .ok (.iconst 3, 1) := by decide +kernel
theorem dX9_limitsNow_29 : decode cX9_limitsNow 29 = .ok (.iload_n 2, 1) := by decide +kernel
theorem dX9_limitsNow_30 : decode cX9_limitsNow 30 = .ok (.iastore, 1) := by decide +kernel
theorem dX9_limitsNow_31 : decode cX9_limitsNow 31 = .ok (.iload_n 3, 1) := by decide +kernel
theorem dX9_limitsNow_32 : decode cX9_limitsNow 32 = .ok (.ireturn, 1) := by decide +kernel
theorem dX9_setNow_0 : decode cX9_setNow 0 = .ok (.aload_n 0, 1) := by decide +kernel
theorem dX9_setNow_1 : decode cX9_setNow 1 = .ok (.getfield 9, 3) := by decide +kernel
theorem dX9_setNow_4 : decode cX9_setNow 4 = .ok (.iload_n 1, 1) := by decide +kernel
theorem dX9_setNow_5 : decode cX9_setNow 5 = .ok (.iaload, 1) := by decide +kernel
theorem dX9_setNow_6 : decode cX9_setNow 6 = .ok (.istore_n 3, 1) := by decide +kernel
theorem dX9_setNow_7 : decode cX9_setNow 7 = .ok (.aload_n 0, 1) := by decide +kernel
theorem dX9_setNow_8 : decode cX9_setNow 8 = .ok (.getfield 9, 3) := by decide +kernel
theorem dX9_setNow_11 : decode cX9_setNow 11 = .ok (.iload_n 1, 1) := by decide +kernel
theorem dX9_setNow_12 : decode cX9_setNow 12 = .ok (.iload_n 2, 1) := by decide +kernel
theorem dX9_setNow_13 : decode cX9_setNow 13 = .ok (.iastore, 1) := by decide +kernel
theorem dX9_setNow_14 : decode cX9_setNow 14 = .ok (.iload_n 3, 1) := by decide +kernel
theorem dX9_setNow_15 : decode cX9_setNow 15 = .ok (.ireturn, 1) := by decide +kernel
theorem dX9_writes_0 : decode cX9_writes 0 = .ok (.aload_n 0, 1) := by decide +kernel
theorem dX9_writes_1 : decode cX9_writes 1 = .ok (.getfield 54, 3) := by decide +kernel
theorem dX9_writes_4 : decode cX9_writes 4 = .ok (.aload_n 0, 1) := by decide +kernel
theorem dX9_writes_5 : decode cX9_writes 5 = .ok (.getfield 432, 3) := by decide +kernel
theorem dX9_writes_8 : decode cX9_writes 8 = .ok (.iload_n 1, 1) := by decide +kernel
theorem dX9_writes_9 : decode cX9_writes 9 = .ok (.iastore, 1) := by decide +kernel
theorem dX9_writes_10 : decode cX9_writes 10 = .ok (.aload_n 0, 1) := by decide +kernel
theorem dX9_writes_11 : decode cX9_writes 11 = .ok (.dup, 1) := by decide +kernel
theorem dX9_writes_12 : decode cX9_writes 12 = .ok (.getfield 432, 3) := by decide +kernel
theorem dX9_writes_15 : decode cX9_writes 15 = .ok (.iconst 1, 1) := by decide +kernel
theorem dX9_writes_16 : decode cX9_writes 16 = .ok (.iadd, 1) := by decide +kernel
theorem dX9_writes_17 : decode cX9_writes 17 = .ok (.putfield 432, 3) := by decide +kernel
theorem dX9_writes_20 : decode cX9_writes 20 = .ok (.return_, 1) := by decide +kernel
-- X9_average
set_option maxRecDepth 100000 in
set_option maxHeartbeats 4000000 in
theorem zm_X9_average {l : Launch} {G : zG} {M : zM} {Kf : UInt64 → zM → Prop} (h : (vf_n64 (FP.ddiv (FP.i2d (zmI (zsI M 30 0 7 0) 31 0 9)) 4652218415073722368) ∧ (Kf (FP.ddiv (FP.i2d (zmI (zsI M 30 0 7 0) 31 0 9)) 4652218415073722368) (zsI M 30 0 7 0)))) : zCalD l G Y_X9_average 0 0 [vr 30 0] M Kf := by
  refine zCal_of (lv := [(0, vr 30 0)]) (by decide) rfl (zle rfl) rfl (fun hv => zlv_args (lv := [(0, vr 30 0)]) rfl hv) ?_
  refine Z_aload_n dX9_average_0 rfl 0 rfl ?_
  refine Z_iconst (v := 0) (by decide) dX9_average_1 ?_
  refine Z_putI zfp_X9_60 rfl rfl dX9_average_2 ?_
  refine Z_aload_n dX9_average_5 rfl 0 rfl ?_
  refine Z_getR (s1 := 31) (i1 := 0) zfl_X9_9 rfl (fun q => by first | exact q | decide) dX9_average_6 ?_
  refine Z_bipush (v := 9) (by decide) dX9_average_9 ?_
  refine Z_ialdK (n := 484) (j := 9) rfl (by decide) (zvin (by decide)) dX9_average_11 ?_
  refine Z_i2d dX9_average_12 ?_
  refine Z_ldc2d (v := 4652218415073722368) zw_2057 dX9_average_13 ?_
  obtain ⟨g2, h⟩ := h
  refine Z_ddiv dX9_average_16 g2 ?_
  exact Z_dret rfl dX9_average_17 (Nat.le_refl _) (Nat.le_refl _) ⟨_, rfl, h⟩
-- X9_begins
set_option maxRecDepth 100000 in
set_option maxHeartbeats 4000000 in
theorem zm_X9_begins {l : Launch} {G : zG} {M : zM} {Kf : zM → Prop} (h : zAt l G Y_X9_begins (zEV G Y_X9_begins Kf) 2 [(0, vr 30 0), (1, vi 0)] [] M 0 0) : zCalV l G Y_X9_begins 0 0 [vr 30 0] M Kf := by
  refine zCal_of (lv := [(0, vr 30 0)]) (by decide) rfl (zle rfl) rfl (fun hv => zlv_args (lv := [(0, vr 30 0)]) rfl hv) ?_
  refine Z_iconst (v := 0) (by decide) dX9_begins_0 ?_
  refine Z_istore_n (lv2 := [(1, vi 0), (0, vr 30 0)]) dX9_begins_1 rfl (by decide) rfl ?_
  exact Z_pick [1, 0] rfl h
set_option maxRecDepth 100000 in
set_option maxHeartbeats 4000000 in
theorem zb_X9_begins_2 {l : Launch} {G : zG} {y1 : Int32} {M : zM} {Kf : zM → Prop} (h : ((484 ≤ y1 → (Kf (zsI (zsI (zsI (zsI (zsI (zsI M 31 0 2 5) 31 0 3 15) 31 0 4 6554) 31 0 5 4) 31 0 10 (-1)) 31 0 13 1))) ∧ (¬ 484 ≤ y1 → (vp_in y1 484 ∧ zAt l G Y_X9_begins (zEV G Y_X9_begins Kf) 2 [(0, vr 30 0), (1, vi (y1 + 1))] [] (zsI M 31 0 y1.toNatClampNeg 0) 0 0)))) : zAt l G Y_X9_begins (zEV G Y_X9_begins Kf) 2 [(0, vr 30 0), (1, vi y1)] [] M 0 0 := by
  refine Z_iload_n dX9_begins_2 rfl 1 rfl ?_
  refine Z_sipush (v := 484) (by decide) dX9_begins_3 ?_
  refine Z_icmp_ge (tgt := 22) dX9_begins_6 (by decide) (fun q => ?_) (fun q => ?_)
  · have h := h.1 q
    refine Z_aload_n dX9_begins_22 rfl 0 rfl ?_
    refine Z_getR (s1 := 31) (i1 := 0) zfl_X9_9 rfl (fun q => by first | exact q | decide) dX9_begins_23 ?_
    refine Z_iconst (v := 2) (by decide) dX9_begins_26 ?_
    refine Z_iconst (v := 5) (by decide) dX9_begins_27 ?_
    refine Z_iastK (n := 484) (j := 2) rfl (by decide) (zvin (by decide)) dX9_begins_28 ?_
    refine Z_aload_n dX9_begins_29 rfl 0 rfl ?_
    refine Z_getR (s1 := 31) (i1 := 0) zfl_X9_9 rfl (fun q => by first | exact q | decide) dX9_begins_30 ?_
    refine Z_iconst (v := 3) (by decide) dX9_begins_33 ?_
    refine Z_bipush (v := 15) (by decide) dX9_begins_34 ?_
    refine Z_iastK (n := 484) (j := 3) rfl (by decide) (zvin (by decide)) dX9_begins_36 ?_
    refine Z_aload_n dX9_begins_37 rfl 0 rfl ?_
    refine Z_getR (s1 := 31) (i1 := 0) zfl_X9_9 rfl (fun q => by first | exact q | decide) dX9_begins_38 ?_
    refine Z_iconst (v := 4) (by decide) dX9_begins_41 ?_
    refine Z_sipush (v := 6554) (by decide) dX9_begins_42 ?_
    refine Z_iastK (n := 484) (j := 4) rfl (by decide) (zvin (by decide)) dX9_begins_45 ?_
    refine Z_aload_n dX9_begins_46 rfl 0 rfl ?_
    refine Z_getR (s1 := 31) (i1 := 0) zfl_X9_9 rfl (fun q => by first | exact q | decide) dX9_begins_47 ?_
    refine Z_iconst (v := 5) (by decide) dX9_begins_50 ?_
    refine Z_iconst (v := 4) (by decide) dX9_begins_51 ?_
    refine Z_iastK (n := 484) (j := 5) rfl (by decide) (zvin (by decide)) dX9_begins_52 ?_
    refine Z_aload_n dX9_begins_53 rfl 0 rfl ?_
    refine Z_getR (s1 := 31) (i1 := 0) zfl_X9_9 rfl (fun q => by first | exact q | decide) dX9_begins_54 ?_
    refine Z_bipush (v := 10) (by decide) dX9_begins_57 ?_
    refine Z_iconst (v := (-1)) (by decide) dX9_begins_59 ?_
    refine Z_iastK (n := 484) (j := 10) rfl (by decide) (zvin (by decide)) dX9_begins_60 ?_
    refine Z_aload_n dX9_begins_61 rfl 0 rfl ?_
    refine Z_getR (s1 := 31) (i1 := 0) zfl_X9_9 rfl (fun q => by first | exact q | decide) dX9_begins_62 ?_
    refine Z_bipush (v := 13) (by decide) dX9_begins_65 ?_
    refine Z_iconst (v := 1) (by decide) dX9_begins_67 ?_
    refine Z_iastK (n := 484) (j := 13) rfl (by decide) (zvin (by decide)) dX9_begins_68 ?_
    exact Z_vret rfl dX9_begins_69 (Nat.le_refl _) (Nat.le_refl _) ⟨rfl, h⟩
  · have h := h.2 q
    refine Z_aload_n dX9_begins_9 rfl 0 rfl ?_
    refine Z_getR (s1 := 31) (i1 := 0) zfl_X9_9 rfl (fun q => by first | exact q | decide) dX9_begins_10 ?_
    refine Z_iload_n dX9_begins_13 rfl 1 rfl ?_
    refine Z_iconst (v := 0) (by decide) dX9_begins_14 ?_
    obtain ⟨g7, h⟩ := h
    refine Z_iast (n := 484) rfl g7 dX9_begins_15 ?_
    refine Z_iinc (v := (y1 + 1)) (lv2 := [(1, vi (y1 + 1)), (0, vr 30 0)]) dX9_begins_16 1 rfl rfl (by decide) rfl ?_
    refine Z_goto (tgt := 2) dX9_begins_19 (by decide) ?_
    exact Z_pick [1, 0] rfl h
-- X9_byteAt
set_option maxRecDepth 100000 in
set_option maxHeartbeats 4000000 in
theorem zm_X9_byteAt {l : Launch} {G : zG} {p1 : Int32} {M : zM} {Kf : Int32 → zM → Prop} (h : (((zmI M 30 0 10) ≤ p1 → (Kf (-1) M)) ∧ (¬ (zmI M 30 0 10) ≤ p1 → (vp_in p1 500 ∧ (Kf (zmI M 37 0 p1.toNatClampNeg) M))))) : zCalI l G Y_X9_byteAt 0 0 [vr 30 0, vi p1] M Kf := by
  refine zCal_of (lv := [(0, vr 30 0), (1, vi p1)]) (by decide) rfl (zle rfl) rfl (fun hv => zlv_args (lv := [(0, vr 30 0), (1, vi p1)]) rfl hv) ?_
  refine Z_iload_n dX9_byteAt_0 rfl 1 rfl ?_
  refine Z_aload_n dX9_byteAt_1 rfl 0 rfl ?_
  refine Z_getI zfl_X9_179 dX9_byteAt_2 ?_
  refine Z_icmp_ge (tgt := 17) dX9_byteAt_5 (by decide) (fun q => ?_) (fun q => ?_)
  · have h := h.1 q
    refine Z_iconst (v := (-1)) (by decide) dX9_byteAt_17 ?_
    exact Z_iret rfl rfl dX9_byteAt_18 (Nat.le_refl _) (Nat.le_refl _) ⟨_, rfl, h⟩
  · have h := h.2 q
    refine Z_aload_n dX9_byteAt_8 rfl 0 rfl ?_
    refine Z_getR (s1 := 37) (i1 := 0) zfl_X9_29 rfl (fun q => by first | exact q | decide) dX9_byteAt_9 ?_
    refine Z_iload_n dX9_byteAt_12 rfl 1 rfl ?_
    obtain ⟨g1, h⟩ := h
    refine Z_iald (n := 500) rfl g1 dX9_byteAt_13 ?_
    refine Z_goto (tgt := 18) dX9_byteAt_14 (by decide) ?_
    exact Z_iret rfl rfl dX9_byteAt_18 (Nat.le_refl _) (Nat.le_refl _) ⟨_, rfl, h⟩
-- X9_draws
set_option maxRecDepth 100000 in
set_option maxHeartbeats 4000000 in
theorem zm_X9_draws {l : Launch} {G : zG} {M : zM} {Kf : Int32 → zM → Prop} (h : (Kf (((((zmI (zsI M 31 0 13 (((zmI M 31 0 13) * 1103515245) + 12345)) 31 0 13) : Int32).toUInt32 >>> ((15 : Int32).toUInt32 &&& Int32.toUInt32 31)).toInt32) &&& 65535) (zsI M 31 0 13 (((zmI M 31 0 13) * 1103515245) + 12345)))) : zCalI l G Y_X9_draws 0 0 [vr 30 0] M Kf := by
  refine zCal_of (lv := [(0, vr 30 0)]) (by decide) rfl (zle rfl) rfl (fun hv => zlv_args (lv := [(0, vr 30 0)]) rfl hv) ?_
  refine Z_aload_n dX9_draws_0 rfl 0 rfl ?_
  refine Z_getR (s1 := 31) (i1 := 0) zfl_X9_9 rfl (fun q => by first | exact q | decide) dX9_draws_1 ?_
  refine Z_bipush (v := 13) (by decide) dX9_draws_4 ?_
  refine Z_aload_n dX9_draws_6 rfl 0 rfl ?_
  refine Z_getR (s1 := 31) (i1 := 0) zfl_X9_9 rfl (fun q => by first | exact q | decide) dX9_draws_7 ?_
  refine Z_bipush (v := 13) (by decide) dX9_draws_10 ?_
  refine Z_ialdK (n := 484) (j := 13) rfl (by decide) (zvin (by decide)) dX9_draws_12 ?_
  refine Z_ldc (v := 1103515245) zw_1959 dX9_draws_13 ?_
  refine Z_imul dX9_draws_15 ?_
  refine Z_sipush (v := 12345) (by decide) dX9_draws_16 ?_
  refine Z_iadd dX9_draws_19 ?_
  refine Z_iastK (n := 484) (j := 13) rfl (by decide) (zvin (by decide)) dX9_draws_20 ?_
  refine Z_aload_n dX9_draws_21 rfl 0 rfl ?_
  refine Z_getR (s1 := 31) (i1 := 0) zfl_X9_9 rfl (fun q => by first | exact q | decide) dX9_draws_22 ?_
  refine Z_bipush (v := 13) (by decide) dX9_draws_25 ?_
  refine Z_ialdK (n := 484) (j := 13) rfl (by decide) (zvin (by decide)) dX9_draws_27 ?_
  refine Z_bipush (v := 15) (by decide) dX9_draws_28 ?_
  refine Z_iushr dX9_draws_30 ?_
  refine Z_ldc (v := 65535) zw_1960 dX9_draws_31 ?_
  refine Z_iand dX9_draws_33 ?_
  exact Z_iret rfl rfl dX9_draws_34 (Nat.le_refl _) (Nat.le_refl _) ⟨_, rfl, h⟩
-- X9_ended
set_option maxRecDepth 100000 in
set_option maxHeartbeats 4000000 in
theorem zm_X9_ended {l : Launch} {G : zG} {M : zM} {Kf : Int32 → zM → Prop} (h : ((¬ (zmI (zsI M 30 0 10 0) 30 0 15) = 0 → zAt l G Y_X9_ended (zEI G Y_X9_ended Kf) 21 [(0, vr 30 0)] [vi (zmI (zsI M 30 0 10 0) 30 0 16), vr 30 0] (zsI M 30 0 10 0) 0 0) ∧ ((zmI (zsI M 30 0 10 0) 30 0 15) = 0 → zAt l G Y_X9_ended (zEI G Y_X9_ended Kf) 21 [(0, vr 30 0)] [vi (-1), vr 30 0] (zsI M 30 0 10 0) 0 0))) : zCalI l G Y_X9_ended 0 0 [vr 30 0] M Kf := by
  refine zCal_of (lv := [(0, vr 30 0)]) (by decide) rfl (zle rfl) rfl (fun hv => zlv_args (lv := [(0, vr 30 0)]) rfl hv) ?_
  refine Z_aload_n dX9_ended_0 rfl 0 rfl ?_
  refine Z_iconst (v := 0) (by decide) dX9_ended_1 ?_
  refine Z_putI zfp_X9_179 rfl rfl dX9_ended_2 ?_
  refine Z_aload_n dX9_ended_5 rfl 0 rfl ?_
  refine Z_aload_n dX9_ended_6 rfl 0 rfl ?_
  refine Z_getI zfl_X9_210 dX9_ended_7 ?_
  refine Z_if_ne (tgt := 17) dX9_ended_10 (by decide) (fun q => ?_) (fun q => ?_)
  · have h := h.1 q
    refine Z_aload_n dX9_ended_17 rfl 0 rfl ?_
    refine Z_getI zfl_X9_213 dX9_ended_18 ?_
    exact h
  · have h := h.2 q
    refine Z_iconst (v := (-1)) (by decide) dX9_ended_13 ?_
    refine Z_goto (tgt := 21) dX9_ended_14 (by decide) ?_
    exact h
set_option maxRecDepth 100000 in
set_option maxHeartbeats 4000000 in
theorem zb_X9_ended_21 {l : Launch} {G : zG} {s0 : Int32} {M : zM} {Kf : Int32 → zM → Prop} (h : ((¬ (zmI (zsI M 30 0 17 s0) 30 0 15) = 0 → (Kf ((-10) - (zmI (zsI M 30 0 17 s0) 30 0 15)) (zsI M 30 0 17 s0))) ∧ ((zmI (zsI M 30 0 17 s0) 30 0 15) = 0 → (Kf 0 (zsI M 30 0 17 s0))))) : zAt l G Y_X9_ended (zEI G Y_X9_ended Kf) 21 [(0, vr 30 0)] [vi s0, vr 30 0] M 0 0 := by
  refine Z_putI zfp_X9_32 rfl rfl dX9_ended_21 ?_
  refine Z_aload_n dX9_ended_24 rfl 0 rfl ?_
  refine Z_getI zfl_X9_210 dX9_ended_25 ?_
  refine Z_if_ne (tgt := 35) dX9_ended_28 (by decide) (fun q => ?_) (fun q => ?_)
  · have h := h.1 q
    refine Z_bipush (v := (-10)) (by decide) dX9_ended_35 ?_
    refine Z_aload_n dX9_ended_37 rfl 0 rfl ?_
    refine Z_getI zfl_X9_210 dX9_ended_38 ?_
    refine Z_isub dX9_ended_41 ?_
    exact Z_iret rfl rfl dX9_ended_42 (Nat.le_refl _) (Nat.le_refl _) ⟨_, rfl, h⟩
  · have h := h.2 q
    refine Z_iconst (v := 0) (by decide) dX9_ended_31 ?_
    refine Z_goto (tgt := 42) dX9_ended_32 (by decide) ?_
    exact Z_iret rfl rfl dX9_ended_42 (Nat.le_refl _) (Nat.le_refl _) ⟨_, rfl, h⟩
-- X9_errorPosition
set_option maxRecDepth 100000 in
set_option maxHeartbeats 4000000 in
theorem zm_X9_errorPosition {l : Launch} {G : zG} {M : zM} {Kf : Int32 → zM → Prop} (h : (Kf (zmI (zsI M 30 0 7 0) 30 0 17) (zsI M 30 0 7 0))) : zCalI l G Y_X9_errorPosition 0 0 [vr 30 0] M Kf := by
  refine zCal_of (lv := [(0, vr 30 0)]) (by decide) rfl (zle rfl) rfl (fun hv => zlv_args (lv := [(0, vr 30 0)]) rfl hv) ?_
  refine Z_aload_n dX9_errorPosition_0 rfl 0 rfl ?_
  refine Z_iconst (v := 0) (by decide) dX9_errorPosition_1 ?_
  refine Z_putI zfp_X9_60 rfl rfl dX9_errorPosition_2 ?_
  refine Z_aload_n dX9_errorPosition_5 rfl 0 rfl ?_
  refine Z_getI zfl_X9_32 dX9_errorPosition_6 ?_
  exact Z_iret rfl rfl dX9_errorPosition_9 (Nat.le_refl _) (Nat.le_refl _) ⟨_, rfl, h⟩
-- X9_fails
set_option maxRecDepth 100000 in
set_option maxHeartbeats 4000000 in
theorem zm_X9_fails {l : Launch} {G : zG} {p1 : Int32} {p2 : Int32} {M : zM} {Kf : Int32 → zM → Prop} (h : ((¬ (zmI M 30 0 7) = 0 → zAt l G Y_X9_fails (zEI G Y_X9_fails Kf) 16 [(0, vr 30 0)] [] M 0 0) ∧ ((zmI M 30 0 7) = 0 → ((p1 = 0 → zAt l G Y_X9_fails (zEI G Y_X9_fails Kf) 16 [(0, vr 30 0)] [] M 0 0) ∧ (¬ p1 = 0 → zAt l G Y_X9_fails (zEI G Y_X9_fails Kf) 16 [(0, vr 30 0)] [] (zsI M 30 0 7 p2) 0 0))))) : zCalI l G Y_X9_fails 0 0 [vr 30 0, vi p1, vi p2] M Kf := by
  refine zCal_of (lv := [(0, vr 30 0), (1, vi p1), (2, vi p2)]) (by decide) rfl (zle rfl) rfl (fun hv => zlv_args (lv := [(0, vr 30 0), (1, vi p1), (2, vi p2)]) rfl hv) ?_
  refine Z_aload_n dX9_fails_0 rfl 0 rfl ?_
  refine Z_getI zfl_X9_60 dX9_fails_1 ?_
  refine Z_if_ne (tgt := 16) dX9_fails_4 (by decide) (fun q => ?_) (fun q => ?_)
  · have h := h.1 q
    exact Z_pick [0] rfl h
  · have h := h.2 q
    refine Z_iload_n dX9_fails_7 rfl 1 rfl ?_
    refine Z_if_eq (tgt := 16) dX9_fails_8 (by decide) (fun q => ?_) (fun q => ?_)
    · have h := h.1 q
      exact Z_pick [0] rfl h
    · have h := h.2 q
      refine Z_aload_n dX9_fails_11 rfl 0 rfl ?_
      refine Z_iload_n dX9_fails_12 rfl 2 rfl ?_
      refine Z_putI zfp_X9_60 rfl rfl dX9_fails_13 ?_
      exact Z_pick [0] rfl h
set_option maxRecDepth 100000 in
set_option maxHeartbeats 4000000 in
theorem zb_X9_fails_16 {l : Launch} {G : zG}  {M : zM} {Kf : Int32 → zM → Prop} (h : (((zmI M 30 0 7) = 0 → (Kf 0 M)) ∧ (¬ (zmI M 30 0 7) = 0 → (Kf 1 M)))) : zAt l G Y_X9_fails (zEI G Y_X9_fails Kf) 16 [(0, vr 30 0)] [] M 0 0 := by
  refine Z_aload_n dX9_fails_16 rfl 0 rfl ?_
  refine Z_getI zfl_X9_60 dX9_fails_17 ?_
  refine Z_if_eq (tgt := 27) dX9_fails_20 (by decide) (fun q => ?_) (fun q => ?_)
  · have h := h.1 q
    refine Z_iconst (v := 0) (by decide) dX9_fails_27 ?_
    exact Z_iret rfl (by decide) dX9_fails_28 (Nat.le_refl _) (Nat.le_refl _) ⟨_, rfl, h⟩
  · have h := h.2 q
    refine Z_iconst (v := 1) (by decide) dX9_fails_23 ?_
    refine Z_goto (tgt := 28) dX9_fails_24 (by decide) ?_
    exact Z_iret rfl (by decide) dX9_fails_28 (Nat.le_refl _) (Nat.le_refl _) ⟨_, rfl, h⟩
-- X9_feeds
set_option maxRecDepth 100000 in
set_option maxHeartbeats 4000000 in
theorem zm_X9_feeds {l : Launch} {G : zG} {p1 : Int32} {M : zM} {Kf : zM → Prop} (h : zAt l G Y_X9_feeds (zEV G Y_X9_feeds Kf) 3 [(0, vr 30 0), (1, vi p1), (2, vi 24)] [] M 0 0) : zCalV l G Y_X9_feeds 0 0 [vr 30 0, vi p1] M Kf := by
  refine zCal_of (lv := [(0, vr 30 0), (1, vi p1)]) (by decide) rfl (zle rfl) rfl (fun hv => zlv_args (lv := [(0, vr 30 0), (1, vi p1)]) rfl hv) ?_
  refine Z_bipush (v := 24) (by decide) dX9_feeds_0 ?_
  refine Z_istore_n (lv2 := [(2, vi 24), (0, vr 30 0), (1, vi p1)]) dX9_feeds_2 rfl (by decide) rfl ?_
  exact Z_pick [1, 2, 0] rfl h
set_option maxRecDepth 100000 in
set_option maxHeartbeats 4000000 in
theorem zb_X9_feeds_3 {l : Launch} {G : zG} {y1 : Int32} {y2 : Int32} {M : zM} {Kf : zM → Prop} (h : ((y2 < 0 → (Kf M)) ∧ (¬ y2 < 0 → ((¬ ((y1 >>> (y2 &&& 31)) &&& 255) = 0 → (vp_in (zmI M 30 0 10) 500 ∧ zAt l G Y_X9_feeds (zEV G Y_X9_feeds Kf) 42 [(0, vr 30 0), (1, vi y1), (2, vi y2)] [] (zsI (zsI M 37 0 (zmI M 30 0 10).toNatClampNeg ((y1 >>> (y2 &&& 31)) &&& 255)) 30 0 10 ((zmI (zsI M 37 0 (zmI M 30 0 10).toNatClampNeg ((y1 >>> (y2 &&& 31)) &&& 255)) 30 0 10) + 1)) 0 0)) ∧ (((y1 >>> (y2 &&& 31)) &&& 255) = 0 → zAt l G Y_X9_feeds (zEV G Y_X9_feeds Kf) 42 [(0, vr 30 0), (1, vi y1), (2, vi y2)] [] M 0 0))))) : zAt l G Y_X9_feeds (zEV G Y_X9_feeds Kf) 3 [(0, vr 30 0), (1, vi y1), (2, vi y2)] [] M 0 0 := by
  refine Z_iload_n dX9_feeds_3 rfl 2 rfl ?_
  refine Z_if_lt (tgt := 48) dX9_feeds_4 (by decide) (fun q => ?_) (fun q => ?_)
  · have h := h.1 q
    exact Z_vret rfl dX9_feeds_48 (Nat.le_refl _) (Nat.le_refl _) ⟨rfl, h⟩
  · have h := h.2 q
    refine Z_iload_n dX9_feeds_7 rfl 1 rfl ?_
    refine Z_iload_n dX9_feeds_8 rfl 2 rfl ?_
    refine Z_ishr dX9_feeds_9 ?_
    refine Z_sipush (v := 255) (by decide) dX9_feeds_10 ?_
    refine Z_iand dX9_feeds_13 ?_
    refine Z_istore_n (lv2 := [(3, vi ((y1 >>> (y2 &&& 31)) &&& 255)), (0, vr 30 0), (1, vi y1), (2, vi y2)]) dX9_feeds_14 rfl (by decide) rfl ?_
    refine Z_iload_n dX9_feeds_15 rfl 0 rfl ?_
    refine Z_if_ne (tgt := 22) dX9_feeds_16 (by decide) (fun q => ?_) (fun q => ?_)
    · have h := h.1 q
      refine Z_aload_n dX9_feeds_22 rfl 1 rfl ?_
      refine Z_getR (s1 := 37) (i1 := 0) zfl_X9_29 rfl (fun q => by first | exact q | decide) dX9_feeds_23 ?_
      refine Z_aload_n dX9_feeds_26 rfl 1 rfl ?_
      refine Z_getI zfl_X9_179 dX9_feeds_27 ?_
      refine Z_iload_n dX9_feeds_30 rfl 0 rfl ?_
      obtain ⟨g1, h⟩ := h
      refine Z_iast (n := 500) rfl g1 dX9_feeds_31 ?_
      refine Z_aload_n dX9_feeds_32 rfl 1 rfl ?_
      refine Z_dup rfl dX9_feeds_33 ?_
      refine Z_getI zfl_X9_179 dX9_feeds_34 ?_
      refine Z_iconst (v := 1) (by decide) dX9_feeds_37 ?_
      refine Z_iadd dX9_feeds_38 ?_
      refine Z_putI zfp_X9_179 rfl rfl dX9_feeds_39 ?_
      exact Z_pick [1, 2, 3] rfl h
    · have h := h.2 q
      refine Z_goto (tgt := 42) dX9_feeds_19 (by decide) ?_
      exact Z_pick [1, 2, 3] rfl h
set_option maxRecDepth 100000 in
set_option maxHeartbeats 4000000 in
theorem zb_X9_feeds_42 {l : Launch} {G : zG} {y1 : Int32} {y2 : Int32} {M : zM} {Kf : zM → Prop} (h : zAt l G Y_X9_feeds (zEV G Y_X9_feeds Kf) 3 [(0, vr 30 0), (1, vi y1), (2, vi (y2 + (-8)))] [] M 0 0) : zAt l G Y_X9_feeds (zEV G Y_X9_feeds Kf) 42 [(0, vr 30 0), (1, vi y1), (2, vi y2)] [] M 0 0 := by
  refine Z_iinc (v := (y2 + (-8))) (lv2 := [(2, vi (y2 + (-8))), (0, vr 30 0), (1, vi y1)]) dX9_feeds_42 2 rfl rfl (by decide) rfl ?_
  refine Z_goto (tgt := 3) dX9_feeds_45 (by decide) ?_
  exact Z_pick [1, 2, 0] rfl h
-- X9_high
set_option maxRecDepth 100000 in
set_option maxHeartbeats 4000000 in
theorem zm_X9_high {l : Launch} {G : zG} {M : zM} {Kf : Int32 → zM → Prop} (h : (Kf (1024 * (zmI M 31 0 3)) M)) : zCalI l G Y_X9_high 0 0 [vr 30 0] M Kf := by
  refine zCal_of (lv := [(0, vr 30 0)]) (by decide) rfl (zle rfl) rfl (fun hv => zlv_args (lv := [(0, vr 30 0)]) rfl hv) ?_
  refine Z_sipush (v := 1024) (by decide) dX9_high_0 ?_
  refine Z_aload_n dX9_high_3 rfl 0 rfl ?_
  refine Z_getR (s1 := 31) (i1 := 0) zfl_X9_9 rfl (fun q => by first | exact q | decide) dX9_high_4 ?_
  refine Z_iconst (v := 3) (by decide) dX9_high_7 ?_
  refine Z_ialdK (n := 484) (j := 3) rfl (by decide) (zvin (by decide)) dX9_high_8 ?_
  refine Z_imul dX9_high_9 ?_
  exact Z_iret rfl rfl dX9_high_10 (Nat.le_refl _) (Nat.le_refl _) ⟨_, rfl, h⟩
-- X9_in
set_option maxRecDepth 100000 in
set_option maxHeartbeats 4000000 in
theorem zm_X9_in {l : Launch} {G : zG} {p1 : Int32} {p2 : Int32} {p3 : Int32} {M : zM} {Kf : Int32 → zM → Prop} (h : ((p1 < p2 → (Kf 0 M)) ∧ (¬ p1 < p2 → ((p3 < p1 → (Kf 0 M)) ∧ (¬ p3 < p1 → (Kf 1 M)))))) : zCalI l G Y_X9_in 0 0 [vi p1, vi p2, vi p3] M Kf := by
  refine zCal_of (lv := [(0, vi p1), (1, vi p2), (2, vi p3)]) (by decide) rfl (zle rfl) rfl (fun hv => zlv_args (lv := [(0, vi p1), (1, vi p2), (2, vi p3)]) rfl hv) ?_
  refine Z_iload_n dX9_in_0 rfl 0 rfl ?_
  refine Z_iload_n dX9_in_1 rfl 1 rfl ?_
  refine Z_icmp_lt (tgt := 14) dX9_in_2 (by decide) (fun q => ?_) (fun q => ?_)
  · have h := h.1 q
    refine Z_iconst (v := 0) (by decide) dX9_in_14 ?_
    exact Z_iret rfl (by decide) dX9_in_15 (Nat.le_refl _) (Nat.le_refl _) ⟨_, rfl, h⟩
  · have h := h.2 q
    refine Z_iload_n dX9_in_5 rfl 0 rfl ?_
    refine Z_iload_n dX9_in_6 rfl 2 rfl ?_
    refine Z_icmp_gt (tgt := 14) dX9_in_7 (by decide) (fun q => ?_) (fun q => ?_)
    · have h := h.1 q
      refine Z_iconst (v := 0) (by decide) dX9_in_14 ?_
      exact Z_iret rfl (by decide) dX9_in_15 (Nat.le_refl _) (Nat.le_refl _) ⟨_, rfl, h⟩
    · have h := h.2 q
      refine Z_iconst (v := 1) (by decide) dX9_in_10 ?_
      refine Z_goto (tgt := 15) dX9_in_11 (by decide) ?_
      exact Z_iret rfl (by decide) dX9_in_15 (Nat.le_refl _) (Nat.le_refl _) ⟨_, rfl, h⟩
-- X9_isSign
set_option maxRecDepth 100000 in
set_option maxHeartbeats 4000000 in
theorem zm_X9_isSign {l : Launch} {G : zG} {p1 : Int32} {M : zM} {Kf : Int32 → zM → Prop} (h : ((¬ (zmI M 30 0 15) = 0 → (Kf 0 M)) ∧ ((zmI M 30 0 15) = 0 → ((¬ (zmI M 30 0 13) = 3 → (Kf 0 M)) ∧ ((zmI M 30 0 13) = 3 → (vp_in (zmI M 30 0 11) 500 ∧ ((¬ (zmI M 37 0 (zmI M 30 0 11).toNatClampNeg) = p1 → (Kf 0 M)) ∧ ((zmI M 37 0 (zmI M 30 0 11).toNatClampNeg) = p1 → (Kf 1 M))))))))) : zCalI l G Y_X9_isSign 0 0 [vr 30 0, vi p1] M Kf := by
  refine zCal_of (lv := [(0, vr 30 0), (1, vi p1)]) (by decide) rfl (zle rfl) rfl (fun hv => zlv_args (lv := [(0, vr 30 0), (1, vi p1)]) rfl hv) ?_
  refine Z_aload_n dX9_isSign_0 rfl 0 rfl ?_
  refine Z_getI zfl_X9_210 dX9_isSign_1 ?_
  refine Z_if_ne (tgt := 32) dX9_isSign_4 (by decide) (fun q => ?_) (fun q => ?_)
  · have h := h.1 q
    refine Z_iconst (v := 0) (by decide) dX9_isSign_32 ?_
    exact Z_iret rfl (by decide) dX9_isSign_33 (Nat.le_refl _) (Nat.le_refl _) ⟨_, rfl, h⟩
  · have h := h.2 q
    refine Z_aload_n dX9_isSign_7 rfl 0 rfl ?_
    refine Z_getI zfl_X9_200 dX9_isSign_8 ?_
    refine Z_iconst (v := 3) (by decide) dX9_isSign_11 ?_
    refine Z_icmp_ne (tgt := 32) dX9_isSign_12 (by decide) (fun q => ?_) (fun q => ?_)
    · have h := h.1 q
      refine Z_iconst (v := 0) (by decide) dX9_isSign_32 ?_
      exact Z_iret rfl (by decide) dX9_isSign_33 (Nat.le_refl _) (Nat.le_refl _) ⟨_, rfl, h⟩
    · have h := h.2 q
      refine Z_aload_n dX9_isSign_15 rfl 0 rfl ?_
      refine Z_getR (s1 := 37) (i1 := 0) zfl_X9_29 rfl (fun q => by first | exact q | decide) dX9_isSign_16 ?_
      refine Z_aload_n dX9_isSign_19 rfl 0 rfl ?_
      refine Z_getI zfl_X9_194 dX9_isSign_20 ?_
      obtain ⟨g1, h⟩ := h
      refine Z_iald (n := 500) rfl g1 dX9_isSign_23 ?_
      refine Z_iload_n dX9_isSign_24 rfl 1 rfl ?_
      refine Z_icmp_ne (tgt := 32) dX9_isSign_25 (by decide) (fun q => ?_) (fun q => ?_)
      · have h := h.1 q
        refine Z_iconst (v := 0) (by decide) dX9_isSign_32 ?_
        exact Z_iret rfl (by decide) dX9_isSign_33 (Nat.le_refl _) (Nat.le_refl _) ⟨_, rfl, h⟩
      · have h := h.2 q
        refine Z_iconst (v := 1) (by decide) dX9_isSign_28 ?_
        refine Z_goto (tgt := 33) dX9_isSign_29 (by decide) ?_
        exact Z_iret rfl (by decide) dX9_isSign_33 (Nat.le_refl _) (Nat.le_refl _) ⟨_, rfl, h⟩
-- X9_keeps
set_option maxRecDepth 100000 in
set_option maxHeartbeats 4000000 in
theorem zm_X9_keeps {l : Launch} {G : zG} {p1 : Int32} {p2 : Int32} {p3 : Int32} {p4 : Int32} {p5 : Int32} {p6 : Int32} {M : zM} {Kf : zM → Prop} (h : ((¬ (zmI M 31 0 12) = 24 → zAt l G Y_X9_keeps (zEV G Y_X9_keeps Kf) 59 [(0, vr 30 0), (1, vi p1), (2, vi p2), (3, vi p3), (4, vi p4), (5, vi p5), (6, vi p6)] [] M 0 0) ∧ ((zmI M 31 0 12) = 24 → zAt l G Y_X9_keeps (zEV G Y_X9_keeps Kf) 17 [(0, vr 30 0), (1, vi p1), (2, vi p2), (3, vi p3), (4, vi p4), (5, vi p5), (6, vi p6), (7, vi 292)] [] M 0 0))) : zCalV l G Y_X9_keeps 0 0 [vr 30 0, vi p1, vi p2, vi p3, vi p4, vi p5, vi p6] M Kf := by
  refine zCal_of (lv := [(0, vr 30 0), (1, vi p1), (2, vi p2), (3, vi p3), (4, vi p4), (5, vi p5), (6, vi p6)]) (by decide) rfl (zle rfl) rfl (fun hv => zlv_args (lv := [(0, vr 30 0), (1, vi p1), (2, vi p2), (3, vi p3), (4, vi p4), (5, vi p5), (6, vi p6)]) rfl hv) ?_
  refine Z_aload_n dX9_keeps_0 rfl 0 rfl ?_
  refine Z_getR (s1 := 31) (i1 := 0) zfl_X9_9 rfl (fun q => by first | exact q | decide) dX9_keeps_1 ?_
  refine Z_bipush (v := 12) (by decide) dX9_keeps_4 ?_
  refine Z_ialdK (n := 484) (j := 12) rfl (by decide) (zvin (by decide)) dX9_keeps_6 ?_
  refine Z_bipush (v := 24) (by decide) dX9_keeps_7 ?_
  refine Z_icmp_ne (tgt := 59) dX9_keeps_9 (by decide) (fun q => ?_) (fun q => ?_)
  · have h := h.1 q
    exact h
  · have h := h.2 q
    refine Z_sipush (v := 292) (by decide) dX9_keeps_12 ?_
    refine Z_istore (lv2 := [(7, vi 292), (0, vr 30 0), (1, vi p1), (2, vi p2), (3, vi p3), (4, vi p4), (5, vi p5), (6, vi p6)]) dX9_keeps_15 (by decide) rfl ?_
    exact Z_pick [1, 2, 3, 4, 5, 6, 7, 0] rfl h
set_option maxRecDepth 100000 in
set_option maxHeartbeats 4000000 in
theorem zb_X9_keeps_59 {l : Launch} {G : zG} {y1 : Int32} {y2 : Int32} {y3 : Int32} {y4 : Int32} {y5 : Int32} {y6 : Int32} {M : zM} {Kf : zM → Prop} (h : (vp_in (292 + (8 * (zmI M 31 0 12))) 484 ∧ (vp_in ((292 + (8 * (zmI M 31 0 12))) + 1) 484 ∧ (vp_in ((292 + (8 * (zmI M 31 0 12))) + 2) 484 ∧ (vp_in ((292 + (8 * (zmI M 31 0 12))) + 3) 484 ∧ (vp_in ((292 + (8 * (zmI M 31 0 12))) + 4) 484 ∧ (vp_in ((292 + (8 * (zmI M 31 0 12))) + 5) 484 ∧ (vp_in ((292 + (8 * (zmI M 31 0 12))) + 6) 484 ∧ (vp_in ((292 + (8 * (zmI M 31 0 12))) + 7) 484 ∧ (Kf (zsI (zsI (zsI (zsI (zsI (zsI (zsI (zsI (zsI M 31 0 (292 + (8 * (zmI M 31 0 12))).toNatClampNeg (zmI M 31 0 7)) 31 0 ((292 + (8 * (zmI M 31 0 12))) + 1).toNatClampNeg y1) 31 0 ((292 + (8 * (zmI M 31 0 12))) + 2).toNatClampNeg y2) 31 0 ((292 + (8 * (zmI M 31 0 12))) + 3).toNatClampNeg (zmI (zsI (zsI (zsI M 31 0 (292 + (8 * (zmI M 31 0 12))).toNatClampNeg (zmI M 31 0 7)) 31 0 ((292 + (8 * (zmI M 31 0 12))) + 1).toNatClampNeg y1) 31 0 ((292 + (8 * (zmI M 31 0 12))) + 2).toNatClampNeg y2) 31 0 9)) 31 0 ((292 + (8 * (zmI M 31 0 12))) + 4).toNatClampNeg y3) 31 0 ((292 + (8 * (zmI M 31 0 12))) + 5).toNatClampNeg y4) 31 0 ((292 + (8 * (zmI M 31 0 12))) + 6).toNatClampNeg y5) 31 0 ((292 + (8 * (zmI M 31 0 12))) + 7).toNatClampNeg y6) 31 0 12 ((zmI (zsI (zsI (zsI (zsI (zsI (zsI (zsI (zsI M 31 0 (292 + (8 * (zmI M 31 0 12))).toNatClampNeg (zmI M 31 0 7)) 31 0 ((292 + (8 * (zmI M 31 0 12))) + 1).toNatClampNeg y1) 31 0 ((292 + (8 * (zmI M 31 0 12))) + 2).toNatClampNeg y2) 31 0 ((292 + (8 * (zmI M 31 0 12))) + 3).toNatClampNeg (zmI (zsI (zsI (zsI M 31 0 (292 + (8 * (zmI M 31 0 12))).toNatClampNeg (zmI M 31 0 7)) 31 0 ((292 + (8 * (zmI M 31 0 12))) + 1).toNatClampNeg y1) 31 0 ((292 + (8 * (zmI M 31 0 12))) + 2).toNatClampNeg y2) 31 0 9)) 31 0 ((292 + (8 * (zmI M 31 0 12))) + 4).toNatClampNeg y3) 31 0 ((292 + (8 * (zmI M 31 0 12))) + 5).toNatClampNeg y4) 31 0 ((292 + (8 * (zmI M 31 0 12))) + 6).toNatClampNeg y5) 31 0 ((292 + (8 * (zmI M 31 0 12))) + 7).toNatClampNeg y6) 31 0 12) + 1)))))))))))) : zAt l G Y_X9_keeps (zEV G Y_X9_keeps Kf) 59 [(0, vr 30 0), (1, vi y1), (2, vi y2), (3, vi y3), (4, vi y4), (5, vi y5), (6, vi y6)] [] M 0 0 := by
  refine Z_sipush (v := 292) (by decide) dX9_keeps_59 ?_
  refine Z_bipush (v := 8) (by decide) dX9_keeps_62 ?_
  refine Z_aload_n dX9_keeps_64 rfl 0 rfl ?_
  refine Z_getR (s1 := 31) (i1 := 0) zfl_X9_9 rfl (fun q => by first | exact q | decide) dX9_keeps_65 ?_
  refine Z_bipush (v := 12) (by decide) dX9_keeps_68 ?_
  refine Z_ialdK (n := 484) (j := 12) rfl (by decide) (zvin (by decide)) dX9_keeps_70 ?_
  refine Z_imul dX9_keeps_71 ?_
  refine Z_iadd dX9_keeps_72 ?_
  refine Z_istore (lv2 := [(7, vi (292 + (8 * (zmI M 31 0 12)))), (0, vr 30 0), (1, vi y1), (2, vi y2), (3, vi y3), (4, vi y4), (5, vi y5), (6, vi y6)]) dX9_keeps_73 (by decide) rfl ?_
  refine Z_aload_n dX9_keeps_75 rfl 1 rfl ?_
  refine Z_getR (s1 := 31) (i1 := 0) zfl_X9_9 rfl (fun q => by first | exact q | decide) dX9_keeps_76 ?_
  refine Z_iload dX9_keeps_79 0 rfl ?_
  refine Z_aload_n dX9_keeps_81 rfl 1 rfl ?_
  refine Z_getR (s1 := 31) (i1 := 0) zfl_X9_9 rfl (fun q => by first | exact q | decide) dX9_keeps_82 ?_
  refine Z_bipush (v := 7) (by decide) dX9_keeps_85 ?_
  refine Z_ialdK (n := 484) (j := 7) rfl (by decide) (zvin (by decide)) dX9_keeps_87 ?_
  obtain ⟨g3, h⟩ := h
  refine Z_iast (n := 484) rfl g3 dX9_keeps_88 ?_
  refine Z_aload_n dX9_keeps_89 rfl 1 rfl ?_
  refine Z_getR (s1 := 31) (i1 := 0) zfl_X9_9 rfl (fun q => by first | exact q | decide) dX9_keeps_90 ?_
  refine Z_iload dX9_keeps_93 0 rfl ?_
  refine Z_iconst (v := 1) (by decide) dX9_keeps_95 ?_
  refine Z_iadd dX9_keeps_96 ?_
  refine Z_iload_n dX9_keeps_97 rfl 2 rfl ?_
  obtain ⟨g4, h⟩ := h
  refine Z_iast (n := 484) rfl g4 dX9_keeps_98 ?_
  refine Z_aload_n dX9_keeps_99 rfl 1 rfl ?_
  refine Z_getR (s1 := 31) (i1 := 0) zfl_X9_9 rfl (fun q => by first | exact q | decide) dX9_keeps_100 ?_
  refine Z_iload dX9_keeps_103 0 rfl ?_
  refine Z_iconst (v := 2) (by decide) dX9_keeps_105 ?_
  refine Z_iadd dX9_keeps_106 ?_
  refine Z_iload_n dX9_keeps_107 rfl 3 rfl ?_
  obtain ⟨g5, h⟩ := h
  refine Z_iast (n := 484) rfl g5 dX9_keeps_108 ?_
  refine Z_aload_n dX9_keeps_109 rfl 1 rfl ?_
  refine Z_getR (s1 := 31) (i1 := 0) zfl_X9_9 rfl (fun q => by first | exact q | decide) dX9_keeps_110 ?_
  refine Z_iload dX9_keeps_113 0 rfl ?_
  refine Z_iconst (v := 3) (by decide) dX9_keeps_115 ?_
  refine Z_iadd dX9_keeps_116 ?_
  refine Z_aload_n dX9_keeps_117 rfl 1 rfl ?_
  refine Z_getR (s1 := 31) (i1 := 0) zfl_X9_9 rfl (fun q => by first | exact q | decide) dX9_keeps_118 ?_
  refine Z_bipush (v := 9) (by decide) dX9_keeps_121 ?_
  refine Z_ialdK (n := 484) (j := 9) rfl (by decide) (zvin (by decide)) dX9_keeps_123 ?_
  obtain ⟨g7, h⟩ := h
  refine Z_iast (n := 484) rfl g7 dX9_keeps_124 ?_
  refine Z_aload_n dX9_keeps_125 rfl 1 rfl ?_
  refine Z_getR (s1 := 31) (i1 := 0) zfl_X9_9 rfl (fun q => by first | exact q | decide) dX9_keeps_126 ?_
  refine Z_iload dX9_keeps_129 0 rfl ?_
  refine Z_iconst (v := 4) (by decide) dX9_keeps_131 ?_
  refine Z_iadd dX9_keeps_132 ?_
  refine Z_iload_n dX9_keeps_133 rfl 4 rfl ?_
  obtain ⟨g8, h⟩ := h
  refine Z_iast (n := 484) rfl g8 dX9_keeps_134 ?_
  refine Z_aload_n dX9_keeps_135 rfl 1 rfl ?_
  refine Z_getR (s1 := 31) (i1 := 0) zfl_X9_9 rfl (fun q => by first | exact q | decide) dX9_keeps_136 ?_
  refine Z_iload dX9_keeps_139 0 rfl ?_
  refine Z_iconst (v := 5) (by decide) dX9_keeps_141 ?_
  refine Z_iadd dX9_keeps_142 ?_
  refine Z_iload dX9_keeps_143 5 rfl ?_
  obtain ⟨g9, h⟩ := h
  refine Z_iast (n := 484) rfl g9 dX9_keeps_145 ?_
  refine Z_aload_n dX9_keeps_146 rfl 1 rfl ?_
  refine Z_getR (s1 := 31) (i1 := 0) zfl_X9_9 rfl (fun q => by first | exact q | decide) dX9_keeps_147 ?_
  refine Z_iload dX9_keeps_150 0 rfl ?_
  refine Z_bipush (v := 6) (by decide) dX9_keeps_152 ?_
  refine Z_iadd dX9_keeps_154 ?_
  refine Z_iload dX9_keeps_155 6 rfl ?_
  obtain ⟨g10, h⟩ := h
  refine Z_iast (n := 484) rfl g10 dX9_keeps_157 ?_
  refine Z_aload_n dX9_keeps_158 rfl 1 rfl ?_
  refine Z_getR (s1 := 31) (i1 := 0) zfl_X9_9 rfl (fun q => by first | exact q | decide) dX9_keeps_159 ?_
  refine Z_iload dX9_keeps_162 0 rfl ?_
  refine Z_bipush (v := 7) (by decide) dX9_keeps_164 ?_
  refine Z_iadd dX9_keeps_166 ?_
  refine Z_iload dX9_keeps_167 7 rfl ?_
  obtain ⟨g11, h⟩ := h
  refine Z_iast (n := 484) rfl g11 dX9_keeps_169 ?_
  refine Z_aload_n dX9_keeps_170 rfl 1 rfl ?_
  refine Z_getR (s1 := 31) (i1 := 0) zfl_X9_9 rfl (fun q => by first | exact q | decide) dX9_keeps_171 ?_
  refine Z_bipush (v := 12) (by decide) dX9_keeps_174 ?_
  refine Z_dup2 rfl rfl dX9_keeps_176 ?_
  refine Z_ialdK (n := 484) (j := 12) rfl (by decide) (zvin (by decide)) dX9_keeps_177 ?_
  refine Z_iconst (v := 1) (by decide) dX9_keeps_178 ?_
  refine Z_iadd dX9_keeps_179 ?_
  refine Z_iastK (n := 484) (j := 12) rfl (by decide) (zvin (by decide)) dX9_keeps_180 ?_
  exact Z_vret rfl dX9_keeps_181 (Nat.le_refl _) (Nat.le_refl _) ⟨rfl, h⟩
set_option maxRecDepth 100000 in
set_option maxHeartbeats 4000000 in
theorem zb_X9_keeps_17 {l : Launch} {G : zG} {y1 : Int32} {y2 : Int32} {y3 : Int32} {y4 : Int32} {y5 : Int32} {y6 : Int32} {y7 : Int32} {M : zM} {Kf : zM → Prop} (h : ((476 ≤ y7 → zAt l G Y_X9_keeps (zEV G Y_X9_keeps Kf) 59 [(0, vr 30 0), (1, vi y1), (2, vi y2), (3, vi y3), (4, vi y4), (5, vi y5), (6, vi y6)] [] (zsI M 31 0 12 ((zmI M 31 0 12) - 1)) 0 0) ∧ (¬ 476 ≤ y7 → (vp_in (y7 + 8) 484 ∧ (vp_in y7 484 ∧ zAt l G Y_X9_keeps (zEV G Y_X9_keeps Kf) 17 [(0, vr 30 0), (1, vi y1), (2, vi y2), (3, vi y3), (4, vi y4), (5, vi y5), (6, vi y6), (7, vi (y7 + 1))] [] (zsI M 31 0 y7.toNatClampNeg (zmI M 31 0 (y7 + 8).toNatClampNeg)) 0 0))))) : zAt l G Y_X9_keeps (zEV G Y_X9_keeps Kf) 17 [(0, vr 30 0), (1, vi y1), (2, vi y2), (3, vi y3), (4, vi y4), (5, vi y5), (6, vi y6), (7, vi y7)] [] M 0 0 := by
  refine Z_iload dX9_keeps_17 7 rfl ?_
  refine Z_sipush (v := 476) (by decide) dX9_keeps_19 ?_
  refine Z_icmp_ge (tgt := 48) dX9_keeps_22 (by decide) (fun q => ?_) (fun q => ?_)
  · have h := h.1 q
    refine Z_aload_n dX9_keeps_48 rfl 0 rfl ?_
    refine Z_getR (s1 := 31) (i1 := 0) zfl_X9_9 rfl (fun q => by first | exact q | decide) dX9_keeps_49 ?_
    refine Z_bipush (v := 12) (by decide) dX9_keeps_52 ?_
    refine Z_dup2 rfl rfl dX9_keeps_54 ?_
    refine Z_ialdK (n := 484) (j := 12) rfl (by decide) (zvin (by decide)) dX9_keeps_55 ?_
    refine Z_iconst (v := 1) (by decide) dX9_keeps_56 ?_
    refine Z_isub dX9_keeps_57 ?_
    refine Z_iastK (n := 484) (j := 12) rfl (by decide) (zvin (by decide)) dX9_keeps_58 ?_
    exact Z_pick [0, 1, 2, 3, 4, 5, 6] rfl h
  · have h := h.2 q
    refine Z_aload_n dX9_keeps_25 rfl 0 rfl ?_
    refine Z_getR (s1 := 31) (i1 := 0) zfl_X9_9 rfl (fun q => by first | exact q | decide) dX9_keeps_26 ?_
    refine Z_iload dX9_keeps_29 7 rfl ?_
    refine Z_aload_n dX9_keeps_31 rfl 0 rfl ?_
    refine Z_getR (s1 := 31) (i1 := 0) zfl_X9_9 rfl (fun q => by first | exact q | decide) dX9_keeps_32 ?_
    refine Z_iload dX9_keeps_35 7 rfl ?_
    refine Z_bipush (v := 8) (by decide) dX9_keeps_37 ?_
    refine Z_iadd dX9_keeps_39 ?_
    obtain ⟨g3, h⟩ := h
    refine Z_iald (n := 484) rfl g3 dX9_keeps_40 ?_
    obtain ⟨g4, h⟩ := h
    refine Z_iast (n := 484) rfl g4 dX9_keeps_41 ?_
    refine Z_iinc (v := (y7 + 1)) (lv2 := [(7, vi (y7 + 1)), (0, vr 30 0), (1, vi y1), (2, vi y2), (3, vi y3), (4, vi y4), (5, vi y5), (6, vi y6)]) dX9_keeps_42 7 rfl rfl (by decide) rfl ?_
    refine Z_goto (tgt := 17) dX9_keeps_45 (by decide) ?_
    exact Z_pick [1, 2, 3, 4, 5, 6, 7, 0] rfl h
-- X9_lays
set_option maxRecDepth 100000 in
set_option maxHeartbeats 4000000 in
theorem zm_X9_lays {l : Launch} {G : zG} {nb : Nat} {na : Nat} {sa : Nat} (hsa : zkd sa = some (.inr (0, na))) {sb : Nat} (hsb : zkd sb = some (.inr (0, nb))) {p2 : Int32} {p4 : Int32} {M : zM} {Kf : zM → Prop} (h : zAt l G Y_X9_lays (zEV G Y_X9_lays Kf) 3 [(0, vr sa 0), (1, vi p2), (2, vr sb 0), (3, vi p4), (4, vi 0)] [] M 0 0) : zCalV l G Y_X9_lays 0 0 [vr sa 0, vi p2, vr sb 0, vi p4] M Kf := by
  refine zCal_of (lv := [(0, vr sa 0), (1, vi p2), (2, vr sb 0), (3, vi p4)]) (by decide) rfl (zle rfl) rfl (fun hv => zlv_args (lv := [(0, vr sa 0), (1, vi p2), (2, vr sb 0), (3, vi p4)]) rfl hv) ?_
  refine Z_iconst (v := 0) (by decide) dX9_lays_0 ?_
  refine Z_istore (lv2 := [(4, vi 0), (0, vr sa 0), (1, vi p2), (2, vr sb 0), (3, vi p4)]) dX9_lays_1 (by decide) rfl ?_
  exact Z_pick [1, 2, 3, 4, 0] rfl h
set_option maxRecDepth 100000 in
set_option maxHeartbeats 4000000 in
theorem zb_X9_lays_3 {l : Launch} {G : zG} {nb : Nat} {na : Nat} {sa : Nat} (hsa : zkd sa = some (.inr (0, na))) {sb : Nat} (hsb : zkd sb = some (.inr (0, nb))) {y1 : Int32} {y3 : Int32} {y4 : Int32} {M : zM} {Kf : zM → Prop} (h : ((484 ≤ y4 → (Kf M)) ∧ (¬ 484 ≤ y4 → (vp_in (y1 + y4) na ∧ (vp_in (y3 + y4) nb ∧ zAt l G Y_X9_lays (zEV G Y_X9_lays Kf) 3 [(0, vr sa 0), (1, vi y1), (2, vr sb 0), (3, vi y3), (4, vi (y4 + 1))] [] (zsI M sb 0 (y3 + y4).toNatClampNeg (zmI M sa 0 (y1 + y4).toNatClampNeg)) 0 0))))) : zAt l G Y_X9_lays (zEV G Y_X9_lays Kf) 3 [(0, vr sa 0), (1, vi y1), (2, vr sb 0), (3, vi y3), (4, vi y4)] [] M 0 0 := by
  refine Z_iload dX9_lays_3 4 rfl ?_
  refine Z_sipush (v := 484) (by decide) dX9_lays_5 ?_
  refine Z_icmp_ge (tgt := 29) dX9_lays_8 (by decide) (fun q => ?_) (fun q => ?_)
  · have h := h.1 q
    exact Z_vret rfl dX9_lays_29 (Nat.le_refl _) (Nat.le_refl _) ⟨rfl, h⟩
  · have h := h.2 q
    refine Z_aload_n dX9_lays_11 rfl 2 rfl ?_
    refine Z_iload_n dX9_lays_12 rfl 3 rfl ?_
    refine Z_iload dX9_lays_13 4 rfl ?_
    refine Z_iadd dX9_lays_15 ?_
    refine Z_aload_n dX9_lays_16 rfl 0 rfl ?_
    refine Z_iload_n dX9_lays_17 rfl 1 rfl ?_
    refine Z_iload dX9_lays_18 4 rfl ?_
    refine Z_iadd dX9_lays_20 ?_
    obtain ⟨g1, h⟩ := h
    refine Z_iald (n := na) hsa g1 dX9_lays_21 ?_
    obtain ⟨g2, h⟩ := h
    refine Z_iast (n := nb) hsb g2 dX9_lays_22 ?_
    refine Z_iinc (v := (y4 + 1)) (lv2 := [(4, vi (y4 + 1)), (0, vr sa 0), (1, vi y1), (2, vr sb 0), (3, vi y3)]) dX9_lays_23 4 rfl rfl (by decide) rfl ?_
    refine Z_goto (tgt := 3) dX9_lays_26 (by decide) ?_
    exact Z_pick [1, 2, 3, 4, 0] rfl h
-- X9_length
set_option maxRecDepth 100000 in
set_option maxHeartbeats 4000000 in
theorem zm_X9_length {l : Launch} {G : zG} {M : zM} {Kf : Int32 → zM → Prop} (h : (Kf ((zmI M 30 0 12) - (zmI M 30 0 11)) M)) : zCalI l G Y_X9_length 0 0 [vr 30 0] M Kf := by
  refine zCal_of (lv := [(0, vr 30 0)]) (by decide) rfl (zle rfl) rfl (fun hv => zlv_args (lv := [(0, vr 30 0)]) rfl hv) ?_
  refine Z_aload_n dX9_length_0 rfl 0 rfl ?_
  refine Z_getI zfl_X9_191 dX9_length_1 ?_
  refine Z_aload_n dX9_length_4 rfl 0 rfl ?_
  refine Z_getI zfl_X9_194 dX9_length_5 ?_
  refine Z_isub dX9_length_8 ?_
  exact Z_iret rfl rfl dX9_length_9 (Nat.le_refl _) (Nat.le_refl _) ⟨_, rfl, h⟩
-- X9_limitsNow
set_option maxRecDepth 100000 in
set_option maxHeartbeats 4000000 in
theorem zm_X9_limitsNow {l : Launch} {G : zG} {p1 : Int32} {p2 : Int32} {M : zM} {Kf : Int32 → zM → Prop} (h : (Kf ((100 * (zmI M 31 0 2)) + (zmI M 31 0 3)) (zsI (zsI M 31 0 2 p1) 31 0 3 p2))) : zCalI l G Y_X9_limitsNow 0 0 [vr 30 0, vi p1, vi p2] M Kf := by
  refine zCal_of (lv := [(0, vr 30 0), (1, vi p1), (2, vi p2)]) (by decide) rfl (zle rfl) rfl (fun hv => zlv_args (lv := [(0, vr 30 0), (1, vi p1), (2, vi p2)]) rfl hv) ?_
  refine Z_bipush (v := 100) (by decide) dX9_limitsNow_0 ?_
  refine Z_aload_n dX9_limitsNow_2 rfl 0 rfl ?_
  refine Z_getR (s1 := 31) (i1 := 0) zfl_X9_9 rfl (fun q => by first | exact q | decide) dX9_limitsNow_3 ?_
  refine Z_iconst (v := 2) (by decide) dX9_limitsNow_6 ?_
  refine Z_ialdK (n := 484) (j := 2) rfl (by decide) (zvin (by decide)) dX9_limitsNow_7 ?_
  refine Z_imul dX9_limitsNow_8 ?_
  refine Z_aload_n dX9_limitsNow_9 rfl 0 rfl ?_
  refine Z_getR (s1 := 31) (i1 := 0) zfl_X9_9 rfl (fun q => by first | exact q | decide) dX9_limitsNow_10 ?_
  refine Z_iconst (v := 3) (by decide) dX9_limitsNow_13 ?_
  refine Z_ialdK (n := 484) (j := 3) rfl (by decide) (zvin (by decide)) dX9_limitsNow_14 ?_
  refine Z_iadd dX9_limitsNow_15 ?_
  refine Z_istore_n (lv2 := [(3, vi ((100 * (zmI M 31 0 2)) + (zmI M 31 0 3))), (0, vr 30 0), (1, vi p1), (2, vi p2)]) dX9_limitsNow_16 rfl (by decide) rfl ?_
  refine Z_aload_n dX9_limitsNow_17 rfl 1 rfl ?_
  refine Z_getR (s1 := 31) (i1 := 0) zfl_X9_9 rfl (fun q => by first | exact q | decide) dX9_limitsNow_18 ?_
  refine Z_iconst (v := 2) (by decide) dX9_limitsNow_21 ?_
  refine Z_iload_n dX9_limitsNow_22 rfl 2 rfl ?_
  refine Z_iastK (n := 484) (j := 2) rfl (by decide) (zvin (by decide)) dX9_limitsNow_23 ?_
  refine Z_aload_n dX9_limitsNow_24 rfl 1 rfl ?_
  refine Z_getR (s1 := 31) (i1 := 0) zfl_X9_9 rfl (fun q => by first | exact q | decide) dX9_limitsNow_25 ?_
  refine Z_iconst (v := 3) (by decide) dX9_limitsNow_28 ?_
  refine Z_iload_n dX9_limitsNow_29 rfl 3 rfl ?_
  refine Z_iastK (n := 484) (j := 3) rfl (by decide) (zvin (by decide)) dX9_limitsNow_30 ?_
  refine Z_iload_n dX9_limitsNow_31 rfl 0 rfl ?_
  exact Z_iret rfl rfl dX9_limitsNow_32 (Nat.le_refl _) (Nat.le_refl _) ⟨_, rfl, h⟩
-- X9_low
set_option maxRecDepth 100000 in
set_option maxHeartbeats 4000000 in
theorem zm_X9_low {l : Launch} {G : zG} {M : zM} {Kf : Int32 → zM → Prop} (h : (Kf (1024 * (zmI M 31 0 2)) M)) : zCalI l G Y_X9_low 0 0 [vr 30 0] M Kf := by
  refine zCal_of (lv := [(0, vr 30 0)]) (by decide) rfl (zle rfl) rfl (fun hv => zlv_args (lv := [(0, vr 30 0)]) rfl hv) ?_
  refine Z_sipush (v := 1024) (by decide) dX9_low_0 ?_
  refine Z_aload_n dX9_low_3 rfl 0 rfl ?_
  refine Z_getR (s1 := 31) (i1 := 0) zfl_X9_9 rfl (fun q => by first | exact q | decide) dX9_low_4 ?_
  refine Z_iconst (v := 2) (by decide) dX9_low_7 ?_
  refine Z_ialdK (n := 484) (j := 2) rfl (by decide) (zvin (by decide)) dX9_low_8 ?_
  refine Z_imul dX9_low_9 ?_
  exact Z_iret rfl rfl dX9_low_10 (Nat.le_refl _) (Nat.le_refl _) ⟨_, rfl, h⟩
-- X9_moved
set_option maxRecDepth 100000 in
set_option maxHeartbeats 4000000 in
theorem zm_X9_moved {l : Launch} {G : zG} {p1 : Int32} {p2 : Int32} {M : zM} {Kf : Int32 → zM → Prop} (h : (Kf (p1 + (((1024 * p2) - p1) >>> ((zmI M 31 0 5) &&& 31))) M)) : zCalI l G Y_X9_moved 0 0 [vr 30 0, vi p1, vi p2] M Kf := by
  refine zCal_of (lv := [(0, vr 30 0), (1, vi p1), (2, vi p2)]) (by decide) rfl (zle rfl) rfl (fun hv => zlv_args (lv := [(0, vr 30 0), (1, vi p1), (2, vi p2)]) rfl hv) ?_
  refine Z_iload_n dX9_moved_0 rfl 1 rfl ?_
  refine Z_sipush (v := 1024) (by decide) dX9_moved_1 ?_
  refine Z_iload_n dX9_moved_4 rfl 2 rfl ?_
  refine Z_imul dX9_moved_5 ?_
  refine Z_iload_n dX9_moved_6 rfl 1 rfl ?_
  refine Z_isub dX9_moved_7 ?_
  refine Z_aload_n dX9_moved_8 rfl 0 rfl ?_
  refine Z_getR (s1 := 31) (i1 := 0) zfl_X9_9 rfl (fun q => by first | exact q | decide) dX9_moved_9 ?_
  refine Z_iconst (v := 5) (by decide) dX9_moved_12 ?_
  refine Z_ialdK (n := 484) (j := 5) rfl (by decide) (zvin (by decide)) dX9_moved_13 ?_
  refine Z_ishr dX9_moved_14 ?_
  refine Z_iadd dX9_moved_15 ?_
  exact Z_iret rfl rfl dX9_moved_16 (Nat.le_refl _) (Nat.le_refl _) ⟨_, rfl, h⟩
-- X9_ofDecision
set_option maxRecDepth 100000 in
set_option maxHeartbeats 4000000 in
theorem zm_X9_ofDecision {l : Launch} {G : zG} {p1 : Int32} {p2 : Int32} {M : zM} {Kf : Int32 → zM → Prop} (h : (vp_in ((292 + (8 * (((zmI M 31 0 12) - 1) - p1))) + p2) 484 ∧ (Kf (zmI M 31 0 ((292 + (8 * (((zmI M 31 0 12) - 1) - p1))) + p2).toNatClampNeg) M))) : zCalI l G Y_X9_ofDecision 0 0 [vr 30 0, vi p1, vi p2] M Kf := by
  refine zCal_of (lv := [(0, vr 30 0), (1, vi p1), (2, vi p2)]) (by decide) rfl (zle rfl) rfl (fun hv => zlv_args (lv := [(0, vr 30 0), (1, vi p1), (2, vi p2)]) rfl hv) ?_
  refine Z_aload_n dX9_ofDecision_0 rfl 0 rfl ?_
  refine Z_getR (s1 := 31) (i1 := 0) zfl_X9_9 rfl (fun q => by first | exact q | decide) dX9_ofDecision_1 ?_
  refine Z_sipush (v := 292) (by decide) dX9_ofDecision_4 ?_
  refine Z_bipush (v := 8) (by decide) dX9_ofDecision_7 ?_
  refine Z_aload_n dX9_ofDecision_9 rfl 0 rfl ?_
  refine Z_getR (s1 := 31) (i1 := 0) zfl_X9_9 rfl (fun q => by first | exact q | decide) dX9_ofDecision_10 ?_
  refine Z_bipush (v := 12) (by decide) dX9_ofDecision_13 ?_
  refine Z_ialdK (n := 484) (j := 12) rfl (by decide) (zvin (by decide)) dX9_ofDecision_15 ?_
  refine Z_iconst (v := 1) (by decide) dX9_ofDecision_16 ?_
  refine Z_isub dX9_ofDecision_17 ?_
  refine Z_iload_n dX9_ofDecision_18 rfl 1 rfl ?_
  refine Z_isub dX9_ofDecision_19 ?_
  refine Z_imul dX9_ofDecision_20 ?_
  refine Z_iadd dX9_ofDecision_21 ?_
  refine Z_iload_n dX9_ofDecision_22 rfl 2 rfl ?_
  refine Z_iadd dX9_ofDecision_23 ?_
  obtain ⟨g2, h⟩ := h
  refine Z_iald (n := 484) rfl g2 dX9_ofDecision_24 ?_
  exact Z_iret rfl rfl dX9_ofDecision_25 (Nat.le_refl _) (Nat.le_refl _) ⟨_, rfl, h⟩
-- X9_ofFlow
set_option maxRecDepth 100000 in
set_option maxHeartbeats 4000000 in
theorem zm_X9_ofFlow {l : Launch} {G : zG} {p1 : Int32} {p2 : Int32} {M : zM} {Kf : Int32 → zM → Prop} (h : (vp_in ((16 + (26 * p1)) + p2) 484 ∧ (Kf (zmI M 31 0 ((16 + (26 * p1)) + p2).toNatClampNeg) M))) : zCalI l G Y_X9_ofFlow 0 0 [vr 30 0, vi p1, vi p2] M Kf := by
  refine zCal_of (lv := [(0, vr 30 0), (1, vi p1), (2, vi p2)]) (by decide) rfl (zle rfl) rfl (fun hv => zlv_args (lv := [(0, vr 30 0), (1, vi p1), (2, vi p2)]) rfl hv) ?_
  refine Z_aload_n dX9_ofFlow_0 rfl 0 rfl ?_
  refine Z_getR (s1 := 31) (i1 := 0) zfl_X9_9 rfl (fun q => by first | exact q | decide) dX9_ofFlow_1 ?_
  refine Z_bipush (v := 16) (by decide) dX9_ofFlow_4 ?_
  refine Z_bipush (v := 26) (by decide) dX9_ofFlow_6 ?_
  refine Z_iload_n dX9_ofFlow_8 rfl 1 rfl ?_
  refine Z_imul dX9_ofFlow_9 ?_
  refine Z_iadd dX9_ofFlow_10 ?_
  refine Z_iload_n dX9_ofFlow_11 rfl 2 rfl ?_
  refine Z_iadd dX9_ofFlow_12 ?_
  obtain ⟨g1, h⟩ := h
  refine Z_iald (n := 484) rfl g1 dX9_ofFlow_13 ?_
  exact Z_iret rfl rfl dX9_ofFlow_14 (Nat.le_refl _) (Nat.le_refl _) ⟨_, rfl, h⟩
-- X9_ofPacket
set_option maxRecDepth 100000 in
set_option maxHeartbeats 4000000 in
theorem zm_X9_ofPacket {l : Launch} {G : zG} {p1 : Int32} {p2 : Int32} {M : zM} {Kf : Int32 → zM → Prop} (h : (vp_in ((172 + (3 * p1)) + p2) 484 ∧ (Kf (zmI M 31 0 ((172 + (3 * p1)) + p2).toNatClampNeg) M))) : zCalI l G Y_X9_ofPacket 0 0 [vr 30 0, vi p1, vi p2] M Kf := by
  refine zCal_of (lv := [(0, vr 30 0), (1, vi p1), (2, vi p2)]) (by decide) rfl (zle rfl) rfl (fun hv => zlv_args (lv := [(0, vr 30 0), (1, vi p1), (2, vi p2)]) rfl hv) ?_
  refine Z_aload_n dX9_ofPacket_0 rfl 0 rfl ?_
  refine Z_getR (s1 := 31) (i1 := 0) zfl_X9_9 rfl (fun q => by first | exact q | decide) dX9_ofPacket_1 ?_
  refine Z_sipush (v := 172) (by decide) dX9_ofPacket_4 ?_
  refine Z_iconst (v := 3) (by decide) dX9_ofPacket_7 ?_
  refine Z_iload_n dX9_ofPacket_8 rfl 1 rfl ?_
  refine Z_imul dX9_ofPacket_9 ?_
  refine Z_iadd dX9_ofPacket_10 ?_
  refine Z_iload_n dX9_ofPacket_11 rfl 2 rfl ?_
  refine Z_iadd dX9_ofPacket_12 ?_
  obtain ⟨g1, h⟩ := h
  refine Z_iald (n := 484) rfl g1 dX9_ofPacket_13 ?_
  exact Z_iret rfl rfl dX9_ofPacket_14 (Nat.le_refl _) (Nat.le_refl _) ⟨_, rfl, h⟩
-- X9_one
set_option maxRecDepth 100000 in
set_option maxHeartbeats 4000000 in
theorem zm_X9_one {l : Launch} {G : zG} {p1 : Int32} {M : zM} {Kf : Int32 → zM → Prop} (h : ((p1 = 0 → (Kf 0 M)) ∧ (¬ p1 = 0 → (Kf 1 M)))) : zCalI l G Y_X9_one 0 0 [vi p1] M Kf := by
  refine zCal_of (lv := [(0, vi p1)]) (by decide) rfl (zle rfl) rfl (fun hv => zlv_args (lv := [(0, vi p1)]) rfl hv) ?_
  refine Z_iload_n dX9_one_0 rfl 0 rfl ?_
  refine Z_if_eq (tgt := 8) dX9_one_1 (by decide) (fun q => ?_) (fun q => ?_)
  · have h := h.1 q
    refine Z_iconst (v := 0) (by decide) dX9_one_8 ?_
    exact Z_iret rfl rfl dX9_one_9 (Nat.le_refl _) (Nat.le_refl _) ⟨_, rfl, h⟩
  · have h := h.2 q
    refine Z_iconst (v := 1) (by decide) dX9_one_4 ?_
    refine Z_goto (tgt := 9) dX9_one_5 (by decide) ?_
    exact Z_iret rfl rfl dX9_one_9 (Nat.le_refl _) (Nat.le_refl _) ⟨_, rfl, h⟩
-- X9_putsFlow
set_option maxRecDepth 100000 in
set_option maxHeartbeats 4000000 in
theorem zm_X9_putsFlow {l : Launch} {G : zG} {p1 : Int32} {p2 : Int32} {p3 : Int32} {M : zM} {Kf : zM → Prop} (h : (vp_in ((16 + (26 * p1)) + p2) 484 ∧ (Kf (zsI M 31 0 ((16 + (26 * p1)) + p2).toNatClampNeg p3)))) : zCalV l G Y_X9_putsFlow 0 0 [vr 30 0, vi p1, vi p2, vi p3] M Kf := by
  refine zCal_of (lv := [(0, vr 30 0), (1, vi p1), (2, vi p2), (3, vi p3)]) (by decide) rfl (zle rfl) rfl (fun hv => zlv_args (lv := [(0, vr 30 0), (1, vi p1), (2, vi p2), (3, vi p3)]) rfl hv) ?_
  refine Z_aload_n dX9_putsFlow_0 rfl 0 rfl ?_
  refine Z_getR (s1 := 31) (i1 := 0) zfl_X9_9 rfl (fun q => by first | exact q | decide) dX9_putsFlow_1 ?_
  refine Z_bipush (v := 16) (by decide) dX9_putsFlow_4 ?_
  refine Z_bipush (v := 26) (by decide) dX9_putsFlow_6 ?_
  refine Z_iload_n dX9_putsFlow_8 rfl 1 rfl ?_
  refine Z_imul dX9_putsFlow_9 ?_
  refine Z_iadd dX9_putsFlow_10 ?_
  refine Z_iload_n dX9_putsFlow_11 rfl 2 rfl ?_
  refine Z_iadd dX9_putsFlow_12 ?_
  refine Z_iload_n dX9_putsFlow_13 rfl 3 rfl ?_
  obtain ⟨g1, h⟩ := h
  refine Z_iast (n := 484) rfl g1 dX9_putsFlow_14 ?_
  exact Z_vret rfl dX9_putsFlow_15 (Nat.le_refl _) (Nat.le_refl _) ⟨rfl, h⟩
-- X9_setNow
set_option maxRecDepth 100000 in
set_option maxHeartbeats 4000000 in
theorem zm_X9_setNow {l : Launch} {G : zG} {p1 : Int32} {p2 : Int32} {M : zM} {Kf : Int32 → zM → Prop} (h : (vp_in p1 484 ∧ (vp_in p1 484 ∧ (Kf (zmI M 31 0 p1.toNatClampNeg) (zsI M 31 0 p1.toNatClampNeg p2))))) : zCalI l G Y_X9_setNow 0 0 [vr 30 0, vi p1, vi p2] M Kf := by
  refine zCal_of (lv := [(0, vr 30 0), (1, vi p1), (2, vi p2)]) (by decide) rfl (zle rfl) rfl (fun hv => zlv_args (lv := [(0, vr 30 0), (1, vi p1), (2, vi p2)]) rfl hv) ?_
  refine Z_aload_n dX9_setNow_0 rfl 0 rfl ?_
  refine Z_getR (s1 := 31) (i1 := 0) zfl_X9_9 rfl (fun q => by first | exact q | decide) dX9_setNow_1 ?_
  refine Z_iload_n dX9_setNow_4 rfl 1 rfl ?_
  obtain ⟨g1, h⟩ := h
  refine Z_iald (n := 484) rfl g1 dX9_setNow_5 ?_
  refine Z_istore_n (lv2 := [(3, vi (zmI M 31 0 p1.toNatClampNeg)), (0, vr 30 0), (1, vi p1), (2, vi p2)]) dX9_setNow_6 rfl (by decide) rfl ?_
  refine Z_aload_n dX9_setNow_7 rfl 1 rfl ?_
  refine Z_getR (s1 := 31) (i1 := 0) zfl_X9_9 rfl (fun q => by first | exact q | decide) dX9_setNow_8 ?_
  refine Z_iload_n dX9_setNow_11 rfl 2 rfl ?_
  refine Z_iload_n dX9_setNow_12 rfl 3 rfl ?_
  obtain ⟨g2, h⟩ := h
  refine Z_iast (n := 484) rfl g2 dX9_setNow_13 ?_
  refine Z_iload_n dX9_setNow_14 rfl 0 rfl ?_
  exact Z_iret rfl rfl dX9_setNow_15 (Nat.le_refl _) (Nat.le_refl _) ⟨_, rfl, h⟩
-- X9_thrown
set_option maxRecDepth 100000 in
set_option maxHeartbeats 4000000 in
theorem zm_X9_thrown {l : Launch} {G : zG} {M : zM} {Kf : Int32 → zM → Prop} (h : (Kf (zmI M 30 0 7) M)) : zCalI l G Y_X9_thrown 0 0 [vr 30 0] M Kf := by
  refine zCal_of (lv := [(0, vr 30 0)]) (by decide) rfl (zle rfl) rfl (fun hv => zlv_args (lv := [(0, vr 30 0)]) rfl hv) ?_
  refine Z_aload_n dX9_thrown_0 rfl 0 rfl ?_
  refine Z_getI zfl_X9_60 dX9_thrown_1 ?_
  exact Z_iret rfl rfl dX9_thrown_4 (Nat.le_refl _) (Nat.le_refl _) ⟨_, rfl, h⟩
-- X9_writes
set_option maxRecDepth 100000 in
set_option maxHeartbeats 4000000 in
theorem zm_X9_writes {l : Launch} {G : zG} {p1 : Int32} {M : zM} {Kf : zM → Prop} (h : (vp_in (zmI M 30 0 29) 400 ∧ (Kf (zsI (zsI M 44 0 (zmI M 30 0 29).toNatClampNeg p1) 30 0 29 ((zmI (zsI M 44 0 (zmI M 30 0 29).toNatClampNeg p1) 30 0 29) + 1))))) : zCalV l G Y_X9_writes 0 0 [vr 30 0, vi p1] M Kf := by
  refine zCal_of (lv := [(0, vr 30 0), (1, vi p1)]) (by decide) rfl (zle rfl) rfl (fun hv => zlv_args (lv := [(0, vr 30 0), (1, vi p1)]) rfl hv) ?_
  refine Z_aload_n dX9_writes_0 rfl 0 rfl ?_
  refine Z_getR (s1 := 44) (i1 := 0) zfl_X9_54 rfl (fun q => by first | exact q | decide) dX9_writes_1 ?_
  refine Z_aload_n dX9_writes_4 rfl 0 rfl ?_
  refine Z_getI zfl_X9_432 dX9_writes_5 ?_
  refine Z_iload_n dX9_writes_8 rfl 1 rfl ?_
  obtain ⟨g1, h⟩ := h
  refine Z_iast (n := 400) rfl g1 dX9_writes_9 ?_
  refine Z_aload_n dX9_writes_10 rfl 0 rfl ?_
  refine Z_dup rfl dX9_writes_11 ?_
  refine Z_getI zfl_X9_432 dX9_writes_12 ?_
  refine Z_iconst (v := 1) (by decide) dX9_writes_15 ?_
  refine Z_iadd dX9_writes_16 ?_
  refine Z_putI zfp_X9_432 rfl rfl dX9_writes_17 ?_
  exact Z_vret rfl dX9_writes_20 (Nat.le_refl _) (Nat.le_refl _) ⟨rfl, h⟩
-- X9_wrong
set_option maxRecDepth 100000 in
set_option maxHeartbeats 4000000 in
theorem zm_X9_wrong {l : Launch} {G : zG} {p1 : Int32} {p2 : Int32} {M : zM} {Kf : Int32 → zM → Prop} (h : ((¬ (zmI M 30 0 15) = 0 → zAt l G Y_X9_wrong (zEI G Y_X9_wrong Kf) 24 [(0, vr 30 0)] [] M 0 0) ∧ ((zmI M 30 0 15) = 0 → ((p1 = 0 → zAt l G Y_X9_wrong (zEI G Y_X9_wrong Kf) 24 [(0, vr 30 0)] [] M 0 0) ∧ (¬ p1 = 0 → zAt l G Y_X9_wrong (zEI G Y_X9_wrong Kf) 24 [(0, vr 30 0)] [] (zsI (zsI M 30 0 15 p2) 30 0 16 (zmI (zsI M 30 0 15 p2) 30 0 11)) 0 0))))) : zCalI l G Y_X9_wrong 0 0 [vr 30 0, vi p1, vi p2] M Kf := by
  refine zCal_of (lv := [(0, vr 30 0), (1, vi p1), (2, vi p2)]) (by decide) rfl (zle rfl) rfl (fun hv => zlv_args (lv := [(0, vr 30 0), (1, vi p1), (2, vi p2)]) rfl hv) ?_
  refine Z_aload_n dX9_wrong_0 rfl 0 rfl ?_
  refine Z_getI zfl_X9_210 dX9_wrong_1 ?_
  refine Z_if_ne (tgt := 24) dX9_wrong_4 (by decide) (fun q => ?_) (fun q => ?_)
  · have h := h.1 q
    exact Z_pick [0] rfl h
  · have h := h.2 q
    refine Z_iload_n dX9_wrong_7 rfl 1 rfl ?_
    refine Z_if_eq (tgt := 24) dX9_wrong_8 (by decide) (fun q => ?_) (fun q => ?_)
    · have h := h.1 q
      exact Z_pick [0] rfl h
    · have h := h.2 q
      refine Z_aload_n dX9_wrong_11 rfl 0 rfl ?_
      refine Z_iload_n dX9_wrong_12 rfl 2 rfl ?_
      refine Z_putI zfp_X9_210 rfl rfl dX9_wrong_13 ?_
      refine Z_aload_n dX9_wrong_16 rfl 0 rfl ?_
      refine Z_aload_n dX9_wrong_17 rfl 0 rfl ?_
      refine Z_getI zfl_X9_194 dX9_wrong_18 ?_
      refine Z_putI zfp_X9_213 rfl rfl dX9_wrong_21 ?_
      exact Z_pick [0] rfl h
set_option maxRecDepth 100000 in
set_option maxHeartbeats 4000000 in
theorem zb_X9_wrong_24 {l : Launch} {G : zG}  {M : zM} {Kf : Int32 → zM → Prop} (h : (((zmI M 30 0 15) = 0 → (Kf 0 M)) ∧ (¬ (zmI M 30 0 15) = 0 → (Kf 1 M)))) : zAt l G Y_X9_wrong (zEI G Y_X9_wrong Kf) 24 [(0, vr 30 0)] [] M 0 0 := by
  refine Z_aload_n dX9_wrong_24 rfl 0 rfl ?_
  refine Z_getI zfl_X9_210 dX9_wrong_25 ?_
  refine Z_if_eq (tgt := 35) dX9_wrong_28 (by decide) (fun q => ?_) (fun q => ?_)
  · have h := h.1 q
    refine Z_iconst (v := 0) (by decide) dX9_wrong_35 ?_
    exact Z_iret rfl (by decide) dX9_wrong_36 (Nat.le_refl _) (Nat.le_refl _) ⟨_, rfl, h⟩
  · have h := h.2 q
    refine Z_iconst (v := 1) (by decide) dX9_wrong_31 ?_
    refine Z_goto (tgt := 36) dX9_wrong_32 (by decide) ?_
    exact Z_iret rfl (by decide) dX9_wrong_36 (Nat.le_refl _) (Nat.le_refl _) ⟨_, rfl, h⟩
