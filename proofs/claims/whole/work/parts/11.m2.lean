/-! printed by wip/whole/drive.py -/
abbrev Y_X9_accountOf : zY := (yX9_accountOf, cX9_accountOf, 5, (some .int), 3, [])
theorem zw_1887 : Cond.methodLink RX9 67 yX9_ofFlow ∈ zAll := zin 1887 (by decide +kernel) (by decide +kernel)
theorem zw_1890 : Cond.code yX9_ofFlow cX9_ofFlow 3 (some .int) ∈ zAll := zin 1890 (by decide +kernel) (by decide +kernel)
theorem zw_1889 : Cond.instanceMethod yX9_ofFlow ∈ zAll := zin 1889 (by decide +kernel) (by decide +kernel)
theorem zw_65 : Cond.selects RX9 yX9_ofFlow yX9_ofFlow ∈ zAll := zin 65 (by decide +kernel) (by decide +kernel)
theorem zw_124 : Cond.initialized RX9 ∈ zAll := zin 124 (by decide +kernel) (by decide +kernel)
theorem zcv_X9_accountOf_X9_ofFlow_67 : zLV Y_X9_accountOf 67 Y_X9_ofFlow 2 RX9 := ⟨zw_1887, zw_1889, zw_65, zw_124, zw_1890, by decide +kernel, by decide, by decide⟩
abbrev Y_X9_amiss : zY := (yX9_amiss, cX9_amiss, 3, (some .int), 3, [])
theorem zw_2045 : Cond.methodLink RX9 390 yX9_ofDecision ∈ zAll := zin 2045 (by decide +kernel) (by decide +kernel)
theorem zw_2048 : Cond.code yX9_ofDecision cX9_ofDecision 3 (some .int) ∈ zAll := zin 2048 (by decide +kernel) (by decide +kernel)
theorem zw_2047 : Cond.instanceMethod yX9_ofDecision ∈ zAll := zin 2047 (by decide +kernel) (by decide +kernel)
theorem zw_96 : Cond.selects RX9 yX9_ofDecision yX9_ofDecision ∈ zAll := zin 96 (by decide +kernel) (by decide +kernel)
theorem zcv_X9_amiss_X9_ofDecision_390 : zLV Y_X9_amiss 390 Y_X9_ofDecision 2 RX9 := ⟨zw_2045, zw_2047, zw_96, zw_124, zw_2048, by decide +kernel, by decide, by decide⟩
theorem zw_1696 : Cond.methodLink RX9 99 yX9_one ∈ zAll := zin 1696 (by decide +kernel) (by decide +kernel)
theorem zw_1698 : Cond.code yX9_one cX9_one 1 (some .int) ∈ zAll := zin 1698 (by decide +kernel) (by decide +kernel)
theorem zw_1697 : Cond.static yX9_one ∈ zAll := zin 1697 (by decide +kernel) (by decide +kernel)
theorem zcs_X9_amiss_X9_one_99 : zLS Y_X9_amiss 99 Y_X9_one 1 := ⟨zw_1696, zw_1697, zw_124, zw_1698, by decide +kernel, by decide, by decide⟩
abbrev Y_X9_aside : zY := (yX9_aside, cX9_aside, 1, none, 3, [])
theorem zw_1595 : Cond.fieldLink RX9 13 "EarlyDropsModel" "other" "[I" ∈ zAll := zin 1595 (by decide +kernel) (by decide +kernel)
theorem zfl_X9_13 : zFL RX9 13 30 1 1 := ⟨13, RX9, TX9, 30, rfl, rfl, by decide, rfl, zw_1595, zws_X9⟩
theorem zw_1711 : Cond.methodLink RX9 175 yX9_lays ∈ zAll := zin 1711 (by decide +kernel) (by decide +kernel)
theorem zw_1713 : Cond.code yX9_lays cX9_lays 5 none ∈ zAll := zin 1713 (by decide +kernel) (by decide +kernel)
theorem zw_1712 : Cond.static yX9_lays ∈ zAll := zin 1712 (by decide +kernel) (by decide +kernel)
theorem zcs_X9_aside_X9_lays_175 : zLS Y_X9_aside 175 Y_X9_lays 4 := ⟨zw_1711, zw_1712, zw_124, zw_1713, by decide +kernel, by decide, by decide⟩
abbrev Y_X9_back : zY := (yX9_back, cX9_back, 2, (some .int), 3, [])
theorem zcs_X9_back_X9_lays_175 : zLS Y_X9_back 175 Y_X9_lays 4 := ⟨zw_1711, zw_1712, zw_124, zw_1713, by decide +kernel, by decide, by decide⟩
abbrev Y_X9_between : zY := (yX9_between, cX9_between, 4, (some .int), 3, [])
theorem zcv_X9_between_X9_ofFlow_67 : zLV Y_X9_between 67 Y_X9_ofFlow 2 RX9 := ⟨zw_1887, zw_1889, zw_65, zw_124, zw_1890, by decide +kernel, by decide, by decide⟩
abbrev Y_X9_bytesIn : zY := (yX9_bytesIn, cX9_bytesIn, 1, (some .int), 3, [])
theorem zcs_X9_bytesIn_X9_one_99 : zLS Y_X9_bytesIn 99 Y_X9_one 1 := ⟨zw_1696, zw_1697, zw_124, zw_1698, by decide +kernel, by decide, by decide⟩
abbrev Y_X9_counts : zY := (yX9_counts, cX9_counts, 4, none, 3, [])
theorem zcv_X9_counts_X9_ofFlow_67 : zLV Y_X9_counts 67 Y_X9_ofFlow 2 RX9 := ⟨zw_1887, zw_1889, zw_65, zw_124, zw_1890, by decide +kernel, by decide, by decide⟩
theorem zw_1896 : Cond.methodLink RX9 71 yX9_putsFlow ∈ zAll := zin 1896 (by decide +kernel) (by decide +kernel)
theorem zw_1899 : Cond.code yX9_putsFlow cX9_putsFlow 4 none ∈ zAll := zin 1899 (by decide +kernel) (by decide +kernel)
theorem zw_1898 : Cond.instanceMethod yX9_putsFlow ∈ zAll := zin 1898 (by decide +kernel) (by decide +kernel)
theorem zw_67 : Cond.selects RX9 yX9_putsFlow yX9_putsFlow ∈ zAll := zin 67 (by decide +kernel) (by decide +kernel)
theorem zcv_X9_counts_X9_putsFlow_71 : zLV Y_X9_counts 71 Y_X9_putsFlow 3 RX9 := ⟨zw_1896, zw_1898, zw_67, zw_124, zw_1899, by decide +kernel, by decide, by decide⟩
abbrev Y_X9_decision : zY := (yX9_decision, cX9_decision, 3, (some .int), 3, [])
theorem zw_1730 : Cond.methodLink RX9 63 yX9_in ∈ zAll := zin 1730 (by decide +kernel) (by decide +kernel)
theorem zw_1732 : Cond.code yX9_in cX9_in 3 (some .boolean) ∈ zAll := zin 1732 (by decide +kernel) (by decide +kernel)
theorem zw_1731 : Cond.static yX9_in ∈ zAll := zin 1731 (by decide +kernel) (by decide +kernel)
theorem zcs_X9_decision_X9_in_63 : zLS Y_X9_decision 63 Y_X9_in 3 := ⟨zw_1730, zw_1731, zw_124, zw_1732, by decide +kernel, by decide, by decide⟩
theorem zw_1993 : Cond.methodLink RX9 366 yX9_fails ∈ zAll := zin 1993 (by decide +kernel) (by decide +kernel)
theorem zw_1996 : Cond.code yX9_fails cX9_fails 3 (some .boolean) ∈ zAll := zin 1996 (by decide +kernel) (by decide +kernel)
theorem zw_1995 : Cond.instanceMethod yX9_fails ∈ zAll := zin 1995 (by decide +kernel) (by decide +kernel)
theorem zw_88 : Cond.selects RX9 yX9_fails yX9_fails ∈ zAll := zin 88 (by decide +kernel) (by decide +kernel)
theorem zcv_X9_decision_X9_fails_366 : zLV Y_X9_decision 366 Y_X9_fails 2 RX9 := ⟨zw_1993, zw_1995, zw_88, zw_124, zw_1996, by decide +kernel, by decide, by decide⟩
theorem zcv_X9_decision_X9_ofDecision_390 : zLV Y_X9_decision 390 Y_X9_ofDecision 2 RX9 := ⟨zw_2045, zw_2047, zw_96, zw_124, zw_2048, by decide +kernel, by decide, by decide⟩
abbrev Y_X9_endOfChance : zY := (yX9_endOfChance, cX9_endOfChance, 1, (some .int), 3, [])
theorem zw_1928 : Cond.methodLink RX9 78 yX9_high ∈ zAll := zin 1928 (by decide +kernel) (by decide +kernel)
theorem zw_1931 : Cond.code yX9_high cX9_high 1 (some .int) ∈ zAll := zin 1931 (by decide +kernel) (by decide +kernel)
theorem zw_1930 : Cond.instanceMethod yX9_high ∈ zAll := zin 1930 (by decide +kernel) (by decide +kernel)
theorem zw_75 : Cond.selects RX9 yX9_high yX9_high ∈ zAll := zin 75 (by decide +kernel) (by decide +kernel)
theorem zcv_X9_endOfChance_X9_high_78 : zLV Y_X9_endOfChance 78 Y_X9_high 0 RX9 := ⟨zw_1928, zw_1930, zw_75, zw_124, zw_1931, by decide +kernel, by decide, by decide⟩
abbrev Y_X9_isDigitAt : zY := (yX9_isDigitAt, cX9_isDigitAt, 2, (some .boolean), 3, [])
theorem zw_1722 : Cond.methodLink RX9 188 yX9_byteAt ∈ zAll := zin 1722 (by decide +kernel) (by decide +kernel)
theorem zw_1725 : Cond.code yX9_byteAt cX9_byteAt 2 (some .int) ∈ zAll := zin 1725 (by decide +kernel) (by decide +kernel)
theorem zw_1724 : Cond.instanceMethod yX9_byteAt ∈ zAll := zin 1724 (by decide +kernel) (by decide +kernel)
theorem zw_31 : Cond.selects RX9 yX9_byteAt yX9_byteAt ∈ zAll := zin 31 (by decide +kernel) (by decide +kernel)
theorem zcv_X9_isDigitAt_X9_byteAt_188 : zLV Y_X9_isDigitAt 188 Y_X9_byteAt 1 RX9 := ⟨zw_1722, zw_1724, zw_31, zw_124, zw_1725, by decide +kernel, by decide, by decide⟩
theorem zcs_X9_isDigitAt_X9_in_63 : zLS Y_X9_isDigitAt 63 Y_X9_in 3 := ⟨zw_1730, zw_1731, zw_124, zw_1732, by decide +kernel, by decide, by decide⟩
abbrev Y_X9_isFlow : zY := (yX9_isFlow, cX9_isFlow, 2, (some .boolean), 3, [])
theorem zcs_X9_isFlow_X9_in_63 : zLS Y_X9_isFlow 63 Y_X9_in 3 := ⟨zw_1730, zw_1731, zw_124, zw_1732, by decide +kernel, by decide, by decide⟩
abbrev Y_X9_isLetterAt : zY := (yX9_isLetterAt, cX9_isLetterAt, 2, (some .boolean), 3, [])
theorem zcv_X9_isLetterAt_X9_byteAt_188 : zLV Y_X9_isLetterAt 188 Y_X9_byteAt 1 RX9 := ⟨zw_1722, zw_1724, zw_31, zw_124, zw_1725, by decide +kernel, by decide, by decide⟩
theorem zcs_X9_isLetterAt_X9_in_63 : zLS Y_X9_isLetterAt 63 Y_X9_in 3 := ⟨zw_1730, zw_1731, zw_124, zw_1732, by decide +kernel, by decide, by decide⟩
abbrev Y_X9_isName : zY := (yX9_isName, cX9_isName, 4, (some .boolean), 3, [])
theorem zw_1743 : Cond.methodLink RX9 216 yX9_length ∈ zAll := zin 1743 (by decide +kernel) (by decide +kernel)
theorem zw_1746 : Cond.code yX9_length cX9_length 1 (some .int) ∈ zAll := zin 1746 (by decide +kernel) (by decide +kernel)
theorem zw_1745 : Cond.instanceMethod yX9_length ∈ zAll := zin 1745 (by decide +kernel) (by decide +kernel)
theorem zw_35 : Cond.selects RX9 yX9_length yX9_length ∈ zAll := zin 35 (by decide +kernel) (by decide +kernel)
theorem zcv_X9_isName_X9_length_216 : zLV Y_X9_isName 216 Y_X9_length 0 RX9 := ⟨zw_1743, zw_1745, zw_35, zw_124, zw_1746, by decide +kernel, by decide, by decide⟩
abbrev Y_X9_isOn : zY := (yX9_isOn, cX9_isOn, 2, (some .boolean), 3, [])
theorem zcv_X9_isOn_X9_ofFlow_67 : zLV Y_X9_isOn 67 Y_X9_ofFlow 2 RX9 := ⟨zw_1887, zw_1889, zw_65, zw_124, zw_1890, by decide +kernel, by decide, by decide⟩
abbrev Y_X9_letsIn : zY := (yX9_letsIn, cX9_letsIn, 4, none, 3, [])
theorem zcs_X9_letsIn_X9_one_99 : zLS Y_X9_letsIn 99 Y_X9_one 1 := ⟨zw_1696, zw_1697, zw_124, zw_1698, by decide +kernel, by decide, by decide⟩
abbrev Y_X9_noAccount : zY := (yX9_noAccount, cX9_noAccount, 2, (some .boolean), 3, [])
theorem zcs_X9_noAccount_X9_in_63 : zLS Y_X9_noAccount 63 Y_X9_in 3 := ⟨zw_1730, zw_1731, zw_124, zw_1732, by decide +kernel, by decide, by decide⟩
theorem zcv_X9_noAccount_X9_fails_366 : zLV Y_X9_noAccount 366 Y_X9_fails 2 RX9 := ⟨zw_1993, zw_1995, zw_88, zw_124, zw_1996, by decide +kernel, by decide, by decide⟩
abbrev Y_X9_noName : zY := (yX9_noName, cX9_noName, 1, (some .boolean), 3, [])
theorem zcv_X9_noName_X9_length_216 : zLV Y_X9_noName 216 Y_X9_length 0 RX9 := ⟨zw_1743, zw_1745, zw_35, zw_124, zw_1746, by decide +kernel, by decide, by decide⟩
theorem zw_1749 : Cond.methodLink RX9 229 yX9_wrong ∈ zAll := zin 1749 (by decide +kernel) (by decide +kernel)
theorem zw_1752 : Cond.code yX9_wrong cX9_wrong 3 (some .boolean) ∈ zAll := zin 1752 (by decide +kernel) (by decide +kernel)
theorem zw_1751 : Cond.instanceMethod yX9_wrong ∈ zAll := zin 1751 (by decide +kernel) (by decide +kernel)
theorem zw_36 : Cond.selects RX9 yX9_wrong yX9_wrong ∈ zAll := zin 36 (by decide +kernel) (by decide +kernel)
theorem zcv_X9_noName_X9_wrong_229 : zLV Y_X9_noName 229 Y_X9_wrong 2 RX9 := ⟨zw_1749, zw_1751, zw_36, zw_124, zw_1752, by decide +kernel, by decide, by decide⟩
abbrev Y_X9_noSlot : zY := (yX9_noSlot, cX9_noSlot, 2, (some .boolean), 3, [])
theorem zcs_X9_noSlot_X9_in_63 : zLS Y_X9_noSlot 63 Y_X9_in 3 := ⟨zw_1730, zw_1731, zw_124, zw_1732, by decide +kernel, by decide, by decide⟩
theorem zcv_X9_noSlot_X9_fails_366 : zLV Y_X9_noSlot 366 Y_X9_fails 2 RX9 := ⟨zw_1993, zw_1995, zw_88, zw_124, zw_1996, by decide +kernel, by decide, by decide⟩
abbrev Y_X9_noTicks : zY := (yX9_noTicks, cX9_noTicks, 5, (some .boolean), 3, [])
theorem zcs_X9_noTicks_X9_in_63 : zLS Y_X9_noTicks 63 Y_X9_in 3 := ⟨zw_1730, zw_1731, zw_124, zw_1732, by decide +kernel, by decide, by decide⟩
theorem zcv_X9_noTicks_X9_fails_366 : zLV Y_X9_noTicks 366 Y_X9_fails 2 RX9 := ⟨zw_1993, zw_1995, zw_88, zw_124, zw_1996, by decide +kernel, by decide, by decide⟩
abbrev Y_X9_onMany : zY := (yX9_onMany, cX9_onMany, 3, (some .int), 3, [])
theorem zcv_X9_onMany_X9_ofFlow_67 : zLV Y_X9_onMany 67 Y_X9_ofFlow 2 RX9 := ⟨zw_1887, zw_1889, zw_65, zw_124, zw_1890, by decide +kernel, by decide, by decide⟩
abbrev Y_X9_packet : zY := (yX9_packet, cX9_packet, 3, (some .int), 3, [])
theorem zcs_X9_packet_X9_in_63 : zLS Y_X9_packet 63 Y_X9_in 3 := ⟨zw_1730, zw_1731, zw_124, zw_1732, by decide +kernel, by decide, by decide⟩
theorem zcv_X9_packet_X9_fails_366 : zLV Y_X9_packet 366 Y_X9_fails 2 RX9 := ⟨zw_1993, zw_1995, zw_88, zw_124, zw_1996, by decide +kernel, by decide, by decide⟩
theorem zw_1969 : Cond.methodLink RX9 159 yX9_ofPacket ∈ zAll := zin 1969 (by decide +kernel) (by decide +kernel)
theorem zw_1972 : Cond.code yX9_ofPacket cX9_ofPacket 3 (some .int) ∈ zAll := zin 1972 (by decide +kernel) (by decide +kernel)
theorem zw_1971 : Cond.instanceMethod yX9_ofPacket ∈ zAll := zin 1971 (by decide +kernel) (by decide +kernel)
theorem zw_83 : Cond.selects RX9 yX9_ofPacket yX9_ofPacket ∈ zAll := zin 83 (by decide +kernel) (by decide +kernel)
theorem zcv_X9_packet_X9_ofPacket_159 : zLV Y_X9_packet 159 Y_X9_ofPacket 2 RX9 := ⟨zw_1969, zw_1971, zw_83, zw_124, zw_1972, by decide +kernel, by decide, by decide⟩
abbrev Y_X9_queuedOf : zY := (yX9_queuedOf, cX9_queuedOf, 4, (some .int), 3, [])
theorem zcv_X9_queuedOf_X9_ofPacket_159 : zLV Y_X9_queuedOf 159 Y_X9_ofPacket 2 RX9 := ⟨zw_1969, zw_1971, zw_83, zw_124, zw_1972, by decide +kernel, by decide, by decide⟩
theorem zcs_X9_queuedOf_X9_one_99 : zLS Y_X9_queuedOf 99 Y_X9_one 1 := ⟨zw_1696, zw_1697, zw_124, zw_1698, by decide +kernel, by decide, by decide⟩
abbrev Y_X9_remembers : zY := (yX9_remembers, cX9_remembers, 3, none, 3, [])
theorem zw_1600 : Cond.fieldLink RX9 298 "EarlyDropsModel" "undos" "I" ∈ zAll := zin 1600 (by decide +kernel) (by decide +kernel)
theorem zfl_X9_298 : zFL RX9 298 30 6 0 := ⟨13, RX9, TX9, 30, rfl, rfl, by decide, rfl, zw_1600, zws_X9⟩
theorem zw_1597 : Cond.fieldLink RX9 19 "EarlyDropsModel" "past" "[I" ∈ zAll := zin 1597 (by decide +kernel) (by decide +kernel)
theorem zfl_X9_19 : zFL RX9 19 30 3 1 := ⟨13, RX9, TX9, 30, rfl, rfl, by decide, rfl, zw_1597, zws_X9⟩
theorem zcs_X9_remembers_X9_lays_175 : zLS Y_X9_remembers 175 Y_X9_lays 4 := ⟨zw_1711, zw_1712, zw_124, zw_1713, by decide +kernel, by decide, by decide⟩
theorem zfp_X9_298 : zFP RX9 298 30 6 0 .int := ⟨13, RX9, TX9, 30, tyX9, ⟨rfl, rfl, by decide, rfl, zw_1600, zws_X9⟩, tyX9_ok, nmX9, rfl, by decide +kernel⟩
abbrev Y_X9_reportByte : zY := (yX9_reportByte, cX9_reportByte, 2, (some .int), 3, [])
theorem zcs_X9_reportByte_X9_in_63 : zLS Y_X9_reportByte 63 Y_X9_in 3 := ⟨zw_1730, zw_1731, zw_124, zw_1732, by decide +kernel, by decide, by decide⟩
abbrev Y_X9_starts : zY := (yX9_starts, cX9_starts, 1, none, 3, [])
theorem zw_1596 : Cond.fieldLink RX9 16 "EarlyDropsModel" "ahead" "[I" ∈ zAll := zin 1596 (by decide +kernel) (by decide +kernel)
theorem zfl_X9_16 : zFL RX9 16 30 2 1 := ⟨13, RX9, TX9, 30, rfl, rfl, by decide, rfl, zw_1596, zws_X9⟩
theorem zcs_X9_starts_X9_lays_175 : zLS Y_X9_starts 175 Y_X9_lays 4 := ⟨zw_1711, zw_1712, zw_124, zw_1713, by decide +kernel, by decide, by decide⟩
abbrev Y_X9_undo : zY := (yX9_undo, cX9_undo, 1, (some .int), 3, [])
theorem zcs_X9_undo_X9_lays_175 : zLS Y_X9_undo 175 Y_X9_lays 4 := ⟨zw_1711, zw_1712, zw_124, zw_1713, by decide +kernel, by decide, by decide⟩
theorem dX9_isFlow_0 : decode cX9_isFlow 0 = .ok (.iload_n 1, 1) := by decide +kernel
theorem dX9_isFlow_1 : decode cX9_isFlow 1 = .ok (.iconst 0, 1) := by decide +kernel
theorem dX9_isFlow_2 : decode cX9_isFlow 2 = .ok (.aload_n 0, 1) := by decide +kernel
theorem dX9_isFlow_3 : decode cX9_isFlow 3 = .ok (.getfield 9, 3) := by decide +kernel
theorem dX9_isFlow_6 : decode cX9_isFlow 6 = .ok (.bipush 11, 2) := by decide +kernel
theorem dX9_isFlow_8 : decode cX9_isFlow 8 = .ok (.iaload, 1) := by decide +kernel
theorem dX9_isFlow_9 : decode cX9_isFlow 9 = .ok (.iconst 1, 1) := by decide +kernel
theorem dX9_isFlow_10 : decode cX9_isFlow 10 = .ok (.isub, 1) := by decide +kernel
theorem dX9_isFlow_11 : decode cX9_isFlow 11 = .ok (.invokestatic 63, 3) := by decide +kernel
theorem dX9_isFlow_14 : decode cX9_isFlow 14 = .ok (.ireturn, 1) := by decide +kernel
theorem dX9_isOn_0 : decode cX9_isOn 0 = .ok (.aload_n 0, 1) := by decide +kernel
theorem dX9_isOn_1 : decode cX9_isOn 1 = .ok (.iload_n 1, 1) := by decide +kernel
theorem dX9_isOn_2 : decode cX9_isOn 2 = .ok (.iconst 5, 1) := by decide +kernel
theorem dX9_isOn_3 : decode cX9_isOn 3 = .ok (.invokevirtual 67, 3) := by decide +kernel
theorem dX9_isOn_6 : decode cX9_isOn 6 = .ok (.iconst 1, 1) := by decide +kernel
theorem dX9_isOn_7 : decode cX9_isOn 7 = .ok (.if_icmp .ne 7, 3) := by decide +kernel
theorem dX9_isOn_10 : decode cX9_isOn 10 = .ok (.iconst 1, 1) := by decide +kernel
theorem dX9_isOn_11 : decode cX9_isOn 11 = .ok (.goto 4, 3) := by decide +kernel
theorem dX9_isOn_14 : decode cX9_isOn 14 = .ok (.iconst 0, 1) := by decide +kernel
theorem dX9_isOn_15 : decode cX9_isOn 15 = .ok (.ireturn, 1) := by decide +kernel
theorem dX9_counts_0 : decode cX9_counts 0 = .ok (.aload_n 0, 1) := by decide +kernel
theorem dX9_counts_1 : decode cX9_counts 1 = .ok (.iload_n 1, 1) := by decide +kernel
theorem dX9_counts_2 : decode cX9_counts 2 = .ok (.bipush 18, 2) := by decide +kernel
theorem dX9_counts_4 : decode cX9_counts 4 = .ok (.iload_n 2, 1) := by decide +kernel
theorem dX9_counts_5 : decode cX9_counts 5 = .ok (.iadd, 1) := by decide +kernel
theorem dX9_counts_6 : decode cX9_counts 6 = .ok (.aload_n 0, 1) := by decide +kernel
theorem dX9_counts_7 : decode cX9_counts 7 = .ok (.iload_n 1, 1) := by decide +kernel
theorem dX9_counts_8 : decode cX9_counts 8 = .ok (.bipush 18, 2) := by decide +kernel
theorem dX9_counts_10 : decode cX9_counts 10 = .ok (.iload_n 2, 1) := by decide +kernel
theorem dX9_counts_11 : decode cX9_counts 11 = .ok (.iadd, 1) := by decide +kernel
theorem dX9_counts_12 : decode cX9_counts 12 = .ok (.invokevirtual 67, 3) := by decide +kernel
theorem dX9_counts_15 : decode cX9_counts 15 = .ok (.iload_n 3, 1) := by decide +kernel
theorem dX9_counts_16 : decode cX9_counts 16 = .ok (.iadd, 1) := by decide +kernel
theorem dX9_counts_17 : decode cX9_counts 17 = .ok (.invokevirtual 71, 3) := by decide +kernel
theorem dX9_counts_20 : decode cX9_counts 20 = .ok (.return_, 1) := by decide +kernel
theorem dX9_accountOf_0 : decode cX9_accountOf 0 = .ok (.iload_n 1, 1) := by decide +kernel
theorem dX9_accountOf_1 : decode cX9_accountOf 1 = .ok (.iconst (-1), 1) := by decide +kernel
theorem dX9_accountOf_2 : decode cX9_accountOf 2 = .ok (.if_icmp .eq 13, 3) := by decide +kernel
theorem dX9_accountOf_5 : decode cX9_accountOf 5 = .ok (.aload_n 0, 1) := by decide +kernel
theorem dX9_accountOf_6 : decode cX9_accountOf 6 = .ok (.iload_n 1, 1) := by decide +kernel
theorem dX9_accountOf_7 : decode cX9_accountOf 7 = .ok (.bipush 18, 2) := by decide +kernel
theorem dX9_accountOf_9 : decode cX9_accountOf 9 = .ok (.iload_n 2, 1) := by decide +kernel
theorem dX9_accountOf_10 : decode cX9_accountOf 10 = .ok (.iadd, 1) := by decide +kernel
theorem dX9_accountOf_11 : decode cX9_accountOf 11 = .ok (.invokevirtual 67, 3) := by decide +kernel
theorem dX9_accountOf_14 : decode cX9_accountOf 14 = .ok (.ireturn, 1) := by decide +kernel
theorem dX9_accountOf_15 : decode cX9_accountOf 15 = .ok (.iconst 0, 1) := by decide +kernel
theorem dX9_accountOf_16 : decode cX9_accountOf 16 = .ok (.istore_n 3, 1) := by decide +kernel
theorem dX9_accountOf_17 : decode cX9_accountOf 17 = .ok (.iconst 0, 1) := by decide +kernel
theorem dX9_accountOf_18 : decode cX9_accountOf 18 = .ok (.istore 4, 2) := by decide +kernel
theorem dX9_accountOf_20 : decode cX9_accountOf 20 = .ok (.iload 4, 2) := by decide +kernel
theorem dX9_accountOf_22 : decode cX9_accountOf 22 = .ok (.aload_n 0, 1) := by decide +kernel
theorem dX9_accountOf_23 : decode cX9_accountOf 23 = .ok (.getfield 9, 3) := by decide +kernel
theorem dX9_accountOf_26 : decode cX9_accountOf 26 = .ok (.bipush 11, 2) := by decide +kernel
theorem dX9_accountOf_28 : decode cX9_accountOf 28 = .ok (.iaload, 1) := by decide +kernel
theorem dX9_accountOf_29 : decode cX9_accountOf 29 = .ok (.if_icmp .ge 22, 3) := by decide +kernel
theorem dX9_accountOf_32 : decode cX9_accountOf 32 = .ok (.iload_n 3, 1) := by decide +kernel
theorem dX9_accountOf_33 : decode cX9_accountOf 33 = .ok (.aload_n 0, 1) := by decide +kernel
theorem dX9_accountOf_34 : decode cX9_accountOf 34 = .ok (.iload 4, 2) := by decide +kernel
theorem dX9_accountOf_36 : decode cX9_accountOf 36 = .ok (.bipush 18, 2) := by decide +kernel
theorem dX9_accountOf_38 : decode cX9_accountOf 38 = .ok (.iload_n 2, 1) := by decide +kernel
theorem dX9_accountOf_39 : decode cX9_accountOf 39 = .ok (.iadd, 1) := by decide +kernel
theorem dX9_accountOf_40 : decode cX9_accountOf 40 = .ok (.invokevirtual 67, 3) := by decide +kernel
theorem dX9_accountOf_43 : decode cX9_accountOf 43 = .ok (.iadd, 1) := by decide +kernel
theorem dX9_accountOf_44 : decode cX9_accountOf 44 = .ok (.istore_n 3, 1) := by decide +kernel
theorem dX9_accountOf_45 : decode cX9_accountOf 45 = .ok (.iinc 4 1, 3) := by decide +kernel
theorem dX9_accountOf_48 : decode cX9_accountOf 48 = .ok (.goto (-28), 3) := by decide +kernel
theorem dX9_accountOf_51 : decode cX9_accountOf 51 = .ok (.iload_n 3, 1) := by decide +kernel
theorem dX9_accountOf_52 : decode cX9_accountOf 52 = .ok (.ireturn, 1) := by decide +kernel
theorem dX9_endOfChance_0 : decode cX9_endOfChance 0 = .ok (.aload_n 0, 1) := by decide +kernel
theorem dX9_endOfChance_1 : decode cX9_endOfChance 1 = .ok (.getfield 9, 3) := by decide +kernel
theorem dX9_endOfChance_4 : decode cX9_endOfChance 4 = .ok (.bipush 6, 2) := by decide +kernel
theorem dX9_endOfChance_6 : decode cX9_endOfChance 6 = .ok (.iaload, 1) := by decide +kernel
theorem dX9_endOfChance_7 : decode cX9_endOfChance 7 = .ok (.iconst 1, 1) := by decide +kernel
theorem dX9_endOfChance_8 : decode cX9_endOfChance 8 = .ok (.if_icmp .ne 12, 3) := by decide +kernel
theorem dX9_endOfChance_11 : decode cX9_endOfChance 11 = .ok (.iconst 2, 1) := by decide +kernel
theorem dX9_endOfChance_12 : decode cX9_endOfChance 12 = .ok (.aload_n 0, 1) := by decide +kernel
theorem dX9_endOfChance_13 : decode cX9_endOfChance 13 = .ok (.invokevirtual 78, 3) := by decide +kernel
theorem dX9_endOfChance_16 : decode cX9_endOfChance 16 = .ok (.imul, 1) := by decide +kernel
theorem dX9_endOfChance_17 : decode cX9_endOfChance 17 = .ok (.goto 7, 3) := by decide +kernel
theorem dX9_endOfChance_20 : decode cX9_endOfChance 20 = .ok (.aload_n 0, 1) := by decide +kernel
theorem dX9_endOfChance_21 : decode cX9_endOfChance 21 = .ok (.invokevirtual 78, 3) := by decide +kernel
theorem dX9_endOfChance_24 : decode cX9_endOfChance 24 = .ok (.ireturn, 1) := by decide +kernel
theorem dX9_letsIn_0 : decode cX9_letsIn 0 = .ok (.sipush 172, 3) := by decide +kernel
theorem dX9_letsIn_3 : decode cX9_letsIn 3 = .ok (.iconst 3, 1) := by decide +kernel
theorem dX9_letsIn_4 : decode cX9_letsIn 4 = .ok (.aload_n 0, 1) := by decide +kernel
theorem dX9_letsIn_5 : decode cX9_letsIn 5 = .ok (.getfield 9, 3) := by decide +kernel
theorem dX9_letsIn_8 : decode cX9_letsIn 8 = .ok (.bipush 8, 2) := by decide +kernel
theorem dX9_letsIn_10 : decode cX9_letsIn 10 = .ok (.iaload, 1) := by decide +kernel
theorem dX9_letsIn_11 : decode cX9_letsIn 11 = .ok (.imul, 1) := by decide +kernel
theorem dX9_letsIn_12 : decode cX9_letsIn 12 = .ok (.iadd, 1) := by decide +kernel
theorem dX9_letsIn_13 : decode cX9_letsIn 13 = .ok (.istore_n 3, 1) := by decide +kernel
theorem dX9_letsIn_14 : decode cX9_letsIn 14 = .ok (.aload_n 0, 1) := by decide +kernel
theorem dX9_letsIn_15 : decode cX9_letsIn 15 = .ok (.getfield 9, 3) := by decide +kernel
theorem dX9_letsIn_18 : decode cX9_letsIn 18 = .ok (.iload_n 3, 1) := by decide +kernel
theorem dX9_letsIn_19 : decode cX9_letsIn 19 = .ok (.iconst 0, 1) := by decide +kernel
theorem dX9_letsIn_20 : decode cX9_letsIn 20 = .ok (.iadd, 1) := by decide +kernel
theorem dX9_letsIn_21 : decode cX9_letsIn 21 = .ok (.iload_n 1, 1) := by decide +kernel
theorem dX9_letsIn_22 : decode cX9_letsIn 22 = .ok (.iastore, 1) := by decide +kernel
theorem dX9_letsIn_23 : decode cX9_letsIn 23 = .ok (.aload_n 0, 1) := by decide +kernel
theorem dX9_letsIn_24 : decode cX9_letsIn 24 = .ok (.getfield 9, 3) := by decide +kernel
theorem dX9_letsIn_27 : decode cX9_letsIn 27 = .ok (.iload_n 3, 1) := by decide +kernel
theorem dX9_letsIn_28 : decode cX9_letsIn 28 = .ok (.iconst 1, 1) := by decide +kernel
theorem dX9_letsIn_29 : decode cX9_letsIn 29 = .ok (.iadd, 1) := by decide +kernel
theorem dX9_letsIn_30 : decode cX9_letsIn 30 = .ok (.aload_n 0, 1) := by decide +kernel
theorem dX9_letsIn_31 : decode cX9_letsIn 31 = .ok (.getfield 9, 3) := by decide +kernel
theorem dX9_letsIn_34 : decode cX9_letsIn 34 = .ok (.bipush 7, 2) := by decide +kernel
theorem dX9_letsIn_36 : decode cX9_letsIn 36 = .ok (.iaload, 1) := by decide +kernel
theorem dX9_letsIn_37 : decode cX9_letsIn 37 = .ok (.iastore, 1) := by decide +kernel
theorem dX9_letsIn_38 : decode cX9_letsIn 38 = .ok (.aload_n 0, 1) := by decide +kernel
theorem dX9_letsIn_39 : decode cX9_letsIn 39 = .ok (.getfield 9, 3) := by decide +kernel
theorem dX9_letsIn_42 : decode cX9_letsIn 42 = .ok (.iload_n 3, 1) := by decide +kernel
theorem dX9_letsIn_43 : decode cX9_letsIn 43 = .ok (.iconst 2, 1) := by decide +kernel
theorem dX9_letsIn_44 : decode cX9_letsIn 44 = .ok (.iadd, 1) := by decide +kernel
theorem dX9_letsIn_45 : decode cX9_letsIn 45 = .ok (.iload_n 2, 1) := by decide +kernel
theorem dX9_letsIn_46 : decode cX9_letsIn 46 = .ok (.invokestatic 99, 3) := by decide +kernel
theorem dX9_letsIn_49 : decode cX9_letsIn 49 = .ok (.iastore, 1) := by decide +kernel
theorem dX9_letsIn_50 : decode cX9_letsIn 50 = .ok (.aload_n 0, 1) := by decide +kernel
theorem dX9_letsIn_51 : decode cX9_letsIn 51 = .ok (.getfield 9, 3) := by decide +kernel
theorem dX9_letsIn_54 : decode cX9_letsIn 54 = .ok (.bipush 8, 2) := by decide +kernel
theorem dX9_letsIn_56 : decode cX9_letsIn 56 = .ok (.dup2, 1) := by decide +kernel
theorem dX9_letsIn_57 : decode cX9_letsIn 57 = .ok (.iaload, 1) := by decide +kernel
theorem dX9_letsIn_58 : decode cX9_letsIn 58 = .ok (.iconst 1, 1) := by decide +kernel
theorem dX9_letsIn_59 : decode cX9_letsIn 59 = .ok (.iadd, 1) := by decide +kernel
theorem dX9_letsIn_60 : decode cX9_letsIn 60 = .ok (.iastore, 1) := by decide +kernel
theorem dX9_letsIn_61 : decode cX9_letsIn 61 = .ok (.return_, 1) := by decide +kernel
theorem dX9_between_0 : decode cX9_between 0 = .ok (.iload_n 3, 1) := by decide +kernel
theorem dX9_between_1 : decode cX9_between 1 = .ok (.iload_n 2, 1) := by decide +kernel
theorem dX9_between_2 : decode cX9_between 2 = .ok (.if_icmp .lt 5, 3) := by decide +kernel
theorem dX9_between_5 : decode cX9_between 5 = .ok (.iconst 0, 1) := by decide +kernel
theorem dX9_between_6 : decode cX9_between 6 = .ok (.ireturn, 1) := by decide +kernel
theorem dX9_between_7 : decode cX9_between 7 = .ok (.aload_n 0, 1) := by decide +kernel
theorem dX9_between_8 : decode cX9_between 8 = .ok (.getfield 9, 3) := by decide +kernel
theorem dX9_between_11 : decode cX9_between 11 = .ok (.bipush 10, 2) := by decide +kernel
theorem dX9_between_13 : decode cX9_between 13 = .ok (.iconst 0, 1) := by decide +kernel
theorem dX9_between_14 : decode cX9_between 14 = .ok (.iastore, 1) := by decide +kernel
theorem dX9_between_15 : decode cX9_between 15 = .ok (.aload_n 0, 1) := by decide +kernel
theorem dX9_between_16 : decode cX9_between 16 = .ok (.iload_n 1, 1) := by decide +kernel
theorem dX9_between_17 : decode cX9_between 17 = .ok (.iconst 4, 1) := by decide +kernel
theorem dX9_between_18 : decode cX9_between 18 = .ok (.invokevirtual 67, 3) := by decide +kernel
theorem dX9_between_21 : decode cX9_between 21 = .ok (.iconst 1, 1) := by decide +kernel
theorem dX9_between_22 : decode cX9_between 22 = .ok (.if_icmp .ne 7, 3) := by decide +kernel
theorem dX9_between_25 : decode cX9_between 25 = .ok (.iconst 1, 1) := by decide +kernel
theorem dX9_between_26 : decode cX9_between 26 = .ok (.goto 4, 3) := by decide +kernel
theorem dX9_between_29 : decode cX9_between 29 = .ok (.iconst 2, 1) := by decide +kernel
theorem dX9_between_30 : decode cX9_between 30 = .ok (.ireturn, 1) := by decide +kernel
theorem dX9_aside_0 : decode cX9_aside 0 = .ok (.aload_n 0, 1) := by decide +kernel
theorem dX9_aside_1 : decode cX9_aside 1 = .ok (.getfield 9, 3) := by decide +kernel
theorem dX9_aside_4 : decode cX9_aside 4 = .ok (.iconst 0, 1) := by decide +kernel
theorem dX9_aside_5 : decode cX9_aside 5 = .ok (.aload_n 0, 1) := by decide +kernel
theorem dX9_aside_6 : decode cX9_aside 6 = .ok (.getfield 13, 3) := by decide +kernel
theorem dX9_aside_9 : decode cX9_aside 9 = .ok (.iconst 0, 1) := by decide +kernel
theorem dX9_aside_10 : decode cX9_aside 10 = .ok (.invokestatic 175, 3) := by decide +kernel
theorem dX9_aside_13 : decode cX9_aside 13 = .ok (.return_, 1) := by decide +kernel
theorem dX9_back_0 : decode cX9_back 0 = .ok (.aload_n 0, 1) := by decide +kernel
theorem dX9_back_1 : decode cX9_back 1 = .ok (.getfield 13, 3) := by decide +kernel
theorem dX9_back_4 : decode cX9_back 4 = .ok (.iconst 0, 1) := by decide +kernel
theorem dX9_back_5 : decode cX9_back 5 = .ok (.aload_n 0, 1) := by decide +kernel
theorem dX9_back_6 : decode cX9_back 6 = .ok (.getfield 9, 3) := by decide +kernel
theorem dX9_back_9 : decode cX9_back 9 = .ok (.iconst 0, 1) := by decide +kernel
theorem dX9_back_10 : decode cX9_back 10 = .ok (.invokestatic 175, 3) := by decide +kernel
theorem dX9_back_13 : decode cX9_back 13 = .ok (.iload_n 1, 1) := by decide +kernel
theorem dX9_back_14 : decode cX9_back 14 = .ok (.ireturn, 1) := by decide +kernel
theorem dX9_bytesIn_0 : decode cX9_bytesIn 0 = .ok (.iload_n 0, 1) := by decide +kernel
theorem dX9_bytesIn_1 : decode cX9_bytesIn 1 = .ok (.bipush 24, 2) := by decide +kernel
theorem dX9_bytesIn_3 : decode cX9_bytesIn 3 = .ok (.ishr, 1) := by decide +kernel
theorem dX9_bytesIn_4 : decode cX9_bytesIn 4 = .ok (.sipush 255, 3) := by decide +kernel
theorem dX9_bytesIn_7 : decode cX9_bytesIn 7 = .ok (.iand, 1) := by decide +kernel
theorem dX9_bytesIn_8 : decode cX9_bytesIn 8 = .ok (.ifCond .le 7, 3) := by decide +kernel
theorem dX9_bytesIn_11 : decode cX9_bytesIn 11 = .ok (.iconst 1, 1) := by decide +kernel
theorem dX9_bytesIn_12 : decode cX9_bytesIn 12 = .ok (.goto 4, 3) := by decide +kernel
theorem dX9_bytesIn_15 : decode cX9_bytesIn 15 = .ok (.iconst 0, 1) := by decide +kernel
theorem dX9_bytesIn_16 : decode cX9_bytesIn 16 = .ok (.invokestatic 99, 3) := by decide +kernel
theorem dX9_bytesIn_19 : decode cX9_bytesIn 19 = .ok (.iload_n 0, 1) := by decide +kernel
theorem dX9_bytesIn_20 : decode cX9_bytesIn 20 = .ok (.bipush 16, 2) := by decide +kernel
theorem dX9_bytesIn_22 : decode cX9_bytesIn 22 = .ok (.ishr, 1) := by decide +kernel
theorem dX9_bytesIn_23 : decode cX9_bytesIn 23 = .ok (.sipush 255, 3) := by decide +kernel
theorem dX9_bytesIn_26 : decode cX9_bytesIn 26 = .ok (.iand, 1) := by decide +kernel
theorem dX9_bytesIn_27 : decode cX9_bytesIn 27 = .ok (.ifCond .le 7, 3) := by decide +kernel
theorem dX9_bytesIn_30 : decode cX9_bytesIn 30 = .ok (.iconst 1, 1) := by decide +kernel
theorem dX9_bytesIn_31 : decode cX9_bytesIn 31 = .ok (.goto 4, 3) := by decide +kernel
theorem dX9_bytesIn_34 : decode cX9_bytesIn 34 = .ok (.iconst 0, 1) := by decide +kernel
theorem dX9_bytesIn_35 : decode cX9_bytesIn 35 = .ok (.invokestatic 99, 3) := by decide +kernel
theorem dX9_bytesIn_38 : decode cX9_bytesIn 38 = .ok (.iadd, 1) := by decide +kernel
theorem dX9_bytesIn_39 : decode cX9_bytesIn 39 = .ok (.iload_n 0, 1) := by decide +kernel
theorem dX9_bytesIn_40 : decode cX9_bytesIn 40 = .ok (.bipush 8, 2) := by decide +kernel
theorem dX9_bytesIn_42 : decode cX9_bytesIn 42 = .ok (.ishr, 1) := by decide +kernel
theorem dX9_bytesIn_43 : decode cX9_bytesIn 43 = .ok (.sipush 255, 3) := by decide +kernel
theorem dX9_bytesIn_46 : decode cX9_bytesIn 46 = .ok (.iand, 1) := by decide +kernel
theorem dX9_bytesIn_47 : decode cX9_bytesIn 47 = .ok (.ifCond .le 7, 3) := by decide +kernel
theorem dX9_bytesIn_50 : decode cX9_bytesIn 50 = .ok (.iconst 1, 1) := by decide +kernel
theorem dX9_bytesIn_51 : decode cX9_bytesIn 51 = .ok (.goto 4, 3) := by decide +kernel
theorem dX9_bytesIn_54 : decode cX9_bytesIn 54 = .ok (.iconst 0, 1) := by decide +kernel
theorem dX9_bytesIn_55 : decode cX9_bytesIn 55 = .ok (.invokestatic 99, 3) := by decide +kernel
theorem dX9_bytesIn_58 : decode cX9_bytesIn 58 = .ok (.iadd, 1) := by decide +kernel
theorem dX9_bytesIn_59 : decode cX9_bytesIn 59 = .ok (.iload_n 0, 1) := by decide +kernel
theorem dX9_bytesIn_60 : decode cX9_bytesIn 60 = .ok (.sipush 255, 3) := by decide +kernel
theorem dX9_bytesIn_63 : decode cX9_bytesIn 63 = .ok (.iand, 1) := by decide +kernel
theorem dX9_bytesIn_64 : decode cX9_bytesIn 64 = .ok (.ifCond .le 7, 3) := by decide +kernel
theorem dX9_bytesIn_67 : decode cX9_bytesIn 67 = .ok (.iconst 1, 1) := by decide +kernel
theorem dX9_bytesIn_68 : decode cX9_bytesIn 68 = .ok (.goto 4, 3) := by decide +kernel
theorem dX9_bytesIn_71 : decode cX9_bytesIn 71 = .ok (.iconst 0, 1) := by decide +kernel
theorem dX9_bytesIn_72 : decode cX9_bytesIn 72 = .ok (.invokestatic 99, 3) := by decide +kernel
theorem dX9_bytesIn_75 : decode cX9_bytesIn 75 = .ok (.iadd, 1) := by decide +kernel
theorem dX9_bytesIn_76 : decode cX9_bytesIn 76 = .ok (.ireturn, 1) := by decide +kernel
theorem dX9_isLetterAt_0 : decode cX9_isLetterAt 0 = .ok (.aload_n 0, 1) := by decide +kernel
theorem dX9_isLetterAt_1 : decode cX9_isLetterAt 1 = .ok (.iload_n 1, 1) := by decide +kernel
theorem dX9_isLetterAt_2 : decode cX9_isLetterAt 2 = .ok (.invokevirtual 188, 3) := by decide +kernel
theorem dX9_isLetterAt_5 : decode cX9_isLetterAt 5 = .ok (.bipush 97, 2) := by decide +kernel
theorem dX9_isLetterAt_7 : decode cX9_isLetterAt 7 = .ok (.bipush 122, 2) := by decide +kernel
theorem dX9_isLetterAt_9 : decode cX9_isLetterAt 9 = .ok (.invokestatic 63, 3) := by decide +kernel
theorem dX9_isLetterAt_12 : decode cX9_isLetterAt 12 = .ok (.ireturn, 1) := by decide +kernel
theorem dX9_isDigitAt_0 : decode cX9_isDigitAt 0 = .ok (.aload_n 0, 1) := by decide +kernel
theorem dX9_isDigitAt_1 : decode cX9_isDigitAt 1 = .ok (.iload_n 1, 1) := by decide +kernel
theorem dX9_isDigitAt_2 : decode cX9_isDigitAt 2 = .ok (.invokevirtual 188, 3) := by decide +kernel
theorem dX9_isDigitAt_5 : decode cX9_isDigitAt 5 = .ok (.bipush 48, 2) := by decide +kernel
theorem dX9_isDigitAt_7 : decode cX9_isDigitAt 7 = .ok (.bipush 57, 2) := by decide +kernel
theorem dX9_isDigitAt_9 : decode cX9_isDigitAt 9 = .ok (.invokestatic 63, 3) := by decide +kernel
theorem dX9_isDigitAt_12 : decode cX9_isDigitAt 12 = .ok (.ireturn, 1) := by decide +kernel
theorem dX9_isName_0 : decode cX9_isName 0 = .ok (.bipush 16, 2) := by decide +kernel
theorem dX9_isName_2 : decode cX9_isName 2 = .ok (.bipush 26, 2) := by decide +kernel
theorem dX9_isName_4 : decode cX9_isName 4 = .ok (.iload_n 1, 1) := by decide +kernel
theorem dX9_isName_5 : decode cX9_isName 5 = .ok (.imul, 1) := by decide +kernel
theorem dX9_isName_6 : decode cX9_isName 6 = .ok (.iadd, 1) := by decide +kernel
theorem dX9_isName_7 : decode cX9_isName 7 = .ok (.bipush 9, 2) := by decide +kernel
theorem dX9_isName_9 : decode cX9_isName 9 = .ok (.iadd, 1) := by decide +kernel
theorem dX9_isName_10 : decode cX9_isName 10 = .ok (.istore_n 2, 1) := by decide +kernel
theorem dX9_isName_11 : decode cX9_isName 11 = .ok (.aload_n 0, 1) := by decide +kernel
theorem dX9_isName_12 : decode cX9_isName 12 = .ok (.getfield 9, 3) := by decide +kernel
theorem dX9_isName_15 : decode cX9_isName 15 = .ok (.iload_n 2, 1) := by decide +kernel
theorem dX9_isName_16 : decode cX9_isName 16 = .ok (.iaload, 1) := by decide +kernel
theorem dX9_isName_17 : decode cX9_isName 17 = .ok (.aload_n 0, 1) := by decide +kernel
theorem dX9_isName_18 : decode cX9_isName 18 = .ok (.invokevirtual 216, 3) := by decide +kernel
theorem dX9_isName_21 : decode cX9_isName 21 = .ok (.if_icmp .eq 5, 3) := by decide +kernel
theorem dX9_isName_24 : decode cX9_isName 24 = .ok (.iconst 0, 1) := by decide +kernel
theorem dX9_isName_25 : decode cX9_isName 25 = .ok (.ireturn, 1) := by decide +kernel
theorem dX9_isName_26 : decode cX9_isName 26 = .ok (.iconst 0, 1) := by decide +kernel
theorem dX9_isName_27 : decode cX9_isName 27 = .ok (.istore_n 3, 1) := by decide +kernel
theorem dX9_isName_28 : decode cX9_isName 28 = .ok (.iload_n 3, 1) := by decide +kernel
theorem dX9_isName_29 : decode cX9_isName 29 = .ok (.aload_n 0, 1) := by decide +kernel
theorem dX9_isName_30 : decode cX9_isName 30 = .ok (.invokevirtual 216, 3) := by decide +kernel
theorem dX9_isName_33 : decode cX9_isName 33 = .ok (.if_icmp .ge 35, 3) := by decide +kernel
theorem dX9_isName_36 : decode cX9_isName 36 = .ok (.aload_n 0, 1) := by decide +kernel
theorem dX9_isName_37 : decode cX9_isName 37 = .ok (.getfield 9, 3) := by decide +kernel
theorem dX9_isName_40 : decode cX9_isName 40 = .ok (.iload_n 2, 1) := by decide +kernel
theorem dX9_isName_41 : decode cX9_isName 41 = .ok (.iconst 1, 1) := by decide +kernel
theorem dX9_isName_42 : decode cX9_isName 42 = .ok (.iadd, 1) := by decide +kernel
theorem dX9_isName_43 : decode cX9_isName 43 = .ok (.iload_n 3, 1) := by decide +kernel
theorem dX9_isName_44 : decode cX9_isName 44 = .ok (.iadd, 1) := by decide +kernel
theorem dX9_isName_45 : decode cX9_isName 45 = .ok (.iaload, 1) := by decide +kernel
theorem dX9_isName_46 : decode cX9_isName 46 = .ok (.aload_n 0, 1) := by decide +kernel
theorem dX9_isName_47 : decode cX9_isName 47 = .ok (.getfield 29, 3) := by decide +kernel
theorem dX9_isName_50 : decode cX9_isName 50 = .ok (.aload_n 0, 1) := by decide +kernel
theorem dX9_isName_51 : decode cX9_isName 51 = .ok (.getfield 194, 3) := by decide +kernel
theorem dX9_isName_54 : decode cX9_isName 54 = .ok (.iload_n 3, 1) := by decide +kernel
theorem dX9_isName_55 : decode cX9_isName 55 = .ok (.iadd, 1) := by decide +kernel
theorem dX9_isName_56 : decode cX9_isName 56 = .ok (.iaload, 1) := by decide +kernel
theorem dX9_isName_57 : decode cX9_isName 57 = .ok (.if_icmp .eq 5, 3) := by decide +kernel
theorem dX9_isName_60 : decode cX9_isName 60 = .ok (.iconst 0, 1) := by decide +kernel
theorem dX9_isName_61 : decode cX9_isName 61 = .ok (.ireturn, 1) := by decide +kernel
theorem dX9_isName_62 : decode cX9_isName 62 = .ok (.iinc 3 1, 3) := by decide +kernel
theorem dX9_isName_65 : decode cX9_isName 65 = .ok (.goto (-37), 3) := by decide +kernel
theorem dX9_isName_68 : decode cX9_isName 68 = .ok (.iconst 1, 1) := by decide +kernel
theorem dX9_isName_69 : decode cX9_isName 69 = .ok (.ireturn, 1) := by decide +kernel
theorem dX9_noName_0 : decode cX9_noName 0 = .ok (.aload_n 0, 1) := by decide +kernel
theorem dX9_noName_1 : decode cX9_noName 1 = .ok (.aload_n 0, 1) := by decide +kernel
theorem dX9_noName_2 : decode cX9_noName 2 = .ok (.getfield 200, 3) := by decide +kernel
theorem dX9_noName_5 : decode cX9_noName 5 = .ok (.iconst 1, 1) := by decide +kernel
theorem dX9_noName_6 : decode cX9_noName 6 = .ok (.if_icmp .ne 12, 3) := by decide +kernel
theorem dX9_noName_9 : decode cX9_noName 9 = .ok (.aload_n 0, 1) := by decide +kernel
theorem dX9_noName_10 : decode cX9_noName 10 = .ok (.invokevirtual 216, 3) := by decide +kernel
theorem dX9_noName_13 : decode cX9_noName 13 = .ok (.bipush 8, 2) := by decide +kernel
theorem dX9_noName_15 : decode cX9_noName 15 = .ok (.if_icmp .le 7, 3) := by decide +kernel
theorem dX9_noName_18 : decode cX9_noName 18 = .ok (.iconst 1, 1) := by decide +kernel
theorem dX9_noName_19 : decode cX9_noName 19 = .ok (.goto 4, 3) := by decide +kernel
theorem dX9_noName_22 : decode cX9_noName 22 = .ok (.iconst 0, 1) := by decide +kernel
theorem dX9_noName_23 : decode cX9_noName 23 = .ok (.iconst 1, 1) := by decide +kernel
theorem dX9_noName_24 : decode cX9_noName 24 = .ok (.invokevirtual 229, 3) := by decide +kernel
theorem dX9_noName_27 : decode cX9_noName 27 = .ok (.ireturn, 1) := by decide +kernel
theorem dX9_onMany_0 : decode cX9_onMany 0 = .ok (.iconst 0, 1) := by decide +kernel
theorem dX9_onMany_1 : decode cX9_onMany 1 = .ok (.istore_n 1, 1) := by decide +kernel
theorem dX9_onMany_2 : decode cX9_onMany 2 = .ok (.iconst 0, 1) := by decide +kernel
theorem dX9_onMany_3 : decode cX9_onMany 3 = .ok (.istore_n 2, 1) := by decide +kernel
theorem dX9_onMany_4 : decode cX9_onMany 4 = .ok (.iload_n 2, 1) := by decide +kernel
theorem dX9_onMany_5 : decode cX9_onMany 5 = .ok (.aload_n 0, 1) := by decide +kernel
theorem dX9_onMany_6 : decode cX9_onMany 6 = .ok (.getfield 9, 3) := by decide +kernel
theorem dX9_onMany_9 : decode cX9_onMany 9 = .ok (.bipush 11, 2) := by decide +kernel
theorem dX9_onMany_11 : decode cX9_onMany 11 = .ok (.iaload, 1) := by decide +kernel
theorem dX9_onMany_12 : decode cX9_onMany 12 = .ok (.if_icmp .ge 18, 3) := by decide +kernel
theorem dX9_onMany_15 : decode cX9_onMany 15 = .ok (.iload_n 1, 1) := by decide +kernel
theorem dX9_onMany_16 : decode cX9_onMany 16 = .ok (.aload_n 0, 1) := by decide +kernel
theorem dX9_onMany_17 : decode cX9_onMany 17 = .ok (.iload_n 2, 1) := by decide +kernel
theorem dX9_onMany_18 : decode cX9_onMany 18 = .ok (.iconst 5, 1) := by decide +kernel
theorem dX9_onMany_19 : decode cX9_onMany 19 = .ok (.invokevirtual 67, 3) := by decide +kernel
theorem dX9_onMany_22 : decode cX9_onMany 22 = .ok (.iadd, 1) := by decide +kernel
theorem dX9_onMany_23 : decode cX9_onMany 23 = .ok (.istore_n 1, 1) := by decide +kernel
theorem dX9_onMany_24 : decode cX9_onMany 24 = .ok (.iinc 2 1, 3) := by decide +kernel
theorem dX9_onMany_27 : decode cX9_onMany 27 = .ok (.goto (-23), 3) := by decide +kernel
theorem dX9_onMany_30 : decode cX9_onMany 30 = .ok (.iload_n 1, 1) := by decide +kernel
theorem dX9_onMany_31 : decode cX9_onMany 31 = .ok (.ireturn, 1) := by decide +kernel
theorem dX9_queuedOf_0 : decode cX9_queuedOf 0 = .ok (.iconst 0, 1) := by decide +kernel
theorem dX9_queuedOf_1 : decode cX9_queuedOf 1 = .ok (.istore_n 2, 1) := by decide +kernel
theorem dX9_queuedOf_2 : decode cX9_queuedOf 2 = .ok (.iconst 0, 1) := by decide +kernel
theorem dX9_queuedOf_3 : decode cX9_queuedOf 3 = .ok (.istore_n 3, 1) := by decide +kernel
theorem dX9_queuedOf_4 : decode cX9_queuedOf 4 = .ok (.iload_n 3, 1) := by decide +kernel
theorem dX9_queuedOf_5 : decode cX9_queuedOf 5 = .ok (.aload_n 0, 1) := by decide +kernel
theorem dX9_queuedOf_6 : decode cX9_queuedOf 6 = .ok (.getfield 9, 3) := by decide +kernel
theorem dX9_queuedOf_9 : decode cX9_queuedOf 9 = .ok (.bipush 8, 2) := by decide +kernel
theorem dX9_queuedOf_11 : decode cX9_queuedOf 11 = .ok (.iaload, 1) := by decide +kernel
theorem dX9_queuedOf_12 : decode cX9_queuedOf 12 = .ok (.if_icmp .ge 30, 3) := by decide +kernel
theorem dX9_queuedOf_15 : decode cX9_queuedOf 15 = .ok (.iload_n 2, 1) := by decide +kernel
theorem dX9_queuedOf_16 : decode cX9_queuedOf 16 = .ok (.aload_n 0, 1) := by decide +kernel
theorem dX9_queuedOf_17 : decode cX9_queuedOf 17 = .ok (.iload_n 3, 1) := by decide +kernel
theorem dX9_queuedOf_18 : decode cX9_queuedOf 18 = .ok (.iconst 0, 1) := by decide +kernel
theorem dX9_queuedOf_19 : decode cX9_queuedOf 19 = .ok (.invokevirtual 159, 3) := by decide +kernel
theorem dX9_queuedOf_22 : decode cX9_queuedOf 22 = .ok (.iload_n 1, 1) := by decide +kernel
theorem dX9_queuedOf_23 : decode cX9_queuedOf 23 = .ok (.if_icmp .ne 7, 3) := by decide +kernel
theorem dX9_queuedOf_26 : decode cX9_queuedOf 26 = .ok (.iconst 1, 1) := by decide +kernel
theorem dX9_queuedOf_27 : decode cX9_queuedOf 27 = .ok (.goto 4, 3) := by decide +kernel
theorem dX9_queuedOf_30 : decode cX9_queuedOf 30 = .ok (.iconst 0, 1) := by decide +kernel
theorem dX9_queuedOf_31 : decode cX9_queuedOf 31 = .ok (.invokestatic 99, 3) := by decide +kernel
theorem dX9_queuedOf_34 : decode cX9_queuedOf 34 = .ok (.iadd, 1) := by decide +kernel
theorem dX9_queuedOf_35 : decode cX9_queuedOf 35 = .ok (.istore_n 2, 1) := by decide +kernel
theorem dX9_queuedOf_36 : decode cX9_queuedOf 36 = .ok (.iinc 3 1, 3) := by decide +kernel
theorem dX9_queuedOf_39 : decode cX9_queuedOf 39 = .ok (.goto (-35), 3) := by decide +kernel
theorem dX9_queuedOf_42 : decode cX9_queuedOf 42 = .ok (.iload_n 2, 1) := by decide +kernel
theorem dX9_queuedOf_43 : decode cX9_queuedOf 43 = .ok (.ireturn, 1) := by decide +kernel
theorem dX9_packet_0 : decode cX9_packet 0 = .ok (.aload_n 0, 1) := by decide +kernel
theorem dX9_packet_1 : decode cX9_packet 1 = .ok (.iconst 0, 1) := by decide +kernel
theorem dX9_packet_2 : decode cX9_packet 2 = .ok (.putfield 60, 3) := by decide +kernel
theorem dX9_packet_5 : decode cX9_packet 5 = .ok (.aload_n 0, 1) := by decide +kernel
theorem dX9_packet_6 : decode cX9_packet 6 = .ok (.iload_n 1, 1) := by decide +kernel
theorem dX9_packet_7 : decode cX9_packet 7 = .ok (.iconst 0, 1) := by decide +kernel
theorem dX9_packet_8 : decode cX9_packet 8 = .ok (.aload_n 0, 1) := by decide +kernel
theorem dX9_packet_9 : decode cX9_packet 9 = .ok (.getfield 9, 3) := by decide +kernel
theorem dX9_packet_12 : decode cX9_packet 12 = .ok (.bipush 8, 2) := by decide +kernel
theorem dX9_packet_14 : decode cX9_packet 14 = .ok (.iaload, 1) := by decide +kernel
theorem dX9_packet_15 : decode cX9_packet 15 = .ok (.iconst 1, 1) := by decide +kernel
theorem dX9_packet_16 : decode cX9_packet 16 = .ok (.isub, 1) := by decide +kernel
theorem dX9_packet_17 : decode cX9_packet 17 = .ok (.invokestatic 63, 3) := by decide +kernel
theorem dX9_packet_20 : decode cX9_packet 20 = .ok (.ifCond .ne 7, 3) := by decide +kernel
theorem dX9_packet_23 : decode cX9_packet 23 = .ok (.iconst 1, 1) := by decide +kernel
theorem dX9_packet_24 : decode cX9_packet 24 = .ok (.goto 4, 3) := by decide +kernel
theorem dX9_packet_27 : decode cX9_packet 27 = .ok (.iconst 0, 1) := by decide +kernel
theorem dX9_packet_28 : decode cX9_packet 28 = .ok (.iconst 1, 1) := by decide +kernel
theorem dX9_packet_29 : decode cX9_packet 29 = .ok (.invokevirtual 366, 3) := by decide +kernel
theorem dX9_packet_32 : decode cX9_packet 32 = .ok (.ifCond .ne 25, 3) := by decide +kernel
theorem dX9_packet_35 : decode cX9_packet 35 = .ok (.aload_n 0, 1) := by decide +kernel
theorem dX9_packet_36 : decode cX9_packet 36 = .ok (.iload_n 2, 1) := by decide +kernel
theorem dX9_packet_37 : decode cX9_packet 37 = .ok (.iconst 0, 1) := by decide +kernel
theorem dX9_packet_38 : decode cX9_packet 38 = .ok (.iconst 2, 1) := by decide +kernel
theorem dX9_packet_39 : decode cX9_packet 39 = .ok (.invokestatic 63, 3) := by decide +kernel
theorem dX9_packet_42 : decode cX9_packet 42 = .ok (.ifCond .ne 7, 3) := by decide +kernel
theorem dX9_packet_45 : decode cX9_packet 45 = .ok (.iconst 1, 1) := by decide +kernel
theorem dX9_packet_46 : decode cX9_packet 46 = .ok (.goto 4, 3) := by decide +kernel
theorem dX9_packet_49 : decode cX9_packet 49 = .ok (.iconst 0, 1) := by decide +kernel
theorem dX9_packet_50 : decode cX9_packet 50 = .ok (.iconst 2, 1) := by decide +kernel
theorem dX9_packet_51 : decode cX9_packet 51 = .ok (.invokevirtual 366, 3) := by decide +kernel
theorem dX9_packet_54 : decode cX9_packet 54 = .ok (.ifCond .eq 7, 3) := by decide +kernel
theorem dX9_packet_57 : decode cX9_packet 57 = .ok (.iconst 0, 1) := by decide +kernel
theorem dX9_packet_58 : decode cX9_packet 58 = .ok (.goto 9, 3) := by decide +kernel
theorem dX9_packet_61 : decode cX9_packet 61 = .ok (.aload_n 0, 1) := by decide +kernel
theorem dX9_packet_62 : decode cX9_packet 62 = .ok (.iload_n 1, 1) := by decide +kernel
theorem dX9_packet_63 : decode cX9_packet 63 = .ok (.iload_n 2, 1) := by decide +kernel
theorem dX9_packet_64 : decode cX9_packet 64 = .ok (.invokevirtual 159, 3) := by decide +kernel
theorem dX9_packet_67 : decode cX9_packet 67 = .ok (.ireturn, 1) := by decide +kernel
theorem dX9_noAccount_0 : decode cX9_noAccount 0 = .ok (.aload_n 0, 1) := by decide +kernel
theorem dX9_noAccount_1 : decode cX9_noAccount 1 = .ok (.iload_n 1, 1) := by decide +kernel
theorem dX9_noAccount_2 : decode cX9_noAccount 2 = .ok (.iconst 0, 1) := by decide +kernel
theorem dX9_noAccount_3 : decode cX9_noAccount 3 = .ok (.bipush 7, 2) := by decide +kernel
theorem dX9_noAccount_5 : decode cX9_noAccount 5 = .ok (.invokestatic 63, 3) := by decide +kernel
theorem dX9_noAccount_8 : decode cX9_noAccount 8 = .ok (.ifCond .ne 7, 3) := by decide +kernel
theorem dX9_noAccount_11 : decode cX9_noAccount 11 = .ok (.iconst 1, 1) := by decide +kernel
theorem dX9_noAccount_12 : decode cX9_noAccount 12 = .ok (.goto 4, 3) := by decide +kernel
theorem dX9_noAccount_15 : decode cX9_noAccount 15 = .ok (.iconst 0, 1) := by decide +kernel
theorem dX9_noAccount_16 : decode cX9_noAccount 16 = .ok (.iconst 2, 1) := by decide +kernel
theorem dX9_noAccount_17 : decode cX9_noAccount 17 = .ok (.invokevirtual 366, 3) := by decide +kernel
theorem dX9_noAccount_20 : decode cX9_noAccount 20 = .ok (.ireturn, 1) := by decide +kernel
theorem dX9_decision_0 : decode cX9_decision 0 = .ok (.aload_n 0, 1) := by decide +kernel
theorem dX9_decision_1 : decode cX9_decision 1 = .ok (.iconst 0, 1) := by decide +kernel
theorem dX9_decision_2 : decode cX9_decision 2 = .ok (.putfield 60, 3) := by decide +kernel
theorem dX9_decision_5 : decode cX9_decision 5 = .ok (.aload_n 0, 1) := by decide +kernel
theorem dX9_decision_6 : decode cX9_decision 6 = .ok (.iload_n 1, 1) := by decide +kernel
theorem dX9_decision_7 : decode cX9_decision 7 = .ok (.iconst 0, 1) := by decide +kernel
theorem dX9_decision_8 : decode cX9_decision 8 = .ok (.aload_n 0, 1) := by decide +kernel
theorem dX9_decision_9 : decode cX9_decision 9 = .ok (.getfield 9, 3) := by decide +kernel
theorem dX9_decision_12 : decode cX9_decision 12 = .ok (.bipush 12, 2) := by decide +kernel
theorem dX9_decision_14 : decode cX9_decision 14 = .ok (.iaload, 1) := by decide +kernel
theorem dX9_decision_15 : decode cX9_decision 15 = .ok (.iconst 1, 1) := by decide +kernel
theorem dX9_decision_16 : decode cX9_decision 16 = .ok (.isub, 1) := by decide +kernel
theorem dX9_decision_17 : decode cX9_decision 17 = .ok (.invokestatic 63, 3) := by decide +kernel
theorem dX9_decision_20 : decode cX9_decision 20 = .ok (.ifCond .ne 7, 3) := by decide +kernel
theorem dX9_decision_23 : decode cX9_decision 23 = .ok (.iconst 1, 1) := by decide +kernel
theorem dX9_decision_24 : decode cX9_decision 24 = .ok (.goto 4, 3) := by decide +kernel
theorem dX9_decision_27 : decode cX9_decision 27 = .ok (.iconst 0, 1) := by decide +kernel
theorem dX9_decision_28 : decode cX9_decision 28 = .ok (.iconst 1, 1) := by decide +kernel
theorem dX9_decision_29 : decode cX9_decision 29 = .ok (.invokevirtual 366, 3) := by decide +kernel
theorem dX9_decision_32 : decode cX9_decision 32 = .ok (.ifCond .ne 26, 3) := by decide +kernel
theorem dX9_decision_35 : decode cX9_decision 35 = .ok (.aload_n 0, 1) := by decide +kernel
theorem dX9_decision_36 : decode cX9_decision 36 = .ok (.iload_n 2, 1) := by decide +kernel
theorem dX9_decision_37 : decode cX9_decision 37 = .ok (.iconst 0, 1) := by decide +kernel
theorem dX9_decision_38 : decode cX9_decision 38 = .ok (.bipush 7, 2) := by decide +kernel
theorem dX9_decision_40 : decode cX9_decision 40 = .ok (.invokestatic 63, 3) := by decide +kernel
theorem dX9_decision_43 : decode cX9_decision 43 = .ok (.ifCond .ne 7, 3) := by decide +kernel
theorem dX9_decision_46 : decode cX9_decision 46 = .ok (.iconst 1, 1) := by decide +kernel
theorem dX9_decision_47 : decode cX9_decision 47 = .ok (.goto 4, 3) := by decide +kernel
theorem dX9_decision_50 : decode cX9_decision 50 = .ok (.iconst 0, 1) := by decide +kernel
theorem dX9_decision_51 : decode cX9_decision 51 = .ok (.iconst 2, 1) := by decide +kernel
theorem dX9_decision_52 : decode cX9_decision 52 = .ok (.invokevirtual 366, 3) := by decide +kernel
theorem dX9_decision_55 : decode cX9_decision 55 = .ok (.ifCond .eq 7, 3) := by decide +kernel
theorem dX9_decision_58 : decode cX9_decision 58 = .ok (.iconst 0, 1) := by decide +kernel
theorem dX9_decision_59 : decode cX9_decision 59 = .ok (.goto 9, 3) := by decide +kernel
theorem dX9_decision_62 : decode cX9_decision 62 = .ok (.aload_n 0, 1) := by decide +kernel
theorem dX9_decision_63 : decode cX9_decision 63 = .ok (.iload_n 1, 1) := by decide +kernel
theorem dX9_decision_64 : decode cX9_decision 64 = .ok (.iload_n 2, 1) := by decide +kernel
theorem dX9_decision_65 : decode cX9_decision 65 = .ok (.invokevirtual 390, 3) := by decide +kernel
theorem dX9_decision_68 : decode cX9_decision 68 = .ok (.ireturn, 1) := by decide +kernel
theorem dX9_amiss_0 : decode cX9_amiss 0 = .ok (.aload_n 0, 1) := by decide +kernel
theorem dX9_amiss_1 : decode cX9_amiss 1 = .ok (.iconst 0, 1) := by decide +kernel
theorem dX9_amiss_2 : decode cX9_amiss 2 = .ok (.putfield 60, 3) := by decide +kernel
theorem dX9_amiss_5 : decode cX9_amiss 5 = .ok (.iconst 0, 1) := by decide +kernel
theorem dX9_amiss_6 : decode cX9_amiss 6 = .ok (.istore_n 1, 1) := by decide +kernel
theorem dX9_amiss_7 : decode cX9_amiss 7 = .ok (.iconst 0, 1) := by decide +kernel
theorem dX9_amiss_8 : decode cX9_amiss 8 = .ok (.istore_n 2, 1) := by decide +kernel
theorem dX9_amiss_9 : decode cX9_amiss 9 = .ok (.iload_n 2, 1) := by decide +kernel
theorem dX9_amiss_10 : decode cX9_amiss 10 = .ok (.aload_n 0, 1) := by decide +kernel
theorem dX9_amiss_11 : decode cX9_amiss 11 = .ok (.getfield 9, 3) := by decide +kernel
theorem dX9_amiss_14 : decode cX9_amiss 14 = .ok (.bipush 12, 2) := by decide +kernel
theorem dX9_amiss_16 : decode cX9_amiss 16 = .ok (.iaload, 1) := by decide +kernel
theorem dX9_amiss_17 : decode cX9_amiss 17 = .ok (.if_icmp .ge 69, 3) := by decide +kernel
theorem dX9_amiss_20 : decode cX9_amiss 20 = .ok (.iload_n 1, 1) := by decide +kernel
theorem dX9_amiss_21 : decode cX9_amiss 21 = .ok (.aload_n 0, 1) := by decide +kernel
theorem dX9_amiss_22 : decode cX9_amiss 22 = .ok (.iload_n 2, 1) := by decide +kernel
theorem dX9_amiss_23 : decode cX9_amiss 23 = .ok (.iconst 2, 1) := by decide +kernel
theorem dX9_amiss_24 : decode cX9_amiss 24 = .ok (.invokevirtual 390, 3) := by decide +kernel
theorem dX9_amiss_27 : decode cX9_amiss 27 = .ok (.iconst 3, 1) := by decide +kernel
theorem dX9_amiss_28 : decode cX9_amiss 28 = .ok (.if_icmp .ne 46, 3) := by decide +kernel
theorem dX9_amiss_31 : decode cX9_amiss 31 = .ok (.aload_n 0, 1) := by decide +kernel
theorem dX9_amiss_32 : decode cX9_amiss 32 = .ok (.iload_n 2, 1) := by decide +kernel
theorem dX9_amiss_33 : decode cX9_amiss 33 = .ok (.bipush 6, 2) := by decide +kernel
theorem dX9_amiss_35 : decode cX9_amiss 35 = .ok (.invokevirtual 390, 3) := by decide +kernel
theorem dX9_amiss_38 : decode cX9_amiss 38 = .ok (.aload_n 0, 1) := by decide +kernel
theorem dX9_amiss_39 : decode cX9_amiss 39 = .ok (.iload_n 2, 1) := by decide +kernel
theorem dX9_amiss_40 : decode cX9_amiss 40 = .ok (.iconst 5, 1) := by decide +kernel
theorem dX9_amiss_41 : decode cX9_amiss 41 = .ok (.invokevirtual 390, 3) := by decide +kernel
theorem dX9_amiss_44 : decode cX9_amiss 44 = .ok (.if_icmp .ge 7, 3) := by decide +kernel
theorem dX9_amiss_47 : decode cX9_amiss 47 = .ok (.iconst 1, 1) := by decide +kernel
theorem dX9_amiss_48 : decode cX9_amiss 48 = .ok (.goto 4, 3) := by decide +kernel
theorem dX9_amiss_51 : decode cX9_amiss 51 = .ok (.iconst 0, 1) := by decide +kernel
theorem dX9_amiss_52 : decode cX9_amiss 52 = .ok (.aload_n 0, 1) := by decide +kernel
theorem dX9_amiss_53 : decode cX9_amiss 53 = .ok (.iload_n 2, 1) := by decide +kernel
theorem dX9_amiss_54 : decode cX9_amiss 54 = .ok (.bipush 7, 2) := by decide +kernel
theorem dX9_amiss_56 : decode cX9_amiss 56 = .ok (.invokevirtual 390, 3) := by decide +kernel
theorem dX9_amiss_59 : decode cX9_amiss 59 = .ok (.ifCond .eq 7, 3) := by decide +kernel
theorem dX9_amiss_62 : decode cX9_amiss 62 = .ok (.iconst 1, 1) := by decide +kernel
theorem dX9_amiss_63 : decode cX9_amiss 63 = .ok (.goto 4, 3) := by decide +kernel
theorem dX9_amiss_66 : decode cX9_amiss 66 = .ok (.iconst 0, 1) := by decide +kernel
theorem dX9_amiss_67 : decode cX9_amiss 67 = .ok (.if_icmp .eq 7, 3) := by decide +kernel
theorem dX9_amiss_70 : decode cX9_amiss 70 = .ok (.iconst 1, 1) := by decide +kernel
theorem dX9_amiss_71 : decode cX9_amiss 71 = .ok (.goto 4, 3) := by decide +kernel
theorem dX9_amiss_74 : decode cX9_amiss 74 = .ok (.iconst 0, 1) := by decide +kernel
theorem dX9_amiss_75 : decode cX9_amiss 75 = .ok (.invokestatic 99, 3) := by decide +kernel
theorem dX9_amiss_78 : decode cX9_amiss 78 = .ok (.iadd, 1) := by decide +kernel
theorem dX9_amiss_79 : decode cX9_amiss 79 = .ok (.istore_n 1, 1) := by decide +kernel
theorem dX9_amiss_80 : decode cX9_amiss 80 = .ok (.iinc 2 1, 3) := by decide +kernel
theorem dX9_amiss_83 : decode cX9_amiss 83 = .ok (.goto (-74), 3) := by decide +kernel
theorem dX9_amiss_86 : decode cX9_amiss 86 = .ok (.iload_n 1, 1) := by decide +kernel
theorem dX9_amiss_87 : decode cX9_amiss 87 = .ok (.ireturn, 1) := by decide +kernel
theorem dX9_noTicks_0 : decode cX9_noTicks 0 = .ok (.aload_n 0, 1) := by decide +kernel
theorem dX9_noTicks_1 : decode cX9_noTicks 1 = .ok (.iload_n 1, 1) := by decide +kernel
theorem dX9_noTicks_2 : decode cX9_noTicks 2 = .ok (.iload_n 2, 1) := by decide +kernel
theorem dX9_noTicks_3 : decode cX9_noTicks 3 = .ok (.iload_n 3, 1) := by decide +kernel
theorem dX9_noTicks_4 : decode cX9_noTicks 4 = .ok (.invokestatic 63, 3) := by decide +kernel
theorem dX9_noTicks_7 : decode cX9_noTicks 7 = .ok (.ifCond .ne 7, 3) := by decide +kernel
theorem dX9_noTicks_10 : decode cX9_noTicks 10 = .ok (.iconst 1, 1) := by decide +kernel
theorem dX9_noTicks_11 : decode cX9_noTicks 11 = .ok (.goto 4, 3) := by decide +kernel
theorem dX9_noTicks_14 : decode cX9_noTicks 14 = .ok (.iconst 0, 1) := by decide +kernel
theorem dX9_noTicks_15 : decode cX9_noTicks 15 = .ok (.iload 4, 2) := by decide +kernel
theorem dX9_noTicks_17 : decode cX9_noTicks 17 = .ok (.invokevirtual 366, 3) := by decide +kernel
theorem dX9_noTicks_20 : decode cX9_noTicks 20 = .ok (.ireturn, 1) := by decide +kernel
theorem dX9_remembers_0 : decode cX9_remembers 0 = .ok (.aload_n 0, 1) := by decide +kernel
theorem dX9_remembers_1 : decode cX9_remembers 1 = .ok (.getfield 298, 3) := by decide +kernel
theorem dX9_remembers_4 : decode cX9_remembers 4 = .ok (.bipush 8, 2) := by decide +kernel
theorem dX9_remembers_6 : decode cX9_remembers 6 = .ok (.if_icmp .ne 44, 3) := by decide +kernel
theorem dX9_remembers_9 : decode cX9_remembers 9 = .ok (.iconst 0, 1) := by decide +kernel
theorem dX9_remembers_10 : decode cX9_remembers 10 = .ok (.istore_n 2, 1) := by decide +kernel
theorem dX9_remembers_11 : decode cX9_remembers 11 = .ok (.iload_n 2, 1) := by decide +kernel
theorem dX9_remembers_12 : decode cX9_remembers 12 = .ok (.sipush 3388, 3) := by decide +kernel
theorem dX9_remembers_15 : decode cX9_remembers 15 = .ok (.if_icmp .ge 25, 3) := by decide +kernel
theorem dX9_remembers_18 : decode cX9_remembers 18 = .ok (.aload_n 0, 1) := by decide +kernel
theorem dX9_remembers_19 : decode cX9_remembers 19 = .ok (.getfield 19, 3) := by decide +kernel
theorem dX9_remembers_22 : decode cX9_remembers 22 = .ok (.iload_n 2, 1) := by decide +kernel
theorem dX9_remembers_23 : decode cX9_remembers 23 = .ok (.aload_n 0, 1) := by decide +kernel
theorem dX9_remembers_24 : decode cX9_remembers 24 = .ok (.getfield 19, 3) := by decide +kernel
theorem dX9_remembers_27 : decode cX9_remembers 27 = .ok (.iload_n 2, 1) := by decide +kernel
theorem dX9_remembers_28 : decode cX9_remembers 28 = .ok (.sipush 484, 3) := by decide +kernel
theorem dX9_remembers_31 : decode cX9_remembers 31 = .ok (.iadd, 1) := by decide +kernel
theorem dX9_remembers_32 : decode cX9_remembers 32 = .ok (.iaload, 1) := by decide +kernel
theorem dX9_remembers_33 : decode cX9_remembers 33 = .ok (.iastore, 1) := by decide +kernel
theorem dX9_remembers_34 : decode cX9_remembers 34 = .ok (.iinc 2 1, 3) := by decide +kernel
theorem dX9_remembers_37 : decode cX9_remembers 37 = .ok (.goto (-26), 3) := by decide +kernel
theorem dX9_remembers_40 : decode cX9_remembers 40 = .ok (.aload_n 0, 1) := by decide +kernel
theorem dX9_remembers_41 : decode cX9_remembers 41 = .ok (.dup, 1) := by decide +kernel
theorem dX9_remembers_42 : decode cX9_remembers 42 = .ok (.getfield 298, 3) := by decide +kernel
theorem dX9_remembers_45 : decode cX9_remembers 45 = .ok (.iconst 1, 1) := by decide +kernel
theorem dX9_remembers_46 : decode cX9_remembers 46 = .ok (.isub, 1) := by decide +kernel
theorem dX9_remembers_47 : decode cX9_remembers 47 = .ok (.putfield 298, 3) := by decide +kernel
theorem dX9_remembers_50 : decode cX9_remembers 50 = .ok (.aload_n 1, 1) := by decide +kernel
theorem dX9_remembers_51 : decode cX9_remembers 51 = .ok (.iconst 0, 1) := by decide +kernel
theorem dX9_remembers_52 : decode cX9_remembers 52 = .ok (.aload_n 0, 1) := by decide +kernel
theorem dX9_remembers_53 : decode cX9_remembers 53 = .ok (.getfield 19, 3) := by decide +kernel
theorem dX9_remembers_56 : decode cX9_remembers 56 = .ok (.sipush 484, 3) := by decide +kernel
theorem dX9_remembers_59 : decode cX9_remembers 59 = .ok (.aload_n 0, 1) := by decide +kernel
theorem dX9_remembers_60 : decode cX9_remembers 60 = .ok (.getfield 298, 3) := by decide +kernel
theorem dX9_remembers_63 : decode cX9_remembers 63 = .ok (.imul, 1) := by decide +kernel
theorem dX9_remembers_64 : decode cX9_remembers 64 = .ok (.invokestatic 175, 3) := by decide +kernel
theorem dX9_remembers_67 : decode cX9_remembers 67 = .ok (.aload_n 0, 1) := by decide +kernel
theorem dX9_remembers_68 : decode cX9_remembers 68 = .ok (.dup, 1) := by decide +kernel
theorem dX9_remembers_69 : decode cX9_remembers 69 = .ok (.getfield 298, 3) := by decide +kernel
theorem dX9_remembers_72 : decode cX9_remembers 72 = .ok (.iconst 1, 1) := by decide +kernel
theorem dX9_remembers_73 : decode cX9_remembers 73 = .ok (.iadd, 1) := by decide +kernel
theorem dX9_remembers_74 : decode cX9_remembers 74 = .ok (.putfield 298, 3) := by decide +kernel
theorem dX9_remembers_77 : decode cX9_remembers 77 = .ok (.return_, 1) := by decide +kernel
theorem dX9_starts_0 : decode cX9_starts 0 = .ok (.aload_n 0, 1) := by decide +kernel
theorem dX9_starts_1 : decode cX9_starts 1 = .ok (.getfield 9, 3) := by decide +kernel
theorem dX9_starts_4 : decode cX9_starts 4 = .ok (.iconst 0, 1) := by decide +kernel
theorem dX9_starts_5 : decode cX9_starts 5 = .ok (.aload_n 0, 1) := by decide +kernel
theorem dX9_starts_6 : decode cX9_starts 6 = .ok (.getfield 16, 3) := by decide +kernel
theorem dX9_starts_9 : decode cX9_starts 9 = .ok (.iconst 0, 1) := by decide +kernel
theorem dX9_starts_10 : decode cX9_starts 10 = .ok (.invokestatic 175, 3) := by decide +kernel
theorem dX9_starts_13 : decode cX9_starts 13 = .ok (.return_, 1) := by decide +kernel
theorem dX9_reportByte_0 : decode cX9_reportByte 0 = .ok (.aload_n 0, 1) := by decide +kernel
theorem dX9_reportByte_1 : decode cX9_reportByte 1 = .ok (.iconst 0, 1) := by decide +kernel
theorem dX9_reportByte_2 : decode cX9_reportByte 2 = .ok (.putfield 60, 3) := by decide +kernel
theorem dX9_reportByte_5 : decode cX9_reportByte 5 = .ok (.iload_n 1, 1) := by decide +kernel
theorem dX9_reportByte_6 : decode cX9_reportByte 6 = .ok (.iconst 0, 1) := by decide +kernel
theorem dX9_reportByte_7 : decode cX9_reportByte 7 = .ok (.aload_n 0, 1) := by decide +kernel
theorem dX9_reportByte_8 : decode cX9_reportByte 8 = .ok (.getfield 432, 3) := by decide +kernel
theorem dX9_reportByte_11 : decode cX9_reportByte 11 = .ok (.iconst 1, 1) := by decide +kernel
theorem dX9_reportByte_12 : decode cX9_reportByte 12 = .ok (.isub, 1) := by decide +kernel
theorem dX9_reportByte_13 : decode cX9_reportByte 13 = .ok (.invokestatic 63, 3) := by decide +kernel
theorem dX9_reportByte_16 : decode cX9_reportByte 16 = .ok (.ifCond .eq 12, 3) := by decide +kernel
theorem dX9_reportByte_19 : decode cX9_reportByte 19 = .ok (.aload_n 0, 1) := by decide +kernel
theorem dX9_reportByte_20 : decode cX9_reportByte 20 = .ok (.getfield 54, 3) := by decide +kernel
theorem dX9_reportByte_23 : decode cX9_reportByte 23 = .ok (.iload_n 1, 1) := by decide +kernel
theorem dX9_reportByte_24 : decode cX9_reportByte 24 = .ok (.iaload, 1) := by decide +kernel
theorem dX9_reportByte_25 : decode cX9_reportByte 25 = .ok (.goto 4, 3) := by decide +kernel
theorem dX9_reportByte_28 : decode cX9_reportByte 28 = .ok (.iconst (-1), 1) := by decide +kernel
theorem dX9_reportByte_29 : decode cX9_reportByte 29 = .ok (.ireturn, 1) := by decide +kernel
theorem dX9_undo_0 : decode cX9_undo 0 = .ok (.aload_n 0, 1) := by decide +kernel
theorem dX9_undo_1 : decode cX9_undo 1 = .ok (.iconst 0, 1) := by decide +kernel
theorem dX9_undo_2 : decode cX9_undo 2 = .ok (.putfield 60, 3) := by decide +kernel
theorem dX9_undo_5 : decode cX9_undo 5 = .ok (.aload_n 0, 1) := by decide +kernel
theorem dX9_undo_6 : decode cX9_undo 6 = .ok (.getfield 298, 3) := by decide +kernel
theorem dX9_undo_9 : decode cX9_undo 9 = .ok (.ifCond .ne 5, 3) := by decide +kernel
theorem dX9_undo_12 : decode cX9_undo 12 = .ok (.iconst (-1), 1) := by decide +kernel
theorem dX9_undo_13 : decode cX9_undo 13 = .ok (.ireturn, 1) := by decide +kernel
theorem dX9_undo_14 : decode cX9_undo 14 = .ok (.aload_n 0, 1) := by decide +kernel
theorem dX9_undo_15 : decode cX9_undo 15 = .ok (.dup, 1) := by decide +kernel
theorem dX9_undo_16 : decode cX9_undo 16 = .ok (.getfield 298, 3) := by decide +kernel
theorem dX9_undo_19 : decode cX9_undo 19 = .ok (.iconst 1, 1) := by decide +kernel
theorem dX9_undo_20 : decode cX9_undo 20 = .ok (.isub, 1) := by decide +kernel
theorem dX9_undo_21 : decode cX9_undo 21 = .ok (.putfield 298, 3) := by decide +kernel
theorem dX9_undo_24 : decode cX9_undo 24 = .ok (.aload_n 0, 1) := by decide +kernel
theorem dX9_undo_25 : decode cX9_undo 25 = .ok (.getfield 19, 3) := by decide +kernel
theorem dX9_undo_28 : decode cX9_undo 28 = .ok (.sipush 484, 3) := by decide +kernel
theorem dX9_undo_31 : decode cX9_undo 31 = .ok (.aload_n 0, 1) := by decide +kernel
theorem dX9_undo_32 : decode cX9_undo 32 = .ok (.getfield 298, 3) := by decide +kernel
theorem dX9_undo_35 : decode cX9_undo 35 = .ok (.imul, 1) := by decide +kernel
theorem dX9_undo_36 : decode cX9_undo 36 = .ok (.aload_n 0, 1) := by decide +kernel
theorem dX9_undo_37 : decode cX9_undo 37 = .ok (.getfield 9, 3) := by decide +kernel
theorem dX9_undo_40 : decode cX9_undo 40 = .ok (.iconst 0, 1) := by decide +kernel
theorem dX9_undo_41 : decode cX9_undo 41 = .ok (.invokestatic 175, 3) := by decide +kernel
theorem dX9_undo_44 : decode cX9_undo 44 = .ok (.aload_n 0, 1) := by decide +kernel
theorem dX9_undo_45 : decode cX9_undo 45 = .ok (.getfield 298, 3) := by decide +kernel
theorem dX9_undo_48 : decode cX9_undo 48 = .ok (.ireturn, 1) := by decide +kernel
theorem dX9_noSlot_0 : decode cX9_noSlot 0 = .ok (.aload_n 0, 1) := by decide +kernel
theorem dX9_noSlot_1 : decode cX9_noSlot 1 = .ok (.iload_n 1, 1) := by decide +kernel
theorem dX9_noSlot_2 : decode cX9_noSlot 2 = .ok (.iconst 0, 1) := by decide +kernel
theorem dX9_noSlot_3 : decode cX9_noSlot 3 = .ok (.iconst 1, 1) := by decide +kernel
theorem dX9_noSlot_4 : decode cX9_noSlot 4 = .ok (.invokestatic 63, 3) := by decide +kernel
theorem dX9_noSlot_7 : decode cX9_noSlot 7 = .ok (.ifCond .ne 7, 3) := by decide +kernel
theorem dX9_noSlot_10 : decode cX9_noSlot 10 = .ok (.iconst 1, 1) := by decide +kernel
theorem dX9_noSlot_11 : decode cX9_noSlot 11 = .ok (.goto 4, 3) := by decide +kernel
theorem dX9_noSlot_14 : decode cX9_noSlot 14 = .ok (.iconst 0, 1) := by decide +kernel
theorem dX9_noSlot_15 : decode cX9_noSlot 15 = .ok (.iconst 1, 1) := by decide +kernel
theorem dX9_noSlot_16 : decode cX9_noSlot 16 = .ok (.invokevirtual 366, 3) := by decide +kernel
theorem dX9_noSlot_19 : decode cX9_noSlot 19 = .ok (.ireturn, 1) := by decide +kernel
-- X9_accountOf
set_option maxRecDepth 100000 in
set_option maxHeartbeats 4000000 in
theorem zm_X9_accountOf {l : Launch} {G : zG} {p1 : Int32} {p2 : Int32} {M : zM} {Kf : Int32 → zM → Prop} (h : ((p1 = (-1) → zAt l G Y_X9_accountOf (zEI G Y_X9_accountOf Kf) 20 [(0, vr 30 0), (2, vi p2), (3, vi 0), (4, vi 0)] [] M 0 0) ∧ (¬ p1 = (-1) → (zCalI l G Y_X9_ofFlow 0 0 [vr 30 0, vi p1, vi (18 + p2)] M (fun x2 M1 => (Kf x2 M1)))))) : zCalI l G Y_X9_accountOf 0 0 [vr 30 0, vi p1, vi p2] M Kf := by
  refine zCal_of (lv := [(0, vr 30 0), (1, vi p1), (2, vi p2)]) (by decide) rfl (zle rfl) rfl (fun hv => zlv_args (lv := [(0, vr 30 0), (1, vi p1), (2, vi p2)]) rfl hv) ?_
  refine Z_iload_n dX9_accountOf_0 rfl 1 rfl ?_
  refine Z_iconst (v := (-1)) (by decide) dX9_accountOf_1 ?_
  refine Z_icmp_eq (tgt := 15) dX9_accountOf_2 (by decide) (fun q => ?_) (fun q => ?_)
  · have h := h.1 q
    refine Z_iconst (v := 0) (by decide) dX9_accountOf_15 ?_
    refine Z_istore_n (lv2 := [(3, vi 0), (0, vr 30 0), (1, vi p1), (2, vi p2)]) dX9_accountOf_16 rfl (by decide) rfl ?_
    refine Z_iconst (v := 0) (by decide) dX9_accountOf_17 ?_
    refine Z_istore (lv2 := [(4, vi 0), (3, vi 0), (0, vr 30 0), (1, vi p1), (2, vi p2)]) dX9_accountOf_18 (by decide) rfl ?_
    exact Z_pick [2, 4, 1, 0] rfl h
  · have h := h.2 q
    refine Z_aload_n dX9_accountOf_5 rfl 0 rfl ?_
    refine Z_iload_n dX9_accountOf_6 rfl 1 rfl ?_
    refine Z_bipush (v := 18) (by decide) dX9_accountOf_7 ?_
    refine Z_iload_n dX9_accountOf_9 rfl 2 rfl ?_
    refine Z_iadd dX9_accountOf_10 ?_
    refine Z_callVI (as := [vi p1, vi (18 + p2)]) zRm_M zcv_X9_accountOf_X9_ofFlow_67 (ci := 13) rfl rfl rfl rfl (zle rfl) dX9_accountOf_11 ⟨Nat.le_refl _, Nat.le_refl _⟩ h (fun x2 M1 h => ?_)
    exact Z_iret rfl rfl dX9_accountOf_14 (Nat.le_refl _) (Nat.le_refl _) ⟨_, rfl, h⟩
set_option maxRecDepth 100000 in
set_option maxHeartbeats 4000000 in
theorem zb_X9_accountOf_20 {l : Launch} {G : zG} {y2 : Int32} {y3 : Int32} {y4 : Int32} {M : zM} {Kf : Int32 → zM → Prop} (h : (((zmI M 31 0 11) ≤ y4 → (Kf y3 M)) ∧ (¬ (zmI M 31 0 11) ≤ y4 → (zCalI l G Y_X9_ofFlow 0 0 [vr 30 0, vi y4, vi (18 + y2)] M (fun x3 M2 => zAt l G Y_X9_accountOf (zEI G Y_X9_accountOf Kf) 20 [(0, vr 30 0), (2, vi y2), (3, vi (y3 + x3)), (4, vi (y4 + 1))] [] M2 0 0))))) : zAt l G Y_X9_accountOf (zEI G Y_X9_accountOf Kf) 20 [(0, vr 30 0), (2, vi y2), (3, vi y3), (4, vi y4)] [] M 0 0 := by
  refine Z_iload dX9_accountOf_20 3 rfl ?_
  refine Z_aload_n dX9_accountOf_22 rfl 0 rfl ?_
  refine Z_getR (s1 := 31) (i1 := 0) zfl_X9_9 rfl (fun q => by first | exact q | decide) dX9_accountOf_23 ?_
  refine Z_bipush (v := 11) (by decide) dX9_accountOf_26 ?_
  refine Z_ialdK (n := 484) (j := 11) rfl (by decide) (zvin (by decide)) dX9_accountOf_28 ?_
  refine Z_icmp_ge (tgt := 51) dX9_accountOf_29 (by decide) (fun q => ?_) (fun q => ?_)
  · have h := h.1 q
    refine Z_iload_n dX9_accountOf_51 rfl 2 rfl ?_
    exact Z_iret rfl rfl dX9_accountOf_52 (Nat.le_refl _) (Nat.le_refl _) ⟨_, rfl, h⟩
  · have h := h.2 q
    refine Z_iload_n dX9_accountOf_32 rfl 2 rfl ?_
    refine Z_aload_n dX9_accountOf_33 rfl 0 rfl ?_
    refine Z_iload dX9_accountOf_34 3 rfl ?_
    refine Z_bipush (v := 18) (by decide) dX9_accountOf_36 ?_
    refine Z_iload_n dX9_accountOf_38 rfl 1 rfl ?_
    refine Z_iadd dX9_accountOf_39 ?_
    refine Z_callVI (as := [vi y4, vi (18 + y2)]) zRm_M zcv_X9_accountOf_X9_ofFlow_67 (ci := 13) rfl rfl rfl rfl (zle rfl) dX9_accountOf_40 ⟨Nat.le_refl _, Nat.le_refl _⟩ h (fun x3 M2 h => ?_)
    refine Z_iadd dX9_accountOf_43 ?_
    refine Z_istore_n (lv2 := [(3, vi (y3 + x3)), (0, vr 30 0), (2, vi y2), (4, vi y4)]) dX9_accountOf_44 rfl (by decide) rfl ?_
    refine Z_iinc (v := (y4 + 1)) (lv2 := [(4, vi (y4 + 1)), (3, vi (y3 + x3)), (0, vr 30 0), (2, vi y2)]) dX9_accountOf_45 3 rfl rfl (by decide) rfl ?_
    refine Z_goto (tgt := 20) dX9_accountOf_48 (by decide) ?_
    exact Z_pick [2, 3, 1, 0] rfl h
-- X9_amiss
set_option maxRecDepth 100000 in
set_option maxHeartbeats 4000000 in
theorem zm_X9_amiss {l : Launch} {G : zG} {M : zM} {Kf : Int32 → zM → Prop} (h : zAt l G Y_X9_amiss (zEI G Y_X9_amiss Kf) 9 [(0, vr 30 0), (1, vi 0), (2, vi 0)] [] (zsI M 30 0 7 0) 0 0) : zCalI l G Y_X9_amiss 0 0 [vr 30 0] M Kf := by
  refine zCal_of (lv := [(0, vr 30 0)]) (by decide) rfl (zle rfl) rfl (fun hv => zlv_args (lv := [(0, vr 30 0)]) rfl hv) ?_
  refine Z_aload_n dX9_amiss_0 rfl 0 rfl ?_
  refine Z_iconst (v := 0) (by decide) dX9_amiss_1 ?_
  refine Z_putI zfp_X9_60 rfl rfl dX9_amiss_2 ?_
  refine Z_iconst (v := 0) (by decide) dX9_amiss_5 ?_
  refine Z_istore_n (lv2 := [(1, vi 0), (0, vr 30 0)]) dX9_amiss_6 rfl (by decide) rfl ?_
  refine Z_iconst (v := 0) (by decide) dX9_amiss_7 ?_
  refine Z_istore_n (lv2 := [(2, vi 0), (1, vi 0), (0, vr 30 0)]) dX9_amiss_8 rfl (by decide) rfl ?_
  exact Z_pick [2, 1, 0] rfl h
set_option maxRecDepth 100000 in
set_option maxHeartbeats 4000000 in
theorem zb_X9_amiss_9 {l : Launch} {G : zG} {y1 : Int32} {y2 : Int32} {M : zM} {Kf : Int32 → zM → Prop} (h : (((zmI M 31 0 12) ≤ y2 → (Kf y1 M)) ∧ (¬ (zmI M 31 0 12) ≤ y2 → (zCalI l G Y_X9_ofDecision 0 0 [vr 30 0, vi y2, vi 2] M (fun x3 M2 => ((¬ x3 = 3 → zAt l G Y_X9_amiss (zEI G Y_X9_amiss Kf) 74 [(0, vr 30 0), (2, vi y2)] [vi y1] M2 0 0) ∧ (x3 = 3 → (zCalI l G Y_X9_ofDecision 0 0 [vr 30 0, vi y2, vi 6] M2 (fun x5 M4 => (zCalI l G Y_X9_ofDecision 0 0 [vr 30 0, vi y2, vi 5] M4 (fun x7 M6 => ((x7 ≤ x5 → zAt l G Y_X9_amiss (zEI G Y_X9_amiss Kf) 52 [(0, vr 30 0), (2, vi y2)] [vi 0, vi y1] M6 0 0) ∧ (¬ x7 ≤ x5 → zAt l G Y_X9_amiss (zEI G Y_X9_amiss Kf) 52 [(0, vr 30 0), (2, vi y2)] [vi 1, vi y1] M6 0 0))))))))))))) : zAt l G Y_X9_amiss (zEI G Y_X9_amiss Kf) 9 [(0, vr 30 0), (1, vi y1), (2, vi y2)] [] M 0 0 := by
  refine Z_iload_n dX9_amiss_9 rfl 2 rfl ?_
  refine Z_aload_n dX9_amiss_10 rfl 0 rfl ?_
  refine Z_getR (s1 := 31) (i1 := 0) zfl_X9_9 rfl (fun q => by first | exact q | decide) dX9_amiss_11 ?_
  refine Z_bipush (v := 12) (by decide) dX9_amiss_14 ?_
  refine Z_ialdK (n := 484) (j := 12) rfl (by decide) (zvin (by decide)) dX9_amiss_16 ?_
  refine Z_icmp_ge (tgt := 86) dX9_amiss_17 (by decide) (fun q => ?_) (fun q => ?_)
  · have h := h.1 q
    refine Z_iload_n dX9_amiss_86 rfl 1 rfl ?_
    exact Z_iret rfl rfl dX9_amiss_87 (Nat.le_refl _) (Nat.le_refl _) ⟨_, rfl, h⟩
  · have h := h.2 q
    refine Z_iload_n dX9_amiss_20 rfl 1 rfl ?_
    refine Z_aload_n dX9_amiss_21 rfl 0 rfl ?_
    refine Z_iload_n dX9_amiss_22 rfl 2 rfl ?_
    refine Z_iconst (v := 2) (by decide) dX9_amiss_23 ?_
    refine Z_callVI (as := [vi y2, vi 2]) zRm_M zcv_X9_amiss_X9_ofDecision_390 (ci := 13) rfl rfl rfl rfl (zle rfl) dX9_amiss_24 ⟨Nat.le_refl _, Nat.le_refl _⟩ h (fun x3 M2 h => ?_)
    refine Z_iconst (v := 3) (by decide) dX9_amiss_27 ?_
    refine Z_icmp_ne (tgt := 74) dX9_amiss_28 (by decide) (fun q => ?_) (fun q => ?_)
    · have h := h.1 q
      exact Z_pick [0, 2] rfl h
    · have h := h.2 q
      refine Z_aload_n dX9_amiss_31 rfl 0 rfl ?_
      refine Z_iload_n dX9_amiss_32 rfl 2 rfl ?_
      refine Z_bipush (v := 6) (by decide) dX9_amiss_33 ?_
      refine Z_callVI (as := [vi y2, vi 6]) zRm_M zcv_X9_amiss_X9_ofDecision_390 (ci := 13) rfl rfl rfl rfl (zle rfl) dX9_amiss_35 ⟨Nat.le_refl _, Nat.le_refl _⟩ h (fun x5 M4 h => ?_)
      refine Z_aload_n dX9_amiss_38 rfl 0 rfl ?_
      refine Z_iload_n dX9_amiss_39 rfl 2 rfl ?_
      refine Z_iconst (v := 5) (by decide) dX9_amiss_40 ?_
      refine Z_callVI (as := [vi y2, vi 5]) zRm_M zcv_X9_amiss_X9_ofDecision_390 (ci := 13) rfl rfl rfl rfl (zle rfl) dX9_amiss_41 ⟨Nat.le_refl _, Nat.le_refl _⟩ h (fun x7 M6 h => ?_)
      refine Z_icmp_ge (tgt := 51) dX9_amiss_44 (by decide) (fun q => ?_) (fun q => ?_)
      · have h := h.1 q
        refine Z_iconst (v := 0) (by decide) dX9_amiss_51 ?_
        exact Z_pick [0, 2] rfl h
      · have h := h.2 q
        refine Z_iconst (v := 1) (by decide) dX9_amiss_47 ?_
        refine Z_goto (tgt := 52) dX9_amiss_48 (by decide) ?_
        exact Z_pick [0, 2] rfl h
set_option maxRecDepth 100000 in
set_option maxHeartbeats 4000000 in
theorem zb_X9_amiss_74 {l : Launch} {G : zG} {y2 : Int32} {s0 : Int32} {M : zM} {Kf : Int32 → zM → Prop} (h : zAt l G Y_X9_amiss (zEI G Y_X9_amiss Kf) 75 [(0, vr 30 0), (2, vi y2)] [vi 0, vi s0] M 0 0) : zAt l G Y_X9_amiss (zEI G Y_X9_amiss Kf) 74 [(0, vr 30 0), (2, vi y2)] [vi s0] M 0 0 := by
  refine Z_iconst (v := 0) (by decide) dX9_amiss_74 ?_
  exact h
set_option maxRecDepth 100000 in
set_option maxHeartbeats 4000000 in
theorem zb_X9_amiss_52 {l : Launch} {G : zG} {y2 : Int32} {s0 : Int32} {s1 : Int32} {M : zM} {Kf : Int32 → zM → Prop} (h : (zCalI l G Y_X9_ofDecision 0 0 [vr 30 0, vi y2, vi 7] M (fun x2 M1 => ((x2 = 0 → zAt l G Y_X9_amiss (zEI G Y_X9_amiss Kf) 67 [(0, vr 30 0), (2, vi y2)] [vi 0, vi s0, vi s1] M1 0 0) ∧ (¬ x2 = 0 → zAt l G Y_X9_amiss (zEI G Y_X9_amiss Kf) 67 [(0, vr 30 0), (2, vi y2)] [vi 1, vi s0, vi s1] M1 0 0))))) : zAt l G Y_X9_amiss (zEI G Y_X9_amiss Kf) 52 [(0, vr 30 0), (2, vi y2)] [vi s0, vi s1] M 0 0 := by
  refine Z_aload_n dX9_amiss_52 rfl 0 rfl ?_
  refine Z_iload_n dX9_amiss_53 rfl 1 rfl ?_
  refine Z_bipush (v := 7) (by decide) dX9_amiss_54 ?_
  refine Z_callVI (as := [vi y2, vi 7]) zRm_M zcv_X9_amiss_X9_ofDecision_390 (ci := 13) rfl rfl rfl rfl (zle rfl) dX9_amiss_56 ⟨Nat.le_refl _, Nat.le_refl _⟩ h (fun x2 M1 h => ?_)
  refine Z_if_eq (tgt := 66) dX9_amiss_59 (by decide) (fun q => ?_) (fun q => ?_)
  · have h := h.1 q
    refine Z_iconst (v := 0) (by decide) dX9_amiss_66 ?_
    exact h
  · have h := h.2 q
    refine Z_iconst (v := 1) (by decide) dX9_amiss_62 ?_
    refine Z_goto (tgt := 67) dX9_amiss_63 (by decide) ?_
    exact h
set_option maxRecDepth 100000 in
set_option maxHeartbeats 4000000 in
theorem zb_X9_amiss_75 {l : Launch} {G : zG} {y2 : Int32} {s0 : Int32} {s1 : Int32} {M : zM} {Kf : Int32 → zM → Prop} (h : (zCalI l G Y_X9_one 0 0 [vi s0] M (fun x2 M1 => zAt l G Y_X9_amiss (zEI G Y_X9_amiss Kf) 9 [(0, vr 30 0), (1, vi (s1 + x2)), (2, vi (y2 + 1))] [] M1 0 0))) : zAt l G Y_X9_amiss (zEI G Y_X9_amiss Kf) 75 [(0, vr 30 0), (2, vi y2)] [vi s0, vi s1] M 0 0 := by
  refine Z_callSI (as := [vi s0]) zRm_M zcs_X9_amiss_X9_one_99 rfl rfl (zle rfl) dX9_amiss_75 ⟨Nat.le_refl _, Nat.le_refl _⟩ h (fun x2 M1 h => ?_)
  refine Z_iadd dX9_amiss_78 ?_
  refine Z_istore_n (lv2 := [(1, vi (s1 + x2)), (0, vr 30 0), (2, vi y2)]) dX9_amiss_79 rfl (by decide) rfl ?_
  refine Z_iinc (v := (y2 + 1)) (lv2 := [(2, vi (y2 + 1)), (1, vi (s1 + x2)), (0, vr 30 0)]) dX9_amiss_80 2 rfl rfl (by decide) rfl ?_
  refine Z_goto (tgt := 9) dX9_amiss_83 (by decide) ?_
  exact Z_pick [2, 1, 0] rfl h
set_option maxRecDepth 100000 in
set_option maxHeartbeats 4000000 in
theorem zb_X9_amiss_67 {l : Launch} {G : zG} {y2 : Int32} {s0 : Int32} {s1 : Int32} {s2 : Int32} {M : zM} {Kf : Int32 → zM → Prop} (h : ((s1 = s0 → zAt l G Y_X9_amiss (zEI G Y_X9_amiss Kf) 74 [(0, vr 30 0), (2, vi y2)] [vi s2] M 0 0) ∧ (¬ s1 = s0 → zAt l G Y_X9_amiss (zEI G Y_X9_amiss Kf) 75 [(0, vr 30 0), (2, vi y2)] [vi 1, vi s2] M 0 0))) : zAt l G Y_X9_amiss (zEI G Y_X9_amiss Kf) 67 [(0, vr 30 0), (2, vi y2)] [vi s0, vi s1, vi s2] M 0 0 := by
  refine Z_icmp_eq (tgt := 74) dX9_amiss_67 (by decide) (fun q => ?_) (fun q => ?_)
  · have h := h.1 q
    exact h
  · have h := h.2 q
    refine Z_iconst (v := 1) (by decide) dX9_amiss_70 ?_
    refine Z_goto (tgt := 75) dX9_amiss_71 (by decide) ?_
    exact h
-- X9_aside
set_option maxRecDepth 100000 in
set_option maxHeartbeats 4000000 in
theorem zm_X9_aside {l : Launch} {G : zG} {M : zM} {Kf : zM → Prop} (h : (zCalV l G Y_X9_lays 0 0 [vr 31 0, vi 0, vr 32 0, vi 0] M (fun M1 => (Kf M1)))) : zCalV l G Y_X9_aside 0 0 [vr 30 0] M Kf := by
  refine zCal_of (lv := [(0, vr 30 0)]) (by decide) rfl (zle rfl) rfl (fun hv => zlv_args (lv := [(0, vr 30 0)]) rfl hv) ?_
  refine Z_aload_n dX9_aside_0 rfl 0 rfl ?_
  refine Z_getR (s1 := 31) (i1 := 0) zfl_X9_9 rfl (fun q => by first | exact q | decide) dX9_aside_1 ?_
  refine Z_iconst (v := 0) (by decide) dX9_aside_4 ?_
  refine Z_aload_n dX9_aside_5 rfl 0 rfl ?_
  refine Z_getR (s1 := 32) (i1 := 0) zfl_X9_13 rfl (fun q => by first | exact q | decide) dX9_aside_6 ?_
  refine Z_iconst (v := 0) (by decide) dX9_aside_9 ?_
  refine Z_callSV (as := [vr 31 0, vi 0, vr 32 0, vi 0]) zRm_M zcs_X9_aside_X9_lays_175 rfl rfl (zle rfl) dX9_aside_10 ⟨Nat.le_refl _, Nat.le_refl _⟩ h (fun M1 h => ?_)
  exact Z_vret rfl dX9_aside_13 (Nat.le_refl _) (Nat.le_refl _) ⟨rfl, h⟩
-- X9_back
set_option maxRecDepth 100000 in
set_option maxHeartbeats 4000000 in
theorem zm_X9_back {l : Launch} {G : zG} {p1 : Int32} {M : zM} {Kf : Int32 → zM → Prop} (h : (zCalV l G Y_X9_lays 0 0 [vr 32 0, vi 0, vr 31 0, vi 0] M (fun M1 => (Kf p1 M1)))) : zCalI l G Y_X9_back 0 0 [vr 30 0, vi p1] M Kf := by
  refine zCal_of (lv := [(0, vr 30 0), (1, vi p1)]) (by decide) rfl (zle rfl) rfl (fun hv => zlv_args (lv := [(0, vr 30 0), (1, vi p1)]) rfl hv) ?_
  refine Z_aload_n dX9_back_0 rfl 0 rfl ?_
  refine Z_getR (s1 := 32) (i1 := 0) zfl_X9_13 rfl (fun q => by first | exact q | decide) dX9_back_1 ?_
  refine Z_iconst (v := 0) (by decide) dX9_back_4 ?_
  refine Z_aload_n dX9_back_5 rfl 0 rfl ?_
  refine Z_getR (s1 := 31) (i1 := 0) zfl_X9_9 rfl (fun q => by first | exact q | decide) dX9_back_6 ?_
  refine Z_iconst (v := 0) (by decide) dX9_back_9 ?_
  refine Z_callSV (as := [vr 32 0, vi 0, vr 31 0, vi 0]) zRm_M zcs_X9_back_X9_lays_175 rfl rfl (zle rfl) dX9_back_10 ⟨Nat.le_refl _, Nat.le_refl _⟩ h (fun M1 h => ?_)
  refine Z_iload_n dX9_back_13 rfl 1 rfl ?_
  exact Z_iret rfl rfl dX9_back_14 (Nat.le_refl _) (Nat.le_refl _) ⟨_, rfl, h⟩
-- X9_between
set_option maxRecDepth 100000 in
set_option maxHeartbeats 4000000 in
theorem zm_X9_between {l : Launch} {G : zG} {p1 : Int32} {p2 : Int32} {p3 : Int32} {M : zM} {Kf : Int32 → zM → Prop} (h : ((p3 < p2 → (zCalI l G Y_X9_ofFlow 0 0 [vr 30 0, vi p1, vi 4] (zsI M 31 0 10 0) (fun x3 M2 => ((¬ x3 = 1 → (Kf 2 M2)) ∧ (x3 = 1 → (Kf 1 M2)))))) ∧ (¬ p3 < p2 → (Kf 0 M)))) : zCalI l G Y_X9_between 0 0 [vr 30 0, vi p1, vi p2, vi p3] M Kf := by
  refine zCal_of (lv := [(0, vr 30 0), (1, vi p1), (2, vi p2), (3, vi p3)]) (by decide) rfl (zle rfl) rfl (fun hv => zlv_args (lv := [(0, vr 30 0), (1, vi p1), (2, vi p2), (3, vi p3)]) rfl hv) ?_
  refine Z_iload_n dX9_between_0 rfl 3 rfl ?_
  refine Z_iload_n dX9_between_1 rfl 2 rfl ?_
  refine Z_icmp_lt (tgt := 7) dX9_between_2 (by decide) (fun q => ?_) (fun q => ?_)
  · have h := h.1 q
    refine Z_aload_n dX9_between_7 rfl 0 rfl ?_
    refine Z_getR (s1 := 31) (i1 := 0) zfl_X9_9 rfl (fun q => by first | exact q | decide) dX9_between_8 ?_
    refine Z_bipush (v := 10) (by decide) dX9_between_11 ?_
    refine Z_iconst (v := 0) (by decide) dX9_between_13 ?_
    refine Z_iastK (n := 484) (j := 10) rfl (by decide) (zvin (by decide)) dX9_between_14 ?_
    refine Z_aload_n dX9_between_15 rfl 0 rfl ?_
    refine Z_iload_n dX9_between_16 rfl 1 rfl ?_
    refine Z_iconst (v := 4) (by decide) dX9_between_17 ?_
    refine Z_callVI (as := [vi p1, vi 4]) zRm_M zcv_X9_between_X9_ofFlow_67 (ci := 13) rfl rfl rfl rfl (zle rfl) dX9_between_18 ⟨Nat.le_refl _, Nat.le_refl _⟩ h (fun x3 M2 h => ?_)
    refine Z_iconst (v := 1) (by decide) dX9_between_21 ?_
    refine Z_icmp_ne (tgt := 29) dX9_between_22 (by decide) (fun q => ?_) (fun q => ?_)
    · have h := h.1 q
      refine Z_iconst (v := 2) (by decide) dX9_between_29 ?_
      exact Z_iret rfl rfl dX9_between_30 (Nat.le_refl _) (Nat.le_refl _) ⟨_, rfl, h⟩
    · have h := h.2 q
      refine Z_iconst (v := 1) (by decide) dX9_between_25 ?_
      refine Z_goto (tgt := 30) dX9_between_26 (by decide) ?_
      exact Z_iret rfl rfl dX9_between_30 (Nat.le_refl _) (Nat.le_refl _) ⟨_, rfl, h⟩
  · have h := h.2 q
    refine Z_iconst (v := 0) (by decide) dX9_between_5 ?_
    exact Z_iret rfl rfl dX9_between_6 (Nat.le_refl _) (Nat.le_refl _) ⟨_, rfl, h⟩
-- X9_bytesIn
set_option maxRecDepth 100000 in
set_option maxHeartbeats 4000000 in
theorem zm_X9_bytesIn {l : Launch} {G : zG} {p1 : Int32} {M : zM} {Kf : Int32 → zM → Prop} (h : ((((p1 >>> (24 &&& 31)) &&& 255) ≤ 0 → zAt l G Y_X9_bytesIn (zEI G Y_X9_bytesIn Kf) 16 [(0, vi p1)] [vi 0] M 0 0) ∧ (¬ ((p1 >>> (24 &&& 31)) &&& 255) ≤ 0 → zAt l G Y_X9_bytesIn (zEI G Y_X9_bytesIn Kf) 16 [(0, vi p1)] [vi 1] M 0 0))) : zCalI l G Y_X9_bytesIn 0 0 [vi p1] M Kf := by
  refine zCal_of (lv := [(0, vi p1)]) (by decide) rfl (zle rfl) rfl (fun hv => zlv_args (lv := [(0, vi p1)]) rfl hv) ?_
  refine Z_iload_n dX9_bytesIn_0 rfl 0 rfl ?_
  refine Z_bipush (v := 24) (by decide) dX9_bytesIn_1 ?_
  refine Z_ishr dX9_bytesIn_3 ?_
  refine Z_sipush (v := 255) (by decide) dX9_bytesIn_4 ?_
  refine Z_iand dX9_bytesIn_7 ?_
  refine Z_if_le (tgt := 15) dX9_bytesIn_8 (by decide) (fun q => ?_) (fun q => ?_)
  · have h := h.1 q
    refine Z_iconst (v := 0) (by decide) dX9_bytesIn_15 ?_
    exact h
  · have h := h.2 q
    refine Z_iconst (v := 1) (by decide) dX9_bytesIn_11 ?_
    refine Z_goto (tgt := 16) dX9_bytesIn_12 (by decide) ?_
    exact h
set_option maxRecDepth 100000 in
set_option maxHeartbeats 4000000 in
theorem zb_X9_bytesIn_16 {l : Launch} {G : zG} {y0 : Int32} {s0 : Int32} {M : zM} {Kf : Int32 → zM → Prop} (h : (zCalI l G Y_X9_one 0 0 [vi s0] M (fun x2 M1 => ((((y0 >>> (16 &&& 31)) &&& 255) ≤ 0 → zAt l G Y_X9_bytesIn (zEI G Y_X9_bytesIn Kf) 35 [(0, vi y0)] [vi 0, vi x2] M1 0 0) ∧ (¬ ((y0 >>> (16 &&& 31)) &&& 255) ≤ 0 → zAt l G Y_X9_bytesIn (zEI G Y_X9_bytesIn Kf) 35 [(0, vi y0)] [vi 1, vi x2] M1 0 0))))) : zAt l G Y_X9_bytesIn (zEI G Y_X9_bytesIn Kf) 16 [(0, vi y0)] [vi s0] M 0 0 := by
  refine Z_callSI (as := [vi s0]) zRm_M zcs_X9_bytesIn_X9_one_99 rfl rfl (zle rfl) dX9_bytesIn_16 ⟨Nat.le_refl _, Nat.le_refl _⟩ h (fun x2 M1 h => ?_)
  refine Z_iload_n dX9_bytesIn_19 rfl 0 rfl ?_
  refine Z_bipush (v := 16) (by decide) dX9_bytesIn_20 ?_
  refine Z_ishr dX9_bytesIn_22 ?_
  refine Z_sipush (v := 255) (by decide) dX9_bytesIn_23 ?_
  refine Z_iand dX9_bytesIn_26 ?_
  refine Z_if_le (tgt := 34) dX9_bytesIn_27 (by decide) (fun q => ?_) (fun q => ?_)
  · have h := h.1 q
    refine Z_iconst (v := 0) (by decide) dX9_bytesIn_34 ?_
    exact h
  · have h := h.2 q
    refine Z_iconst (v := 1) (by decide) dX9_bytesIn_30 ?_
    refine Z_goto (tgt := 35) dX9_bytesIn_31 (by decide) ?_
    exact h
set_option maxRecDepth 100000 in
set_option maxHeartbeats 4000000 in
theorem zb_X9_bytesIn_35 {l : Launch} {G : zG} {y0 : Int32} {s0 : Int32} {s1 : Int32} {M : zM} {Kf : Int32 → zM → Prop} (h : (zCalI l G Y_X9_one 0 0 [vi s0] M (fun x2 M1 => ((((y0 >>> (8 &&& 31)) &&& 255) ≤ 0 → zAt l G Y_X9_bytesIn (zEI G Y_X9_bytesIn Kf) 55 [(0, vi y0)] [vi 0, vi (s1 + x2)] M1 0 0) ∧ (¬ ((y0 >>> (8 &&& 31)) &&& 255) ≤ 0 → zAt l G Y_X9_bytesIn (zEI G Y_X9_bytesIn Kf) 55 [(0, vi y0)] [vi 1, vi (s1 + x2)] M1 0 0))))) : zAt l G Y_X9_bytesIn (zEI G Y_X9_bytesIn Kf) 35 [(0, vi y0)] [vi s0, vi s1] M 0 0 := by
  refine Z_callSI (as := [vi s0]) zRm_M zcs_X9_bytesIn_X9_one_99 rfl rfl (zle rfl) dX9_bytesIn_35 ⟨Nat.le_refl _, Nat.le_refl _⟩ h (fun x2 M1 h => ?_)
  refine Z_iadd dX9_bytesIn_38 ?_
  refine Z_iload_n dX9_bytesIn_39 rfl 0 rfl ?_
  refine Z_bipush (v := 8) (by decide) dX9_bytesIn_40 ?_
  refine Z_ishr dX9_bytesIn_42 ?_
  refine Z_sipush (v := 255) (by decide) dX9_bytesIn_43 ?_
  refine Z_iand dX9_bytesIn_46 ?_
  refine Z_if_le (tgt := 54) dX9_bytesIn_47 (by decide) (fun q => ?_) (fun q => ?_)
  · have h := h.1 q
    refine Z_iconst (v := 0) (by decide) dX9_bytesIn_54 ?_
    exact h
  · have h := h.2 q
    refine Z_iconst (v := 1) (by decide) dX9_bytesIn_50 ?_
    refine Z_goto (tgt := 55) dX9_bytesIn_51 (by decide) ?_
    exact h
set_option maxRecDepth 100000 in
set_option maxHeartbeats 4000000 in
theorem zb_X9_bytesIn_55 {l : Launch} {G : zG} {y0 : Int32} {s0 : Int32} {s1 : Int32} {M : zM} {Kf : Int32 → zM → Prop} (h : (zCalI l G Y_X9_one 0 0 [vi s0] M (fun x2 M1 => (((y0 &&& 255) ≤ 0 → zAt l G Y_X9_bytesIn (zEI G Y_X9_bytesIn Kf) 72 [] [vi 0, vi (s1 + x2)] M1 0 0) ∧ (¬ (y0 &&& 255) ≤ 0 → zAt l G Y_X9_bytesIn (zEI G Y_X9_bytesIn Kf) 72 [] [vi 1, vi (s1 + x2)] M1 0 0))))) : zAt l G Y_X9_bytesIn (zEI G Y_X9_bytesIn Kf) 55 [(0, vi y0)] [vi s0, vi s1] M 0 0 := by
  refine Z_callSI (as := [vi s0]) zRm_M zcs_X9_bytesIn_X9_one_99 rfl rfl (zle rfl) dX9_bytesIn_55 ⟨Nat.le_refl _, Nat.le_refl _⟩ h (fun x2 M1 h => ?_)
  refine Z_iadd dX9_bytesIn_58 ?_
  refine Z_iload_n dX9_bytesIn_59 rfl 0 rfl ?_
  refine Z_sipush (v := 255) (by decide) dX9_bytesIn_60 ?_
  refine Z_iand dX9_bytesIn_63 ?_
  refine Z_if_le (tgt := 71) dX9_bytesIn_64 (by decide) (fun q => ?_) (fun q => ?_)
  · have h := h.1 q
    refine Z_iconst (v := 0) (by decide) dX9_bytesIn_71 ?_
    exact Z_pick [] rfl h
  · have h := h.2 q
    refine Z_iconst (v := 1) (by decide) dX9_bytesIn_67 ?_
    refine Z_goto (tgt := 72) dX9_bytesIn_68 (by decide) ?_
    exact Z_pick [] rfl h
set_option maxRecDepth 100000 in
set_option maxHeartbeats 4000000 in
theorem zb_X9_bytesIn_72 {l : Launch} {G : zG} {s0 : Int32} {s1 : Int32} {M : zM} {Kf : Int32 → zM → Prop} (h : (zCalI l G Y_X9_one 0 0 [vi s0] M (fun x2 M1 => (Kf (s1 + x2) M1)))) : zAt l G Y_X9_bytesIn (zEI G Y_X9_bytesIn Kf) 72 [] [vi s0, vi s1] M 0 0 := by
  refine Z_callSI (as := [vi s0]) zRm_M zcs_X9_bytesIn_X9_one_99 rfl rfl (zle rfl) dX9_bytesIn_72 ⟨Nat.le_refl _, Nat.le_refl _⟩ h (fun x2 M1 h => ?_)
  refine Z_iadd dX9_bytesIn_75 ?_
  exact Z_iret rfl rfl dX9_bytesIn_76 (Nat.le_refl _) (Nat.le_refl _) ⟨_, rfl, h⟩
-- X9_counts
set_option maxRecDepth 100000 in
set_option maxHeartbeats 4000000 in
theorem zm_X9_counts {l : Launch} {G : zG} {p1 : Int32} {p2 : Int32} {p3 : Int32} {M : zM} {Kf : zM → Prop} (h : (zCalI l G Y_X9_ofFlow 0 0 [vr 30 0, vi p1, vi (18 + p2)] M (fun x2 M1 => (zCalV l G Y_X9_putsFlow 0 0 [vr 30 0, vi p1, vi (18 + p2), vi (x2 + p3)] M1 (fun M3 => (Kf M3)))))) : zCalV l G Y_X9_counts 0 0 [vr 30 0, vi p1, vi p2, vi p3] M Kf := by
  refine zCal_of (lv := [(0, vr 30 0), (1, vi p1), (2, vi p2), (3, vi p3)]) (by decide) rfl (zle rfl) rfl (fun hv => zlv_args (lv := [(0, vr 30 0), (1, vi p1), (2, vi p2), (3, vi p3)]) rfl hv) ?_
  refine Z_aload_n dX9_counts_0 rfl 0 rfl ?_
  refine Z_iload_n dX9_counts_1 rfl 1 rfl ?_
  refine Z_bipush (v := 18) (by decide) dX9_counts_2 ?_
  refine Z_iload_n dX9_counts_4 rfl 2 rfl ?_
  refine Z_iadd dX9_counts_5 ?_
  refine Z_aload_n dX9_counts_6 rfl 0 rfl ?_
  refine Z_iload_n dX9_counts_7 rfl 1 rfl ?_
  refine Z_bipush (v := 18) (by decide) dX9_counts_8 ?_
  refine Z_iload_n dX9_counts_10 rfl 2 rfl ?_
  refine Z_iadd dX9_counts_11 ?_
  refine Z_callVI (as := [vi p1, vi (18 + p2)]) zRm_M zcv_X9_counts_X9_ofFlow_67 (ci := 13) rfl rfl rfl rfl (zle rfl) dX9_counts_12 ⟨Nat.le_refl _, Nat.le_refl _⟩ h (fun x2 M1 h => ?_)
  refine Z_iload_n dX9_counts_15 rfl 3 rfl ?_
  refine Z_iadd dX9_counts_16 ?_
  refine Z_callVV (as := [vi p1, vi (18 + p2), vi (x2 + p3)]) zRm_M zcv_X9_counts_X9_putsFlow_71 (ci := 13) rfl rfl rfl rfl (zle rfl) dX9_counts_17 ⟨Nat.le_refl _, Nat.le_refl _⟩ h (fun M3 h => ?_)
  exact Z_vret rfl dX9_counts_20 (Nat.le_refl _) (Nat.le_refl _) ⟨rfl, h⟩
-- X9_decision
set_option maxRecDepth 100000 in
set_option maxHeartbeats 4000000 in
theorem zm_X9_decision {l : Launch} {G : zG} {p1 : Int32} {p2 : Int32} {M : zM} {Kf : Int32 → zM → Prop} (h : (zCalI l G Y_X9_in 0 0 [vi p1, vi 0, vi ((zmI (zsI M 30 0 7 0) 31 0 12) - 1)] (zsI M 30 0 7 0) (fun x3 M2 => ((¬ x3 = 0 → zAt l G Y_X9_decision (zEI G Y_X9_decision Kf) 28 [(0, vr 30 0), (1, vi p1), (2, vi p2)] [vi 0, vr 30 0] M2 0 0) ∧ (x3 = 0 → zAt l G Y_X9_decision (zEI G Y_X9_decision Kf) 28 [(0, vr 30 0), (1, vi p1), (2, vi p2)] [vi 1, vr 30 0] M2 0 0))))) : zCalI l G Y_X9_decision 0 0 [vr 30 0, vi p1, vi p2] M Kf := by
  refine zCal_of (lv := [(0, vr 30 0), (1, vi p1), (2, vi p2)]) (by decide) rfl (zle rfl) rfl (fun hv => zlv_args (lv := [(0, vr 30 0), (1, vi p1), (2, vi p2)]) rfl hv) ?_
  refine Z_aload_n dX9_decision_0 rfl 0 rfl ?_
  refine Z_iconst (v := 0) (by decide) dX9_decision_1 ?_
  refine Z_putI zfp_X9_60 rfl rfl dX9_decision_2 ?_
  refine Z_aload_n dX9_decision_5 rfl 0 rfl ?_
  refine Z_iload_n dX9_decision_6 rfl 1 rfl ?_
  refine Z_iconst (v := 0) (by decide) dX9_decision_7 ?_
  refine Z_aload_n dX9_decision_8 rfl 0 rfl ?_
  refine Z_getR (s1 := 31) (i1 := 0) zfl_X9_9 rfl (fun q => by first | exact q | decide) dX9_decision_9 ?_
  refine Z_bipush (v := 12) (by decide) dX9_decision_12 ?_
  refine Z_ialdK (n := 484) (j := 12) rfl (by decide) (zvin (by decide)) dX9_decision_14 ?_
  refine Z_iconst (v := 1) (by decide) dX9_decision_15 ?_
  refine Z_isub dX9_decision_16 ?_
  refine Z_callSI (as := [vi p1, vi 0, vi ((zmI (zsI M 30 0 7 0) 31 0 12) - 1)]) zRm_M zcs_X9_decision_X9_in_63 rfl rfl (zle rfl) dX9_decision_17 ⟨Nat.le_refl _, Nat.le_refl _⟩ h (fun x3 M2 h => ?_)
  refine Z_if_ne (tgt := 27) dX9_decision_20 (by decide) (fun q => ?_) (fun q => ?_)
  · have h := h.1 q
    refine Z_iconst (v := 0) (by decide) dX9_decision_27 ?_
    exact h
  · have h := h.2 q
    refine Z_iconst (v := 1) (by decide) dX9_decision_23 ?_
    refine Z_goto (tgt := 28) dX9_decision_24 (by decide) ?_
    exact h
set_option maxRecDepth 100000 in
set_option maxHeartbeats 4000000 in
theorem zb_X9_decision_28 {l : Launch} {G : zG} {y1 : Int32} {y2 : Int32} {s0 : Int32} {M : zM} {Kf : Int32 → zM → Prop} (h : (zCalI l G Y_X9_fails 0 0 [vr 30 0, vi s0, vi 1] M (fun x2 M1 => ((¬ x2 = 0 → (Kf 0 M1)) ∧ (x2 = 0 → (zCalI l G Y_X9_in 0 0 [vi y2, vi 0, vi 7] M1 (fun x4 M3 => ((¬ x4 = 0 → zAt l G Y_X9_decision (zEI G Y_X9_decision Kf) 51 [(0, vr 30 0), (1, vi y1), (2, vi y2)] [vi 0, vr 30 0] M3 0 0) ∧ (x4 = 0 → zAt l G Y_X9_decision (zEI G Y_X9_decision Kf) 51 [(0, vr 30 0), (1, vi y1), (2, vi y2)] [vi 1, vr 30 0] M3 0 0))))))))) : zAt l G Y_X9_decision (zEI G Y_X9_decision Kf) 28 [(0, vr 30 0), (1, vi y1), (2, vi y2)] [vi s0, vr 30 0] M 0 0 := by
  refine Z_iconst (v := 1) (by decide) dX9_decision_28 ?_
  refine Z_callVI (as := [vi s0, vi 1]) zRm_M zcv_X9_decision_X9_fails_366 (ci := 13) rfl rfl rfl rfl (zle rfl) dX9_decision_29 ⟨Nat.le_refl _, Nat.le_refl _⟩ h (fun x2 M1 h => ?_)
  refine Z_if_ne (tgt := 58) dX9_decision_32 (by decide) (fun q => ?_) (fun q => ?_)
  · have h := h.1 q
    refine Z_iconst (v := 0) (by decide) dX9_decision_58 ?_
    refine Z_goto (tgt := 68) dX9_decision_59 (by decide) ?_
    exact Z_iret rfl rfl dX9_decision_68 (Nat.le_refl _) (Nat.le_refl _) ⟨_, rfl, h⟩
  · have h := h.2 q
    refine Z_aload_n dX9_decision_35 rfl 0 rfl ?_
    refine Z_iload_n dX9_decision_36 rfl 2 rfl ?_
    refine Z_iconst (v := 0) (by decide) dX9_decision_37 ?_
    refine Z_bipush (v := 7) (by decide) dX9_decision_38 ?_
    refine Z_callSI (as := [vi y2, vi 0, vi 7]) zRm_M zcs_X9_decision_X9_in_63 rfl rfl (zle rfl) dX9_decision_40 ⟨Nat.le_refl _, Nat.le_refl _⟩ h (fun x4 M3 h => ?_)
    refine Z_if_ne (tgt := 50) dX9_decision_43 (by decide) (fun q => ?_) (fun q => ?_)
    · have h := h.1 q
      refine Z_iconst (v := 0) (by decide) dX9_decision_50 ?_
      exact h
    · have h := h.2 q
      refine Z_iconst (v := 1) (by decide) dX9_decision_46 ?_
      refine Z_goto (tgt := 51) dX9_decision_47 (by decide) ?_
      exact h
set_option maxRecDepth 100000 in
set_option maxHeartbeats 4000000 in
theorem zb_X9_decision_51 {l : Launch} {G : zG} {y1 : Int32} {y2 : Int32} {s0 : Int32} {M : zM} {Kf : Int32 → zM → Prop} (h : (zCalI l G Y_X9_fails 0 0 [vr 30 0, vi s0, vi 2] M (fun x2 M1 => ((x2 = 0 → (zCalI l G Y_X9_ofDecision 0 0 [vr 30 0, vi y1, vi y2] M1 (fun x4 M3 => (Kf x4 M3)))) ∧ (¬ x2 = 0 → (Kf 0 M1)))))) : zAt l G Y_X9_decision (zEI G Y_X9_decision Kf) 51 [(0, vr 30 0), (1, vi y1), (2, vi y2)] [vi s0, vr 30 0] M 0 0 := by
  refine Z_iconst (v := 2) (by decide) dX9_decision_51 ?_
  refine Z_callVI (as := [vi s0, vi 2]) zRm_M zcv_X9_decision_X9_fails_366 (ci := 13) rfl rfl rfl rfl (zle rfl) dX9_decision_52 ⟨Nat.le_refl _, Nat.le_refl _⟩ h (fun x2 M1 h => ?_)
  refine Z_if_eq (tgt := 62) dX9_decision_55 (by decide) (fun q => ?_) (fun q => ?_)
  · have h := h.1 q
    refine Z_aload_n dX9_decision_62 rfl 0 rfl ?_
    refine Z_iload_n dX9_decision_63 rfl 1 rfl ?_
    refine Z_iload_n dX9_decision_64 rfl 2 rfl ?_
    refine Z_callVI (as := [vi y1, vi y2]) zRm_M zcv_X9_decision_X9_ofDecision_390 (ci := 13) rfl rfl rfl rfl (zle rfl) dX9_decision_65 ⟨Nat.le_refl _, Nat.le_refl _⟩ h (fun x4 M3 h => ?_)
    exact Z_iret rfl rfl dX9_decision_68 (Nat.le_refl _) (Nat.le_refl _) ⟨_, rfl, h⟩
  · have h := h.2 q
    refine Z_iconst (v := 0) (by decide) dX9_decision_58 ?_
    refine Z_goto (tgt := 68) dX9_decision_59 (by decide) ?_
    exact Z_iret rfl rfl dX9_decision_68 (Nat.le_refl _) (Nat.le_refl _) ⟨_, rfl, h⟩
-- X9_endOfChance
set_option maxRecDepth 100000 in
set_option maxHeartbeats 4000000 in
theorem zm_X9_endOfChance {l : Launch} {G : zG} {M : zM} {Kf : Int32 → zM → Prop} (h : ((¬ (zmI M 31 0 6) = 1 → (zCalI l G Y_X9_high 0 0 [vr 30 0] M (fun x3 M2 => (Kf x3 M2)))) ∧ ((zmI M 31 0 6) = 1 → (zCalI l G Y_X9_high 0 0 [vr 30 0] M (fun x5 M4 => (Kf (2 * x5) M4)))))) : zCalI l G Y_X9_endOfChance 0 0 [vr 30 0] M Kf := by
  refine zCal_of (lv := [(0, vr 30 0)]) (by decide) rfl (zle rfl) rfl (fun hv => zlv_args (lv := [(0, vr 30 0)]) rfl hv) ?_
  refine Z_aload_n dX9_endOfChance_0 rfl 0 rfl ?_
  refine Z_getR (s1 := 31) (i1 := 0) zfl_X9_9 rfl (fun q => by first | exact q | decide) dX9_endOfChance_1 ?_
  refine Z_bipush (v := 6) (by decide) dX9_endOfChance_4 ?_
  refine Z_ialdK (n := 484) (j := 6) rfl (by decide) (zvin (by decide)) dX9_endOfChance_6 ?_
  refine Z_iconst (v := 1) (by decide) dX9_endOfChance_7 ?_
  refine Z_icmp_ne (tgt := 20) dX9_endOfChance_8 (by decide) (fun q => ?_) (fun q => ?_)
  · have h := h.1 q
    refine Z_aload_n dX9_endOfChance_20 rfl 0 rfl ?_
    refine Z_callVI (as := []) zRm_M zcv_X9_endOfChance_X9_high_78 (ci := 13) rfl rfl rfl rfl (zle rfl) dX9_endOfChance_21 ⟨Nat.le_refl _, Nat.le_refl _⟩ h (fun x3 M2 h => ?_)
    exact Z_iret rfl rfl dX9_endOfChance_24 (Nat.le_refl _) (Nat.le_refl _) ⟨_, rfl, h⟩
  · have h := h.2 q
    refine Z_iconst (v := 2) (by decide) dX9_endOfChance_11 ?_
    refine Z_aload_n dX9_endOfChance_12 rfl 0 rfl ?_
    refine Z_callVI (as := []) zRm_M zcv_X9_endOfChance_X9_high_78 (ci := 13) rfl rfl rfl rfl (zle rfl) dX9_endOfChance_13 ⟨Nat.le_refl _, Nat.le_refl _⟩ h (fun x5 M4 h => ?_)
    refine Z_imul dX9_endOfChance_16 ?_
    refine Z_goto (tgt := 24) dX9_endOfChance_17 (by decide) ?_
    exact Z_iret rfl rfl dX9_endOfChance_24 (Nat.le_refl _) (Nat.le_refl _) ⟨_, rfl, h⟩
-- X9_isDigitAt
set_option maxRecDepth 100000 in
set_option maxHeartbeats 4000000 in
theorem zm_X9_isDigitAt {l : Launch} {G : zG} {p1 : Int32} {M : zM} {Kf : Int32 → zM → Prop} (h : (zCalI l G Y_X9_byteAt 0 0 [vr 30 0, vi p1] M (fun x2 M1 => (zCalI l G Y_X9_in 0 0 [vi x2, vi 48, vi 57] M1 (fun x4 M3 => (zbit x4 ∧ Kf x4 M3)))))) : zCalI l G Y_X9_isDigitAt 0 0 [vr 30 0, vi p1] M Kf := by
  refine zCal_of (lv := [(0, vr 30 0), (1, vi p1)]) (by decide) rfl (zle rfl) rfl (fun hv => zlv_args (lv := [(0, vr 30 0), (1, vi p1)]) rfl hv) ?_
  refine Z_aload_n dX9_isDigitAt_0 rfl 0 rfl ?_
  refine Z_iload_n dX9_isDigitAt_1 rfl 1 rfl ?_
  refine Z_callVI (as := [vi p1]) zRm_M zcv_X9_isDigitAt_X9_byteAt_188 (ci := 13) rfl rfl rfl rfl (zle rfl) dX9_isDigitAt_2 ⟨Nat.le_refl _, Nat.le_refl _⟩ h (fun x2 M1 h => ?_)
  refine Z_bipush (v := 48) (by decide) dX9_isDigitAt_5 ?_
  refine Z_bipush (v := 57) (by decide) dX9_isDigitAt_7 ?_
  refine Z_callSI (as := [vi x2, vi 48, vi 57]) zRm_M zcs_X9_isDigitAt_X9_in_63 rfl rfl (zle rfl) dX9_isDigitAt_9 ⟨Nat.le_refl _, Nat.le_refl _⟩ h (fun x4 M3 h => ?_)
  obtain ⟨hz, h⟩ := h
  exact Z_iret rfl (zbit_n hz) dX9_isDigitAt_12 (Nat.le_refl _) (Nat.le_refl _) ⟨_, rfl, h⟩
-- X9_isFlow
set_option maxRecDepth 100000 in
set_option maxHeartbeats 4000000 in
theorem zm_X9_isFlow {l : Launch} {G : zG} {p1 : Int32} {M : zM} {Kf : Int32 → zM → Prop} (h : (zCalI l G Y_X9_in 0 0 [vi p1, vi 0, vi ((zmI M 31 0 11) - 1)] M (fun x3 M2 => (zbit x3 ∧ Kf x3 M2)))) : zCalI l G Y_X9_isFlow 0 0 [vr 30 0, vi p1] M Kf := by
  refine zCal_of (lv := [(0, vr 30 0), (1, vi p1)]) (by decide) rfl (zle rfl) rfl (fun hv => zlv_args (lv := [(0, vr 30 0), (1, vi p1)]) rfl hv) ?_
  refine Z_iload_n dX9_isFlow_0 rfl 1 rfl ?_
  refine Z_iconst (v := 0) (by decide) dX9_isFlow_1 ?_
  refine Z_aload_n dX9_isFlow_2 rfl 0 rfl ?_
  refine Z_getR (s1 := 31) (i1 := 0) zfl_X9_9 rfl (fun q => by first | exact q | decide) dX9_isFlow_3 ?_
  refine Z_bipush (v := 11) (by decide) dX9_isFlow_6 ?_
  refine Z_ialdK (n := 484) (j := 11) rfl (by decide) (zvin (by decide)) dX9_isFlow_8 ?_
  refine Z_iconst (v := 1) (by decide) dX9_isFlow_9 ?_
  refine Z_isub dX9_isFlow_10 ?_
  refine Z_callSI (as := [vi p1, vi 0, vi ((zmI M 31 0 11) - 1)]) zRm_M zcs_X9_isFlow_X9_in_63 rfl rfl (zle rfl) dX9_isFlow_11 ⟨Nat.le_refl _, Nat.le_refl _⟩ h (fun x3 M2 h => ?_)
  obtain ⟨hz, h⟩ := h
  exact Z_iret rfl (zbit_n hz) dX9_isFlow_14 (Nat.le_refl _) (Nat.le_refl _) ⟨_, rfl, h⟩
-- X9_isLetterAt
set_option maxRecDepth 100000 in
set_option maxHeartbeats 4000000 in
theorem zm_X9_isLetterAt {l : Launch} {G : zG} {p1 : Int32} {M : zM} {Kf : Int32 → zM → Prop} (h : (zCalI l G Y_X9_byteAt 0 0 [vr 30 0, vi p1] M (fun x2 M1 => (zCalI l G Y_X9_in 0 0 [vi x2, vi 97, vi 122] M1 (fun x4 M3 => (zbit x4 ∧ Kf x4 M3)))))) : zCalI l G Y_X9_isLetterAt 0 0 [vr 30 0, vi p1] M Kf := by
  refine zCal_of (lv := [(0, vr 30 0), (1, vi p1)]) (by decide) rfl (zle rfl) rfl (fun hv => zlv_args (lv := [(0, vr 30 0), (1, vi p1)]) rfl hv) ?_
  refine Z_aload_n dX9_isLetterAt_0 rfl 0 rfl ?_
  refine Z_iload_n dX9_isLetterAt_1 rfl 1 rfl ?_
  refine Z_callVI (as := [vi p1]) zRm_M zcv_X9_isLetterAt_X9_byteAt_188 (ci := 13) rfl rfl rfl rfl (zle rfl) dX9_isLetterAt_2 ⟨Nat.le_refl _, Nat.le_refl _⟩ h (fun x2 M1 h => ?_)
  refine Z_bipush (v := 97) (by decide) dX9_isLetterAt_5 ?_
  refine Z_bipush (v := 122) (by decide) dX9_isLetterAt_7 ?_
  refine Z_callSI (as := [vi x2, vi 97, vi 122]) zRm_M zcs_X9_isLetterAt_X9_in_63 rfl rfl (zle rfl) dX9_isLetterAt_9 ⟨Nat.le_refl _, Nat.le_refl _⟩ h (fun x4 M3 h => ?_)
  obtain ⟨hz, h⟩ := h
  exact Z_iret rfl (zbit_n hz) dX9_isLetterAt_12 (Nat.le_refl _) (Nat.le_refl _) ⟨_, rfl, h⟩
-- X9_isName
set_option maxRecDepth 100000 in
set_option maxHeartbeats 4000000 in
theorem zm_X9_isName {l : Launch} {G : zG} {p1 : Int32} {M : zM} {Kf : Int32 → zM → Prop} (h : (vp_in ((16 + (26 * p1)) + 9) 484 ∧ (zCalI l G Y_X9_length 0 0 [vr 30 0] M (fun x3 M2 => (((zmI M 31 0 ((16 + (26 * p1)) + 9).toNatClampNeg) = x3 → zAt l G Y_X9_isName (zEI G Y_X9_isName Kf) 28 [(0, vr 30 0), (2, vi ((16 + (26 * p1)) + 9)), (3, vi 0)] [] M2 0 0) ∧ (¬ (zmI M 31 0 ((16 + (26 * p1)) + 9).toNatClampNeg) = x3 → (Kf 0 M2))))))) : zCalI l G Y_X9_isName 0 0 [vr 30 0, vi p1] M Kf := by
  refine zCal_of (lv := [(0, vr 30 0), (1, vi p1)]) (by decide) rfl (zle rfl) rfl (fun hv => zlv_args (lv := [(0, vr 30 0), (1, vi p1)]) rfl hv) ?_
  refine Z_bipush (v := 16) (by decide) dX9_isName_0 ?_
  refine Z_bipush (v := 26) (by decide) dX9_isName_2 ?_
  refine Z_iload_n dX9_isName_4 rfl 1 rfl ?_
  refine Z_imul dX9_isName_5 ?_
  refine Z_iadd dX9_isName_6 ?_
  refine Z_bipush (v := 9) (by decide) dX9_isName_7 ?_
  refine Z_iadd dX9_isName_9 ?_
  refine Z_istore_n (lv2 := [(2, vi ((16 + (26 * p1)) + 9)), (0, vr 30 0), (1, vi p1)]) dX9_isName_10 rfl (by decide) rfl ?_
  refine Z_aload_n dX9_isName_11 rfl 1 rfl ?_
  refine Z_getR (s1 := 31) (i1 := 0) zfl_X9_9 rfl (fun q => by first | exact q | decide) dX9_isName_12 ?_
  refine Z_iload_n dX9_isName_15 rfl 0 rfl ?_
  obtain ⟨g1, h⟩ := h
  refine Z_iald (n := 484) rfl g1 dX9_isName_16 ?_
  refine Z_aload_n dX9_isName_17 rfl 1 rfl ?_
  refine Z_callVI (as := []) zRm_M zcv_X9_isName_X9_length_216 (ci := 13) rfl rfl rfl rfl (zle rfl) dX9_isName_18 ⟨Nat.le_refl _, Nat.le_refl _⟩ h (fun x3 M2 h => ?_)
  refine Z_icmp_eq (tgt := 26) dX9_isName_21 (by decide) (fun q => ?_) (fun q => ?_)
  · have h := h.1 q
    refine Z_iconst (v := 0) (by decide) dX9_isName_26 ?_
    refine Z_istore_n (lv2 := [(3, vi 0), (2, vi ((16 + (26 * p1)) + 9)), (0, vr 30 0), (1, vi p1)]) dX9_isName_27 rfl (by decide) rfl ?_
    exact Z_pick [2, 1, 0] rfl h
  · have h := h.2 q
    refine Z_iconst (v := 0) (by decide) dX9_isName_24 ?_
    exact Z_iret rfl (by decide) dX9_isName_25 (Nat.le_refl _) (Nat.le_refl _) ⟨_, rfl, h⟩
set_option maxRecDepth 100000 in
set_option maxHeartbeats 4000000 in
theorem zb_X9_isName_28 {l : Launch} {G : zG} {y2 : Int32} {y3 : Int32} {M : zM} {Kf : Int32 → zM → Prop} (h : (zCalI l G Y_X9_length 0 0 [vr 30 0] M (fun x2 M1 => ((x2 ≤ y3 → (Kf 1 M1)) ∧ (¬ x2 ≤ y3 → (vp_in ((y2 + 1) + y3) 484 ∧ (vp_in ((zmI M1 30 0 11) + y3) 500 ∧ (((zmI M1 31 0 ((y2 + 1) + y3).toNatClampNeg) = (zmI M1 37 0 ((zmI M1 30 0 11) + y3).toNatClampNeg) → zAt l G Y_X9_isName (zEI G Y_X9_isName Kf) 28 [(0, vr 30 0), (2, vi y2), (3, vi (y3 + 1))] [] M1 0 0) ∧ (¬ (zmI M1 31 0 ((y2 + 1) + y3).toNatClampNeg) = (zmI M1 37 0 ((zmI M1 30 0 11) + y3).toNatClampNeg) → (Kf 0 M1)))))))))) : zAt l G Y_X9_isName (zEI G Y_X9_isName Kf) 28 [(0, vr 30 0), (2, vi y2), (3, vi y3)] [] M 0 0 := by
  refine Z_iload_n dX9_isName_28 rfl 2 rfl ?_
  refine Z_aload_n dX9_isName_29 rfl 0 rfl ?_
  refine Z_callVI (as := []) zRm_M zcv_X9_isName_X9_length_216 (ci := 13) rfl rfl rfl rfl (zle rfl) dX9_isName_30 ⟨Nat.le_refl _, Nat.le_refl _⟩ h (fun x2 M1 h => ?_)
  refine Z_icmp_ge (tgt := 68) dX9_isName_33 (by decide) (fun q => ?_) (fun q => ?_)
  · have h := h.1 q
    refine Z_iconst (v := 1) (by decide) dX9_isName_68 ?_
    exact Z_iret rfl (by decide) dX9_isName_69 (Nat.le_refl _) (Nat.le_refl _) ⟨_, rfl, h⟩
  · have h := h.2 q
    refine Z_aload_n dX9_isName_36 rfl 0 rfl ?_
    refine Z_getR (s1 := 31) (i1 := 0) zfl_X9_9 rfl (fun q => by first | exact q | decide) dX9_isName_37 ?_
    refine Z_iload_n dX9_isName_40 rfl 1 rfl ?_
    refine Z_iconst (v := 1) (by decide) dX9_isName_41 ?_
    refine Z_iadd dX9_isName_42 ?_
    refine Z_iload_n dX9_isName_43 rfl 2 rfl ?_
    refine Z_iadd dX9_isName_44 ?_
    obtain ⟨g3, h⟩ := h
    refine Z_iald (n := 484) rfl g3 dX9_isName_45 ?_
    refine Z_aload_n dX9_isName_46 rfl 0 rfl ?_
    refine Z_getR (s1 := 37) (i1 := 0) zfl_X9_29 rfl (fun q => by first | exact q | decide) dX9_isName_47 ?_
    refine Z_aload_n dX9_isName_50 rfl 0 rfl ?_
    refine Z_getI zfl_X9_194 dX9_isName_51 ?_
    refine Z_iload_n dX9_isName_54 rfl 2 rfl ?_
    refine Z_iadd dX9_isName_55 ?_
    obtain ⟨g4, h⟩ := h
    refine Z_iald (n := 500) rfl g4 dX9_isName_56 ?_
    refine Z_icmp_eq (tgt := 62) dX9_isName_57 (by decide) (fun q => ?_) (fun q => ?_)
    · have h := h.1 q
      refine Z_iinc (v := (y3 + 1)) (lv2 := [(3, vi (y3 + 1)), (0, vr 30 0), (2, vi y2)]) dX9_isName_62 2 rfl rfl (by decide) rfl ?_
      refine Z_goto (tgt := 28) dX9_isName_65 (by decide) ?_
      exact Z_pick [1, 2, 0] rfl h
    · have h := h.2 q
      refine Z_iconst (v := 0) (by decide) dX9_isName_60 ?_
      exact Z_iret rfl (by decide) dX9_isName_61 (Nat.le_refl _) (Nat.le_refl _) ⟨_, rfl, h⟩
-- X9_isOn
set_option maxRecDepth 100000 in
set_option maxHeartbeats 4000000 in
theorem zm_X9_isOn {l : Launch} {G : zG} {p1 : Int32} {M : zM} {Kf : Int32 → zM → Prop} (h : (zCalI l G Y_X9_ofFlow 0 0 [vr 30 0, vi p1, vi 5] M (fun x2 M1 => ((¬ x2 = 1 → (Kf 0 M1)) ∧ (x2 = 1 → (Kf 1 M1)))))) : zCalI l G Y_X9_isOn 0 0 [vr 30 0, vi p1] M Kf := by
  refine zCal_of (lv := [(0, vr 30 0), (1, vi p1)]) (by decide) rfl (zle rfl) rfl (fun hv => zlv_args (lv := [(0, vr 30 0), (1, vi p1)]) rfl hv) ?_
  refine Z_aload_n dX9_isOn_0 rfl 0 rfl ?_
  refine Z_iload_n dX9_isOn_1 rfl 1 rfl ?_
  refine Z_iconst (v := 5) (by decide) dX9_isOn_2 ?_
  refine Z_callVI (as := [vi p1, vi 5]) zRm_M zcv_X9_isOn_X9_ofFlow_67 (ci := 13) rfl rfl rfl rfl (zle rfl) dX9_isOn_3 ⟨Nat.le_refl _, Nat.le_refl _⟩ h (fun x2 M1 h => ?_)
  refine Z_iconst (v := 1) (by decide) dX9_isOn_6 ?_
  refine Z_icmp_ne (tgt := 14) dX9_isOn_7 (by decide) (fun q => ?_) (fun q => ?_)
  · have h := h.1 q
    refine Z_iconst (v := 0) (by decide) dX9_isOn_14 ?_
    exact Z_iret rfl (by decide) dX9_isOn_15 (Nat.le_refl _) (Nat.le_refl _) ⟨_, rfl, h⟩
  · have h := h.2 q
    refine Z_iconst (v := 1) (by decide) dX9_isOn_10 ?_
    refine Z_goto (tgt := 15) dX9_isOn_11 (by decide) ?_
    exact Z_iret rfl (by decide) dX9_isOn_15 (Nat.le_refl _) (Nat.le_refl _) ⟨_, rfl, h⟩
-- X9_letsIn
set_option maxRecDepth 100000 in
set_option maxHeartbeats 4000000 in
theorem zm_X9_letsIn {l : Launch} {G : zG} {p1 : Int32} {p2 : Int32} {M : zM} {Kf : zM → Prop} (h : (vp_in ((172 + (3 * (zmI M 31 0 8))) + 0) 484 ∧ (vp_in ((172 + (3 * (zmI M 31 0 8))) + 1) 484 ∧ (zCalI l G Y_X9_one 0 0 [vi p2] (zsI (zsI M 31 0 ((172 + (3 * (zmI M 31 0 8))) + 0).toNatClampNeg p1) 31 0 ((172 + (3 * (zmI M 31 0 8))) + 1).toNatClampNeg (zmI (zsI M 31 0 ((172 + (3 * (zmI M 31 0 8))) + 0).toNatClampNeg p1) 31 0 7)) (fun x6 M5 => (vp_in ((172 + (3 * (zmI M 31 0 8))) + 2) 484 ∧ (Kf (zsI (zsI M5 31 0 ((172 + (3 * (zmI M 31 0 8))) + 2).toNatClampNeg x6) 31 0 8 ((zmI (zsI M5 31 0 ((172 + (3 * (zmI M 31 0 8))) + 2).toNatClampNeg x6) 31 0 8) + 1))))))))) : zCalV l G Y_X9_letsIn 0 0 [vr 30 0, vi p1, vi p2] M Kf := by
  refine zCal_of (lv := [(0, vr 30 0), (1, vi p1), (2, vi p2)]) (by decide) rfl (zle rfl) rfl (fun hv => zlv_args (lv := [(0, vr 30 0), (1, vi p1), (2, vi p2)]) rfl hv) ?_
  refine Z_sipush (v := 172) (by decide) dX9_letsIn_0 ?_
  refine Z_iconst (v := 3) (by decide) dX9_letsIn_3 ?_
  refine Z_aload_n dX9_letsIn_4 rfl 0 rfl ?_
  refine Z_getR (s1 := 31) (i1 := 0) zfl_X9_9 rfl (fun q => by first | exact q | decide) dX9_letsIn_5 ?_
  refine Z_bipush (v := 8) (by decide) dX9_letsIn_8 ?_
  refine Z_ialdK (n := 484) (j := 8) rfl (by decide) (zvin (by decide)) dX9_letsIn_10 ?_
  refine Z_imul dX9_letsIn_11 ?_
  refine Z_iadd dX9_letsIn_12 ?_
  refine Z_istore_n (lv2 := [(3, vi (172 + (3 * (zmI M 31 0 8)))), (0, vr 30 0), (1, vi p1), (2, vi p2)]) dX9_letsIn_13 rfl (by decide) rfl ?_
  refine Z_aload_n dX9_letsIn_14 rfl 1 rfl ?_
  refine Z_getR (s1 := 31) (i1 := 0) zfl_X9_9 rfl (fun q => by first | exact q | decide) dX9_letsIn_15 ?_
  refine Z_iload_n dX9_letsIn_18 rfl 0 rfl ?_
  refine Z_iconst (v := 0) (by decide) dX9_letsIn_19 ?_
  refine Z_iadd dX9_letsIn_20 ?_
  refine Z_iload_n dX9_letsIn_21 rfl 2 rfl ?_
  obtain ⟨g2, h⟩ := h
  refine Z_iast (n := 484) rfl g2 dX9_letsIn_22 ?_
  refine Z_aload_n dX9_letsIn_23 rfl 1 rfl ?_
  refine Z_getR (s1 := 31) (i1 := 0) zfl_X9_9 rfl (fun q => by first | exact q | decide) dX9_letsIn_24 ?_
  refine Z_iload_n dX9_letsIn_27 rfl 0 rfl ?_
  refine Z_iconst (v := 1) (by decide) dX9_letsIn_28 ?_
  refine Z_iadd dX9_letsIn_29 ?_
  refine Z_aload_n dX9_letsIn_30 rfl 1 rfl ?_
  refine Z_getR (s1 := 31) (i1 := 0) zfl_X9_9 rfl (fun q => by first | exact q | decide) dX9_letsIn_31 ?_
  refine Z_bipush (v := 7) (by decide) dX9_letsIn_34 ?_
  refine Z_ialdK (n := 484) (j := 7) rfl (by decide) (zvin (by decide)) dX9_letsIn_36 ?_
  obtain ⟨g4, h⟩ := h
  refine Z_iast (n := 484) rfl g4 dX9_letsIn_37 ?_
  refine Z_aload_n dX9_letsIn_38 rfl 1 rfl ?_
  refine Z_getR (s1 := 31) (i1 := 0) zfl_X9_9 rfl (fun q => by first | exact q | decide) dX9_letsIn_39 ?_
  refine Z_iload_n dX9_letsIn_42 rfl 0 rfl ?_
  refine Z_iconst (v := 2) (by decide) dX9_letsIn_43 ?_
  refine Z_iadd dX9_letsIn_44 ?_
  refine Z_iload_n dX9_letsIn_45 rfl 3 rfl ?_
  refine Z_callSI (as := [vi p2]) zRm_M zcs_X9_letsIn_X9_one_99 rfl rfl (zle rfl) dX9_letsIn_46 ⟨Nat.le_refl _, Nat.le_refl _⟩ h (fun x6 M5 h => ?_)
  obtain ⟨g7, h⟩ := h
  refine Z_iast (n := 484) rfl g7 dX9_letsIn_49 ?_
  refine Z_aload_n dX9_letsIn_50 rfl 1 rfl ?_
  refine Z_getR (s1 := 31) (i1 := 0) zfl_X9_9 rfl (fun q => by first | exact q | decide) dX9_letsIn_51 ?_
  refine Z_bipush (v := 8) (by decide) dX9_letsIn_54 ?_
  refine Z_dup2 rfl rfl dX9_letsIn_56 ?_
  refine Z_ialdK (n := 484) (j := 8) rfl (by decide) (zvin (by decide)) dX9_letsIn_57 ?_
  refine Z_iconst (v := 1) (by decide) dX9_letsIn_58 ?_
  refine Z_iadd dX9_letsIn_59 ?_
  refine Z_iastK (n := 484) (j := 8) rfl (by decide) (zvin (by decide)) dX9_letsIn_60 ?_
  exact Z_vret rfl dX9_letsIn_61 (Nat.le_refl _) (Nat.le_refl _) ⟨rfl, h⟩
-- X9_noAccount
set_option maxRecDepth 100000 in
set_option maxHeartbeats 4000000 in
theorem zm_X9_noAccount {l : Launch} {G : zG} {p1 : Int32} {M : zM} {Kf : Int32 → zM → Prop} (h : (zCalI l G Y_X9_in 0 0 [vi p1, vi 0, vi 7] M (fun x2 M1 => ((¬ x2 = 0 → zAt l G Y_X9_noAccount (zEI G Y_X9_noAccount Kf) 16 [] [vi 0, vr 30 0] M1 0 0) ∧ (x2 = 0 → zAt l G Y_X9_noAccount (zEI G Y_X9_noAccount Kf) 16 [] [vi 1, vr 30 0] M1 0 0))))) : zCalI l G Y_X9_noAccount 0 0 [vr 30 0, vi p1] M Kf := by
  refine zCal_of (lv := [(0, vr 30 0), (1, vi p1)]) (by decide) rfl (zle rfl) rfl (fun hv => zlv_args (lv := [(0, vr 30 0), (1, vi p1)]) rfl hv) ?_
  refine Z_aload_n dX9_noAccount_0 rfl 0 rfl ?_
  refine Z_iload_n dX9_noAccount_1 rfl 1 rfl ?_
  refine Z_iconst (v := 0) (by decide) dX9_noAccount_2 ?_
  refine Z_bipush (v := 7) (by decide) dX9_noAccount_3 ?_
  refine Z_callSI (as := [vi p1, vi 0, vi 7]) zRm_M zcs_X9_noAccount_X9_in_63 rfl rfl (zle rfl) dX9_noAccount_5 ⟨Nat.le_refl _, Nat.le_refl _⟩ h (fun x2 M1 h => ?_)
  refine Z_if_ne (tgt := 15) dX9_noAccount_8 (by decide) (fun q => ?_) (fun q => ?_)
  · have h := h.1 q
    refine Z_iconst (v := 0) (by decide) dX9_noAccount_15 ?_
    exact Z_pick [] rfl h
  · have h := h.2 q
    refine Z_iconst (v := 1) (by decide) dX9_noAccount_11 ?_
    refine Z_goto (tgt := 16) dX9_noAccount_12 (by decide) ?_
    exact Z_pick [] rfl h
set_option maxRecDepth 100000 in
set_option maxHeartbeats 4000000 in
theorem zb_X9_noAccount_16 {l : Launch} {G : zG} {s0 : Int32} {M : zM} {Kf : Int32 → zM → Prop} (h : (zCalI l G Y_X9_fails 0 0 [vr 30 0, vi s0, vi 2] M (fun x2 M1 => (zbit x2 ∧ Kf x2 M1)))) : zAt l G Y_X9_noAccount (zEI G Y_X9_noAccount Kf) 16 [] [vi s0, vr 30 0] M 0 0 := by
  refine Z_iconst (v := 2) (by decide) dX9_noAccount_16 ?_
  refine Z_callVI (as := [vi s0, vi 2]) zRm_M zcv_X9_noAccount_X9_fails_366 (ci := 13) rfl rfl rfl rfl (zle rfl) dX9_noAccount_17 ⟨Nat.le_refl _, Nat.le_refl _⟩ h (fun x2 M1 h => ?_)
  obtain ⟨hz, h⟩ := h
  exact Z_iret rfl (zbit_n hz) dX9_noAccount_20 (Nat.le_refl _) (Nat.le_refl _) ⟨_, rfl, h⟩
-- X9_noName
set_option maxRecDepth 100000 in
set_option maxHeartbeats 4000000 in
theorem zm_X9_noName {l : Launch} {G : zG} {M : zM} {Kf : Int32 → zM → Prop} (h : ((¬ (zmI M 30 0 13) = 1 → zAt l G Y_X9_noName (zEI G Y_X9_noName Kf) 18 [] [vr 30 0] M 0 0) ∧ ((zmI M 30 0 13) = 1 → (zCalI l G Y_X9_length 0 0 [vr 30 0] M (fun x2 M1 => ((x2 ≤ 8 → zAt l G Y_X9_noName (zEI G Y_X9_noName Kf) 23 [] [vi 0, vr 30 0] M1 0 0) ∧ (¬ x2 ≤ 8 → zAt l G Y_X9_noName (zEI G Y_X9_noName Kf) 18 [] [vr 30 0] M1 0 0))))))) : zCalI l G Y_X9_noName 0 0 [vr 30 0] M Kf := by
  refine zCal_of (lv := [(0, vr 30 0)]) (by decide) rfl (zle rfl) rfl (fun hv => zlv_args (lv := [(0, vr 30 0)]) rfl hv) ?_
  refine Z_aload_n dX9_noName_0 rfl 0 rfl ?_
  refine Z_aload_n dX9_noName_1 rfl 0 rfl ?_
  refine Z_getI zfl_X9_200 dX9_noName_2 ?_
  refine Z_iconst (v := 1) (by decide) dX9_noName_5 ?_
  refine Z_icmp_ne (tgt := 18) dX9_noName_6 (by decide) (fun q => ?_) (fun q => ?_)
  · have h := h.1 q
    exact Z_pick [] rfl h
  · have h := h.2 q
    refine Z_aload_n dX9_noName_9 rfl 0 rfl ?_
    refine Z_callVI (as := []) zRm_M zcv_X9_noName_X9_length_216 (ci := 13) rfl rfl rfl rfl (zle rfl) dX9_noName_10 ⟨Nat.le_refl _, Nat.le_refl _⟩ h (fun x2 M1 h => ?_)
    refine Z_bipush (v := 8) (by decide) dX9_noName_13 ?_
    refine Z_icmp_le (tgt := 22) dX9_noName_15 (by decide) (fun q => ?_) (fun q => ?_)
    · have h := h.1 q
      refine Z_iconst (v := 0) (by decide) dX9_noName_22 ?_
      exact Z_pick [] rfl h
    · have h := h.2 q
      exact Z_pick [] rfl h
set_option maxRecDepth 100000 in
set_option maxHeartbeats 4000000 in
theorem zb_X9_noName_18 {l : Launch} {G : zG}  {M : zM} {Kf : Int32 → zM → Prop} (h : zAt l G Y_X9_noName (zEI G Y_X9_noName Kf) 23 [] [vi 1, vr 30 0] M 0 0) : zAt l G Y_X9_noName (zEI G Y_X9_noName Kf) 18 [] [vr 30 0] M 0 0 := by
  refine Z_iconst (v := 1) (by decide) dX9_noName_18 ?_
  refine Z_goto (tgt := 23) dX9_noName_19 (by decide) ?_
  exact h
set_option maxRecDepth 100000 in
set_option maxHeartbeats 4000000 in
theorem zb_X9_noName_23 {l : Launch} {G : zG} {s0 : Int32} {M : zM} {Kf : Int32 → zM → Prop} (h : (zCalI l G Y_X9_wrong 0 0 [vr 30 0, vi s0, vi 1] M (fun x2 M1 => (zbit x2 ∧ Kf x2 M1)))) : zAt l G Y_X9_noName (zEI G Y_X9_noName Kf) 23 [] [vi s0, vr 30 0] M 0 0 := by
  refine Z_iconst (v := 1) (by decide) dX9_noName_23 ?_
  refine Z_callVI (as := [vi s0, vi 1]) zRm_M zcv_X9_noName_X9_wrong_229 (ci := 13) rfl rfl rfl rfl (zle rfl) dX9_noName_24 ⟨Nat.le_refl _, Nat.le_refl _⟩ h (fun x2 M1 h => ?_)
  obtain ⟨hz, h⟩ := h
  exact Z_iret rfl (zbit_n hz) dX9_noName_27 (Nat.le_refl _) (Nat.le_refl _) ⟨_, rfl, h⟩
-- X9_noSlot
set_option maxRecDepth 100000 in
set_option maxHeartbeats 4000000 in
theorem zm_X9_noSlot {l : Launch} {G : zG} {p1 : Int32} {M : zM} {Kf : Int32 → zM → Prop} (h : (zCalI l G Y_X9_in 0 0 [vi p1, vi 0, vi 1] M (fun x2 M1 => ((¬ x2 = 0 → zAt l G Y_X9_noSlot (zEI G Y_X9_noSlot Kf) 15 [] [vi 0, vr 30 0] M1 0 0) ∧ (x2 = 0 → zAt l G Y_X9_noSlot (zEI G Y_X9_noSlot Kf) 15 [] [vi 1, vr 30 0] M1 0 0))))) : zCalI l G Y_X9_noSlot 0 0 [vr 30 0, vi p1] M Kf := by
  refine zCal_of (lv := [(0, vr 30 0), (1, vi p1)]) (by decide) rfl (zle rfl) rfl (fun hv => zlv_args (lv := [(0, vr 30 0), (1, vi p1)]) rfl hv) ?_
  refine Z_aload_n dX9_noSlot_0 rfl 0 rfl ?_
  refine Z_iload_n dX9_noSlot_1 rfl 1 rfl ?_
  refine Z_iconst (v := 0) (by decide) dX9_noSlot_2 ?_
  refine Z_iconst (v := 1) (by decide) dX9_noSlot_3 ?_
  refine Z_callSI (as := [vi p1, vi 0, vi 1]) zRm_M zcs_X9_noSlot_X9_in_63 rfl rfl (zle rfl) dX9_noSlot_4 ⟨Nat.le_refl _, Nat.le_refl _⟩ h (fun x2 M1 h => ?_)
  refine Z_if_ne (tgt := 14) dX9_noSlot_7 (by decide) (fun q => ?_) (fun q => ?_)
  · have h := h.1 q
    refine Z_iconst (v := 0) (by decide) dX9_noSlot_14 ?_
    exact Z_pick [] rfl h
  · have h := h.2 q
    refine Z_iconst (v := 1) (by decide) dX9_noSlot_10 ?_
    refine Z_goto (tgt := 15) dX9_noSlot_11 (by decide) ?_
    exact Z_pick [] rfl h
set_option maxRecDepth 100000 in
set_option maxHeartbeats 4000000 in
theorem zb_X9_noSlot_15 {l : Launch} {G : zG} {s0 : Int32} {M : zM} {Kf : Int32 → zM → Prop} (h : (zCalI l G Y_X9_fails 0 0 [vr 30 0, vi s0, vi 1] M (fun x2 M1 => (zbit x2 ∧ Kf x2 M1)))) : zAt l G Y_X9_noSlot (zEI G Y_X9_noSlot Kf) 15 [] [vi s0, vr 30 0] M 0 0 := by
  refine Z_iconst (v := 1) (by decide) dX9_noSlot_15 ?_
  refine Z_callVI (as := [vi s0, vi 1]) zRm_M zcv_X9_noSlot_X9_fails_366 (ci := 13) rfl rfl rfl rfl (zle rfl) dX9_noSlot_16 ⟨Nat.le_refl _, Nat.le_refl _⟩ h (fun x2 M1 h => ?_)
  obtain ⟨hz, h⟩ := h
  exact Z_iret rfl (zbit_n hz) dX9_noSlot_19 (Nat.le_refl _) (Nat.le_refl _) ⟨_, rfl, h⟩
-- X9_noTicks
set_option maxRecDepth 100000 in
set_option maxHeartbeats 4000000 in
theorem zm_X9_noTicks {l : Launch} {G : zG} {p1 : Int32} {p2 : Int32} {p3 : Int32} {p4 : Int32} {M : zM} {Kf : Int32 → zM → Prop} (h : (zCalI l G Y_X9_in 0 0 [vi p1, vi p2, vi p3] M (fun x2 M1 => ((¬ x2 = 0 → zAt l G Y_X9_noTicks (zEI G Y_X9_noTicks Kf) 15 [(4, vi p4)] [vi 0, vr 30 0] M1 0 0) ∧ (x2 = 0 → zAt l G Y_X9_noTicks (zEI G Y_X9_noTicks Kf) 15 [(4, vi p4)] [vi 1, vr 30 0] M1 0 0))))) : zCalI l G Y_X9_noTicks 0 0 [vr 30 0, vi p1, vi p2, vi p3, vi p4] M Kf := by
  refine zCal_of (lv := [(0, vr 30 0), (1, vi p1), (2, vi p2), (3, vi p3), (4, vi p4)]) (by decide) rfl (zle rfl) rfl (fun hv => zlv_args (lv := [(0, vr 30 0), (1, vi p1), (2, vi p2), (3, vi p3), (4, vi p4)]) rfl hv) ?_
  refine Z_aload_n dX9_noTicks_0 rfl 0 rfl ?_
  refine Z_iload_n dX9_noTicks_1 rfl 1 rfl ?_
  refine Z_iload_n dX9_noTicks_2 rfl 2 rfl ?_
  refine Z_iload_n dX9_noTicks_3 rfl 3 rfl ?_
  refine Z_callSI (as := [vi p1, vi p2, vi p3]) zRm_M zcs_X9_noTicks_X9_in_63 rfl rfl (zle rfl) dX9_noTicks_4 ⟨Nat.le_refl _, Nat.le_refl _⟩ h (fun x2 M1 h => ?_)
  refine Z_if_ne (tgt := 14) dX9_noTicks_7 (by decide) (fun q => ?_) (fun q => ?_)
  · have h := h.1 q
    refine Z_iconst (v := 0) (by decide) dX9_noTicks_14 ?_
    exact Z_pick [4] rfl h
  · have h := h.2 q
    refine Z_iconst (v := 1) (by decide) dX9_noTicks_10 ?_
    refine Z_goto (tgt := 15) dX9_noTicks_11 (by decide) ?_
    exact Z_pick [4] rfl h
set_option maxRecDepth 100000 in
set_option maxHeartbeats 4000000 in
theorem zb_X9_noTicks_15 {l : Launch} {G : zG} {y4 : Int32} {s0 : Int32} {M : zM} {Kf : Int32 → zM → Prop} (h : (zCalI l G Y_X9_fails 0 0 [vr 30 0, vi s0, vi y4] M (fun x2 M1 => (zbit x2 ∧ Kf x2 M1)))) : zAt l G Y_X9_noTicks (zEI G Y_X9_noTicks Kf) 15 [(4, vi y4)] [vi s0, vr 30 0] M 0 0 := by
  refine Z_iload dX9_noTicks_15 0 rfl ?_
  refine Z_callVI (as := [vi s0, vi y4]) zRm_M zcv_X9_noTicks_X9_fails_366 (ci := 13) rfl rfl rfl rfl (zle rfl) dX9_noTicks_17 ⟨Nat.le_refl _, Nat.le_refl _⟩ h (fun x2 M1 h => ?_)
  obtain ⟨hz, h⟩ := h
  exact Z_iret rfl (zbit_n hz) dX9_noTicks_20 (Nat.le_refl _) (Nat.le_refl _) ⟨_, rfl, h⟩
-- X9_onMany
set_option maxRecDepth 100000 in
set_option maxHeartbeats 4000000 in
theorem zm_X9_onMany {l : Launch} {G : zG} {M : zM} {Kf : Int32 → zM → Prop} (h : zAt l G Y_X9_onMany (zEI G Y_X9_onMany Kf) 4 [(0, vr 30 0), (1, vi 0), (2, vi 0)] [] M 0 0) : zCalI l G Y_X9_onMany 0 0 [vr 30 0] M Kf := by
  refine zCal_of (lv := [(0, vr 30 0)]) (by decide) rfl (zle rfl) rfl (fun hv => zlv_args (lv := [(0, vr 30 0)]) rfl hv) ?_
  refine Z_iconst (v := 0) (by decide) dX9_onMany_0 ?_
  refine Z_istore_n (lv2 := [(1, vi 0), (0, vr 30 0)]) dX9_onMany_1 rfl (by decide) rfl ?_
  refine Z_iconst (v := 0) (by decide) dX9_onMany_2 ?_
  refine Z_istore_n (lv2 := [(2, vi 0), (1, vi 0), (0, vr 30 0)]) dX9_onMany_3 rfl (by decide) rfl ?_
  exact Z_pick [2, 1, 0] rfl h
set_option maxRecDepth 100000 in
set_option maxHeartbeats 4000000 in
theorem zb_X9_onMany_4 {l : Launch} {G : zG} {y1 : Int32} {y2 : Int32} {M : zM} {Kf : Int32 → zM → Prop} (h : (((zmI M 31 0 11) ≤ y2 → (Kf y1 M)) ∧ (¬ (zmI M 31 0 11) ≤ y2 → (zCalI l G Y_X9_ofFlow 0 0 [vr 30 0, vi y2, vi 5] M (fun x3 M2 => zAt l G Y_X9_onMany (zEI G Y_X9_onMany Kf) 4 [(0, vr 30 0), (1, vi (y1 + x3)), (2, vi (y2 + 1))] [] M2 0 0))))) : zAt l G Y_X9_onMany (zEI G Y_X9_onMany Kf) 4 [(0, vr 30 0), (1, vi y1), (2, vi y2)] [] M 0 0 := by
  refine Z_iload_n dX9_onMany_4 rfl 2 rfl ?_
  refine Z_aload_n dX9_onMany_5 rfl 0 rfl ?_
  refine Z_getR (s1 := 31) (i1 := 0) zfl_X9_9 rfl (fun q => by first | exact q | decide) dX9_onMany_6 ?_
  refine Z_bipush (v := 11) (by decide) dX9_onMany_9 ?_
  refine Z_ialdK (n := 484) (j := 11) rfl (by decide) (zvin (by decide)) dX9_onMany_11 ?_
  refine Z_icmp_ge (tgt := 30) dX9_onMany_12 (by decide) (fun q => ?_) (fun q => ?_)
  · have h := h.1 q
    refine Z_iload_n dX9_onMany_30 rfl 1 rfl ?_
    exact Z_iret rfl rfl dX9_onMany_31 (Nat.le_refl _) (Nat.le_refl _) ⟨_, rfl, h⟩
  · have h := h.2 q
    refine Z_iload_n dX9_onMany_15 rfl 1 rfl ?_
    refine Z_aload_n dX9_onMany_16 rfl 0 rfl ?_
    refine Z_iload_n dX9_onMany_17 rfl 2 rfl ?_
    refine Z_iconst (v := 5) (by decide) dX9_onMany_18 ?_
    refine Z_callVI (as := [vi y2, vi 5]) zRm_M zcv_X9_onMany_X9_ofFlow_67 (ci := 13) rfl rfl rfl rfl (zle rfl) dX9_onMany_19 ⟨Nat.le_refl _, Nat.le_refl _⟩ h (fun x3 M2 h => ?_)
    refine Z_iadd dX9_onMany_22 ?_
    refine Z_istore_n (lv2 := [(1, vi (y1 + x3)), (0, vr 30 0), (2, vi y2)]) dX9_onMany_23 rfl (by decide) rfl ?_
    refine Z_iinc (v := (y2 + 1)) (lv2 := [(2, vi (y2 + 1)), (1, vi (y1 + x3)), (0, vr 30 0)]) dX9_onMany_24 2 rfl rfl (by decide) rfl ?_
    refine Z_goto (tgt := 4) dX9_onMany_27 (by decide) ?_
    exact Z_pick [2, 1, 0] rfl h
-- X9_packet
set_option maxRecDepth 100000 in
set_option maxHeartbeats 4000000 in
theorem zm_X9_packet {l : Launch} {G : zG} {p1 : Int32} {p2 : Int32} {M : zM} {Kf : Int32 → zM → Prop} (h : (zCalI l G Y_X9_in 0 0 [vi p1, vi 0, vi ((zmI (zsI M 30 0 7 0) 31 0 8) - 1)] (zsI M 30 0 7 0) (fun x3 M2 => ((¬ x3 = 0 → zAt l G Y_X9_packet (zEI G Y_X9_packet Kf) 28 [(0, vr 30 0), (1, vi p1), (2, vi p2)] [vi 0, vr 30 0] M2 0 0) ∧ (x3 = 0 → zAt l G Y_X9_packet (zEI G Y_X9_packet Kf) 28 [(0, vr 30 0), (1, vi p1), (2, vi p2)] [vi 1, vr 30 0] M2 0 0))))) : zCalI l G Y_X9_packet 0 0 [vr 30 0, vi p1, vi p2] M Kf := by
  refine zCal_of (lv := [(0, vr 30 0), (1, vi p1), (2, vi p2)]) (by decide) rfl (zle rfl) rfl (fun hv => zlv_args (lv := [(0, vr 30 0), (1, vi p1), (2, vi p2)]) rfl hv) ?_
  refine Z_aload_n dX9_packet_0 rfl 0 rfl ?_
  refine Z_iconst (v := 0) (by decide) dX9_packet_1 ?_
  refine Z_putI zfp_X9_60 rfl rfl dX9_packet_2 ?_
  refine Z_aload_n dX9_packet_5 rfl 0 rfl ?_
  refine Z_iload_n dX9_packet_6 rfl 1 rfl ?_
  refine Z_iconst (v := 0) (by decide) dX9_packet_7 ?_
  refine Z_aload_n dX9_packet_8 rfl 0 rfl ?_
  refine Z_getR (s1 := 31) (i1 := 0) zfl_X9_9 rfl (fun q => by first | exact q | decide) dX9_packet_9 ?_
  refine Z_bipush (v := 8) (by decide) dX9_packet_12 ?_
  refine Z_ialdK (n := 484) (j := 8) rfl (by decide) (zvin (by decide)) dX9_packet_14 ?_
  refine Z_iconst (v := 1) (by decide) dX9_packet_15 ?_
  refine Z_isub dX9_packet_16 ?_
  refine Z_callSI (as := [vi p1, vi 0, vi ((zmI (zsI M 30 0 7 0) 31 0 8) - 1)]) zRm_M zcs_X9_packet_X9_in_63 rfl rfl (zle rfl) dX9_packet_17 ⟨Nat.le_refl _, Nat.le_refl _⟩ h (fun x3 M2 h => ?_)
  refine Z_if_ne (tgt := 27) dX9_packet_20 (by decide) (fun q => ?_) (fun q => ?_)
  · have h := h.1 q
    refine Z_iconst (v := 0) (by decide) dX9_packet_27 ?_
    exact h
  · have h := h.2 q
    refine Z_iconst (v := 1) (by decide) dX9_packet_23 ?_
    refine Z_goto (tgt := 28) dX9_packet_24 (by decide) ?_
    exact h
set_option maxRecDepth 100000 in
set_option maxHeartbeats 4000000 in
theorem zb_X9_packet_28 {l : Launch} {G : zG} {y1 : Int32} {y2 : Int32} {s0 : Int32} {M : zM} {Kf : Int32 → zM → Prop} (h : (zCalI l G Y_X9_fails 0 0 [vr 30 0, vi s0, vi 1] M (fun x2 M1 => ((¬ x2 = 0 → (Kf 0 M1)) ∧ (x2 = 0 → (zCalI l G Y_X9_in 0 0 [vi y2, vi 0, vi 2] M1 (fun x4 M3 => ((¬ x4 = 0 → zAt l G Y_X9_packet (zEI G Y_X9_packet Kf) 50 [(0, vr 30 0), (1, vi y1), (2, vi y2)] [vi 0, vr 30 0] M3 0 0) ∧ (x4 = 0 → zAt l G Y_X9_packet (zEI G Y_X9_packet Kf) 50 [(0, vr 30 0), (1, vi y1), (2, vi y2)] [vi 1, vr 30 0] M3 0 0))))))))) : zAt l G Y_X9_packet (zEI G Y_X9_packet Kf) 28 [(0, vr 30 0), (1, vi y1), (2, vi y2)] [vi s0, vr 30 0] M 0 0 := by
  refine Z_iconst (v := 1) (by decide) dX9_packet_28 ?_
  refine Z_callVI (as := [vi s0, vi 1]) zRm_M zcv_X9_packet_X9_fails_366 (ci := 13) rfl rfl rfl rfl (zle rfl) dX9_packet_29 ⟨Nat.le_refl _, Nat.le_refl _⟩ h (fun x2 M1 h => ?_)
  refine Z_if_ne (tgt := 57) dX9_packet_32 (by decide) (fun q => ?_) (fun q => ?_)
  · have h := h.1 q
    refine Z_iconst (v := 0) (by decide) dX9_packet_57 ?_
    refine Z_goto (tgt := 67) dX9_packet_58 (by decide) ?_
    exact Z_iret rfl rfl dX9_packet_67 (Nat.le_refl _) (Nat.le_refl _) ⟨_, rfl, h⟩
  · have h := h.2 q
    refine Z_aload_n dX9_packet_35 rfl 0 rfl ?_
    refine Z_iload_n dX9_packet_36 rfl 2 rfl ?_
    refine Z_iconst (v := 0) (by decide) dX9_packet_37 ?_
    refine Z_iconst (v := 2) (by decide) dX9_packet_38 ?_
    refine Z_callSI (as := [vi y2, vi 0, vi 2]) zRm_M zcs_X9_packet_X9_in_63 rfl rfl (zle rfl) dX9_packet_39 ⟨Nat.le_refl _, Nat.le_refl _⟩ h (fun x4 M3 h => ?_)
    refine Z_if_ne (tgt := 49) dX9_packet_42 (by decide) (fun q => ?_) (fun q => ?_)
    · have h := h.1 q
      refine Z_iconst (v := 0) (by decide) dX9_packet_49 ?_
      exact h
    · have h := h.2 q
      refine Z_iconst (v := 1) (by decide) dX9_packet_45 ?_
      refine Z_goto (tgt := 50) dX9_packet_46 (by decide) ?_
      exact h
set_option maxRecDepth 100000 in
set_option maxHeartbeats 4000000 in
theorem zb_X9_packet_50 {l : Launch} {G : zG} {y1 : Int32} {y2 : Int32} {s0 : Int32} {M : zM} {Kf : Int32 → zM → Prop} (h : (zCalI l G Y_X9_fails 0 0 [vr 30 0, vi s0, vi 2] M (fun x2 M1 => ((x2 = 0 → (zCalI l G Y_X9_ofPacket 0 0 [vr 30 0, vi y1, vi y2] M1 (fun x4 M3 => (Kf x4 M3)))) ∧ (¬ x2 = 0 → (Kf 0 M1)))))) : zAt l G Y_X9_packet (zEI G Y_X9_packet Kf) 50 [(0, vr 30 0), (1, vi y1), (2, vi y2)] [vi s0, vr 30 0] M 0 0 := by
  refine Z_iconst (v := 2) (by decide) dX9_packet_50 ?_
  refine Z_callVI (as := [vi s0, vi 2]) zRm_M zcv_X9_packet_X9_fails_366 (ci := 13) rfl rfl rfl rfl (zle rfl) dX9_packet_51 ⟨Nat.le_refl _, Nat.le_refl _⟩ h (fun x2 M1 h => ?_)
  refine Z_if_eq (tgt := 61) dX9_packet_54 (by decide) (fun q => ?_) (fun q => ?_)
  · have h := h.1 q
    refine Z_aload_n dX9_packet_61 rfl 0 rfl ?_
    refine Z_iload_n dX9_packet_62 rfl 1 rfl ?_
    refine Z_iload_n dX9_packet_63 rfl 2 rfl ?_
    refine Z_callVI (as := [vi y1, vi y2]) zRm_M zcv_X9_packet_X9_ofPacket_159 (ci := 13) rfl rfl rfl rfl (zle rfl) dX9_packet_64 ⟨Nat.le_refl _, Nat.le_refl _⟩ h (fun x4 M3 h => ?_)
    exact Z_iret rfl rfl dX9_packet_67 (Nat.le_refl _) (Nat.le_refl _) ⟨_, rfl, h⟩
  · have h := h.2 q
    refine Z_iconst (v := 0) (by decide) dX9_packet_57 ?_
    refine Z_goto (tgt := 67) dX9_packet_58 (by decide) ?_
    exact Z_iret rfl rfl dX9_packet_67 (Nat.le_refl _) (Nat.le_refl _) ⟨_, rfl, h⟩
-- X9_queuedOf
set_option maxRecDepth 100000 in
set_option maxHeartbeats 4000000 in
theorem zm_X9_queuedOf {l : Launch} {G : zG} {p1 : Int32} {M : zM} {Kf : Int32 → zM → Prop} (h : zAt l G Y_X9_queuedOf (zEI G Y_X9_queuedOf Kf) 4 [(0, vr 30 0), (1, vi p1), (2, vi 0), (3, vi 0)] [] M 0 0) : zCalI l G Y_X9_queuedOf 0 0 [vr 30 0, vi p1] M Kf := by
  refine zCal_of (lv := [(0, vr 30 0), (1, vi p1)]) (by decide) rfl (zle rfl) rfl (fun hv => zlv_args (lv := [(0, vr 30 0), (1, vi p1)]) rfl hv) ?_
  refine Z_iconst (v := 0) (by decide) dX9_queuedOf_0 ?_
  refine Z_istore_n (lv2 := [(2, vi 0), (0, vr 30 0), (1, vi p1)]) dX9_queuedOf_1 rfl (by decide) rfl ?_
  refine Z_iconst (v := 0) (by decide) dX9_queuedOf_2 ?_
  refine Z_istore_n (lv2 := [(3, vi 0), (2, vi 0), (0, vr 30 0), (1, vi p1)]) dX9_queuedOf_3 rfl (by decide) rfl ?_
  exact Z_pick [2, 3, 1, 0] rfl h
set_option maxRecDepth 100000 in
set_option maxHeartbeats 4000000 in
theorem zb_X9_queuedOf_4 {l : Launch} {G : zG} {y1 : Int32} {y2 : Int32} {y3 : Int32} {M : zM} {Kf : Int32 → zM → Prop} (h : (((zmI M 31 0 8) ≤ y3 → (Kf y2 M)) ∧ (¬ (zmI M 31 0 8) ≤ y3 → (zCalI l G Y_X9_ofPacket 0 0 [vr 30 0, vi y3, vi 0] M (fun x3 M2 => ((¬ x3 = y1 → zAt l G Y_X9_queuedOf (zEI G Y_X9_queuedOf Kf) 31 [(0, vr 30 0), (1, vi y1), (3, vi y3)] [vi 0, vi y2] M2 0 0) ∧ (x3 = y1 → zAt l G Y_X9_queuedOf (zEI G Y_X9_queuedOf Kf) 31 [(0, vr 30 0), (1, vi y1), (3, vi y3)] [vi 1, vi y2] M2 0 0))))))) : zAt l G Y_X9_queuedOf (zEI G Y_X9_queuedOf Kf) 4 [(0, vr 30 0), (1, vi y1), (2, vi y2), (3, vi y3)] [] M 0 0 := by
  refine Z_iload_n dX9_queuedOf_4 rfl 3 rfl ?_
  refine Z_aload_n dX9_queuedOf_5 rfl 0 rfl ?_
  refine Z_getR (s1 := 31) (i1 := 0) zfl_X9_9 rfl (fun q => by first | exact q | decide) dX9_queuedOf_6 ?_
  refine Z_bipush (v := 8) (by decide) dX9_queuedOf_9 ?_
  refine Z_ialdK (n := 484) (j := 8) rfl (by decide) (zvin (by decide)) dX9_queuedOf_11 ?_
  refine Z_icmp_ge (tgt := 42) dX9_queuedOf_12 (by decide) (fun q => ?_) (fun q => ?_)
  · have h := h.1 q
    refine Z_iload_n dX9_queuedOf_42 rfl 2 rfl ?_
    exact Z_iret rfl rfl dX9_queuedOf_43 (Nat.le_refl _) (Nat.le_refl _) ⟨_, rfl, h⟩
  · have h := h.2 q
    refine Z_iload_n dX9_queuedOf_15 rfl 2 rfl ?_
    refine Z_aload_n dX9_queuedOf_16 rfl 0 rfl ?_
    refine Z_iload_n dX9_queuedOf_17 rfl 3 rfl ?_
    refine Z_iconst (v := 0) (by decide) dX9_queuedOf_18 ?_
    refine Z_callVI (as := [vi y3, vi 0]) zRm_M zcv_X9_queuedOf_X9_ofPacket_159 (ci := 13) rfl rfl rfl rfl (zle rfl) dX9_queuedOf_19 ⟨Nat.le_refl _, Nat.le_refl _⟩ h (fun x3 M2 h => ?_)
    refine Z_iload_n dX9_queuedOf_22 rfl 1 rfl ?_
    refine Z_icmp_ne (tgt := 30) dX9_queuedOf_23 (by decide) (fun q => ?_) (fun q => ?_)
    · have h := h.1 q
      refine Z_iconst (v := 0) (by decide) dX9_queuedOf_30 ?_
      exact Z_pick [0, 1, 3] rfl h
    · have h := h.2 q
      refine Z_iconst (v := 1) (by decide) dX9_queuedOf_26 ?_
      refine Z_goto (tgt := 31) dX9_queuedOf_27 (by decide) ?_
      exact Z_pick [0, 1, 3] rfl h
set_option maxRecDepth 100000 in
set_option maxHeartbeats 4000000 in
theorem zb_X9_queuedOf_31 {l : Launch} {G : zG} {y1 : Int32} {y3 : Int32} {s0 : Int32} {s1 : Int32} {M : zM} {Kf : Int32 → zM → Prop} (h : (zCalI l G Y_X9_one 0 0 [vi s0] M (fun x2 M1 => zAt l G Y_X9_queuedOf (zEI G Y_X9_queuedOf Kf) 4 [(0, vr 30 0), (1, vi y1), (2, vi (s1 + x2)), (3, vi (y3 + 1))] [] M1 0 0))) : zAt l G Y_X9_queuedOf (zEI G Y_X9_queuedOf Kf) 31 [(0, vr 30 0), (1, vi y1), (3, vi y3)] [vi s0, vi s1] M 0 0 := by
  refine Z_callSI (as := [vi s0]) zRm_M zcs_X9_queuedOf_X9_one_99 rfl rfl (zle rfl) dX9_queuedOf_31 ⟨Nat.le_refl _, Nat.le_refl _⟩ h (fun x2 M1 h => ?_)
  refine Z_iadd dX9_queuedOf_34 ?_
  refine Z_istore_n (lv2 := [(2, vi (s1 + x2)), (0, vr 30 0), (1, vi y1), (3, vi y3)]) dX9_queuedOf_35 rfl (by decide) rfl ?_
  refine Z_iinc (v := (y3 + 1)) (lv2 := [(3, vi (y3 + 1)), (2, vi (s1 + x2)), (0, vr 30 0), (1, vi y1)]) dX9_queuedOf_36 3 rfl rfl (by decide) rfl ?_
  refine Z_goto (tgt := 4) dX9_queuedOf_39 (by decide) ?_
  exact Z_pick [2, 3, 1, 0] rfl h
-- X9_remembers
set_option maxRecDepth 100000 in
set_option maxHeartbeats 4000000 in
theorem zm_X9_remembers {l : Launch} {G : zG} {na : Nat} {sa : Nat} (hsa : zkd sa = some (.inr (0, na))) {M : zM} {Kf : zM → Prop} (h : ((¬ (zmI M 30 0 6) = 8 → zAt l G Y_X9_remembers (zEV G Y_X9_remembers Kf) 50 [(0, vr 30 0), (1, vr sa 0)] [] M 0 0) ∧ ((zmI M 30 0 6) = 8 → zAt l G Y_X9_remembers (zEV G Y_X9_remembers Kf) 11 [(0, vr 30 0), (1, vr sa 0), (2, vi 0)] [] M 0 0))) : zCalV l G Y_X9_remembers 0 0 [vr 30 0, vr sa 0] M Kf := by
  refine zCal_of (lv := [(0, vr 30 0), (1, vr sa 0)]) (by decide) rfl (zle rfl) rfl (fun hv => zlv_args (lv := [(0, vr 30 0), (1, vr sa 0)]) rfl hv) ?_
  refine Z_aload_n dX9_remembers_0 rfl 0 rfl ?_
  refine Z_getI zfl_X9_298 dX9_remembers_1 ?_
  refine Z_bipush (v := 8) (by decide) dX9_remembers_4 ?_
  refine Z_icmp_ne (tgt := 50) dX9_remembers_6 (by decide) (fun q => ?_) (fun q => ?_)
  · have h := h.1 q
    exact h
  · have h := h.2 q
    refine Z_iconst (v := 0) (by decide) dX9_remembers_9 ?_
    refine Z_istore_n (lv2 := [(2, vi 0), (0, vr 30 0), (1, vr sa 0)]) dX9_remembers_10 rfl (by decide) rfl ?_
    exact Z_pick [1, 2, 0] rfl h
set_option maxRecDepth 100000 in
set_option maxHeartbeats 4000000 in
theorem zb_X9_remembers_50 {l : Launch} {G : zG} {na : Nat} {sa : Nat} (hsa : zkd sa = some (.inr (0, na)))  {M : zM} {Kf : zM → Prop} (h : (zCalV l G Y_X9_lays 0 0 [vr sa 0, vi 0, vr 34 0, vi (484 * (zmI M 30 0 6))] M (fun M1 => (Kf (zsI M1 30 0 6 ((zmI M1 30 0 6) + 1)))))) : zAt l G Y_X9_remembers (zEV G Y_X9_remembers Kf) 50 [(0, vr 30 0), (1, vr sa 0)] [] M 0 0 := by
  refine Z_aload_n dX9_remembers_50 rfl 1 rfl ?_
  refine Z_iconst (v := 0) (by decide) dX9_remembers_51 ?_
  refine Z_aload_n dX9_remembers_52 rfl 0 rfl ?_
  refine Z_getR (s1 := 34) (i1 := 0) zfl_X9_19 rfl (fun q => by first | exact q | decide) dX9_remembers_53 ?_
  refine Z_sipush (v := 484) (by decide) dX9_remembers_56 ?_
  refine Z_aload_n dX9_remembers_59 rfl 0 rfl ?_
  refine Z_getI zfl_X9_298 dX9_remembers_60 ?_
  refine Z_imul dX9_remembers_63 ?_
  refine Z_callSV (as := [vr sa 0, vi 0, vr 34 0, vi (484 * (zmI M 30 0 6))]) zRm_M zcs_X9_remembers_X9_lays_175 rfl rfl (zle rfl) dX9_remembers_64 ⟨Nat.le_refl _, Nat.le_refl _⟩ h (fun M1 h => ?_)
  refine Z_aload_n dX9_remembers_67 rfl 0 rfl ?_
  refine Z_dup rfl dX9_remembers_68 ?_
  refine Z_getI zfl_X9_298 dX9_remembers_69 ?_
  refine Z_iconst (v := 1) (by decide) dX9_remembers_72 ?_
  refine Z_iadd dX9_remembers_73 ?_
  refine Z_putI zfp_X9_298 rfl rfl dX9_remembers_74 ?_
  exact Z_vret rfl dX9_remembers_77 (Nat.le_refl _) (Nat.le_refl _) ⟨rfl, h⟩
set_option maxRecDepth 100000 in
set_option maxHeartbeats 4000000 in
theorem zb_X9_remembers_11 {l : Launch} {G : zG} {na : Nat} {sa : Nat} (hsa : zkd sa = some (.inr (0, na))) {y2 : Int32} {M : zM} {Kf : zM → Prop} (h : ((3388 ≤ y2 → zAt l G Y_X9_remembers (zEV G Y_X9_remembers Kf) 50 [(0, vr 30 0), (1, vr sa 0)] [] (zsI M 30 0 6 ((zmI M 30 0 6) - 1)) 0 0) ∧ (¬ 3388 ≤ y2 → (vp_in (y2 + 484) 3872 ∧ (vp_in y2 3872 ∧ zAt l G Y_X9_remembers (zEV G Y_X9_remembers Kf) 11 [(0, vr 30 0), (1, vr sa 0), (2, vi (y2 + 1))] [] (zsI M 34 0 y2.toNatClampNeg (zmI M 34 0 (y2 + 484).toNatClampNeg)) 0 0))))) : zAt l G Y_X9_remembers (zEV G Y_X9_remembers Kf) 11 [(0, vr 30 0), (1, vr sa 0), (2, vi y2)] [] M 0 0 := by
  refine Z_iload_n dX9_remembers_11 rfl 2 rfl ?_
  refine Z_sipush (v := 3388) (by decide) dX9_remembers_12 ?_
  refine Z_icmp_ge (tgt := 40) dX9_remembers_15 (by decide) (fun q => ?_) (fun q => ?_)
  · have h := h.1 q
    refine Z_aload_n dX9_remembers_40 rfl 0 rfl ?_
    refine Z_dup rfl dX9_remembers_41 ?_
    refine Z_getI zfl_X9_298 dX9_remembers_42 ?_
    refine Z_iconst (v := 1) (by decide) dX9_remembers_45 ?_
    refine Z_isub dX9_remembers_46 ?_
    refine Z_putI zfp_X9_298 rfl rfl dX9_remembers_47 ?_
    exact Z_pick [0, 1] rfl h
  · have h := h.2 q
    refine Z_aload_n dX9_remembers_18 rfl 0 rfl ?_
    refine Z_getR (s1 := 34) (i1 := 0) zfl_X9_19 rfl (fun q => by first | exact q | decide) dX9_remembers_19 ?_
    refine Z_iload_n dX9_remembers_22 rfl 2 rfl ?_
    refine Z_aload_n dX9_remembers_23 rfl 0 rfl ?_
    refine Z_getR (s1 := 34) (i1 := 0) zfl_X9_19 rfl (fun q => by first | exact q | decide) dX9_remembers_24 ?_
    refine Z_iload_n dX9_remembers_27 rfl 2 rfl ?_
    refine Z_sipush (v := 484) (by decide) dX9_remembers_28 ?_
    refine Z_iadd dX9_remembers_31 ?_
    obtain ⟨g1, h⟩ := h
    refine Z_iald (n := 3872) rfl g1 dX9_remembers_32 ?_
    obtain ⟨g2, h⟩ := h
    refine Z_iast (n := 3872) rfl g2 dX9_remembers_33 ?_
    refine Z_iinc (v := (y2 + 1)) (lv2 := [(2, vi (y2 + 1)), (0, vr 30 0), (1, vr sa 0)]) dX9_remembers_34 2 rfl rfl (by decide) rfl ?_
    refine Z_goto (tgt := 11) dX9_remembers_37 (by decide) ?_
    exact Z_pick [1, 2, 0] rfl h
-- X9_reportByte
set_option maxRecDepth 100000 in
set_option maxHeartbeats 4000000 in
theorem zm_X9_reportByte {l : Launch} {G : zG} {p1 : Int32} {M : zM} {Kf : Int32 → zM → Prop} (h : (zCalI l G Y_X9_in 0 0 [vi p1, vi 0, vi ((zmI (zsI M 30 0 7 0) 30 0 29) - 1)] (zsI M 30 0 7 0) (fun x2 M1 => ((x2 = 0 → (Kf (-1) M1)) ∧ (¬ x2 = 0 → (vp_in p1 400 ∧ (Kf (zmI M1 44 0 p1.toNatClampNeg) M1))))))) : zCalI l G Y_X9_reportByte 0 0 [vr 30 0, vi p1] M Kf := by
  refine zCal_of (lv := [(0, vr 30 0), (1, vi p1)]) (by decide) rfl (zle rfl) rfl (fun hv => zlv_args (lv := [(0, vr 30 0), (1, vi p1)]) rfl hv) ?_
  refine Z_aload_n dX9_reportByte_0 rfl 0 rfl ?_
  refine Z_iconst (v := 0) (by decide) dX9_reportByte_1 ?_
  refine Z_putI zfp_X9_60 rfl rfl dX9_reportByte_2 ?_
  refine Z_iload_n dX9_reportByte_5 rfl 1 rfl ?_
  refine Z_iconst (v := 0) (by decide) dX9_reportByte_6 ?_
  refine Z_aload_n dX9_reportByte_7 rfl 0 rfl ?_
  refine Z_getI zfl_X9_432 dX9_reportByte_8 ?_
  refine Z_iconst (v := 1) (by decide) dX9_reportByte_11 ?_
  refine Z_isub dX9_reportByte_12 ?_
  refine Z_callSI (as := [vi p1, vi 0, vi ((zmI (zsI M 30 0 7 0) 30 0 29) - 1)]) zRm_M zcs_X9_reportByte_X9_in_63 rfl rfl (zle rfl) dX9_reportByte_13 ⟨Nat.le_refl _, Nat.le_refl _⟩ h (fun x2 M1 h => ?_)
  refine Z_if_eq (tgt := 28) dX9_reportByte_16 (by decide) (fun q => ?_) (fun q => ?_)
  · have h := h.1 q
    refine Z_iconst (v := (-1)) (by decide) dX9_reportByte_28 ?_
    exact Z_iret rfl rfl dX9_reportByte_29 (Nat.le_refl _) (Nat.le_refl _) ⟨_, rfl, h⟩
  · have h := h.2 q
    refine Z_aload_n dX9_reportByte_19 rfl 0 rfl ?_
    refine Z_getR (s1 := 44) (i1 := 0) zfl_X9_54 rfl (fun q => by first | exact q | decide) dX9_reportByte_20 ?_
    refine Z_iload_n dX9_reportByte_23 rfl 1 rfl ?_
    obtain ⟨g3, h⟩ := h
    refine Z_iald (n := 400) rfl g3 dX9_reportByte_24 ?_
    refine Z_goto (tgt := 29) dX9_reportByte_25 (by decide) ?_
    exact Z_iret rfl rfl dX9_reportByte_29 (Nat.le_refl _) (Nat.le_refl _) ⟨_, rfl, h⟩
-- X9_starts
set_option maxRecDepth 100000 in
set_option maxHeartbeats 4000000 in
theorem zm_X9_starts {l : Launch} {G : zG} {M : zM} {Kf : zM → Prop} (h : (zCalV l G Y_X9_lays 0 0 [vr 31 0, vi 0, vr 33 0, vi 0] M (fun M1 => (Kf M1)))) : zCalV l G Y_X9_starts 0 0 [vr 30 0] M Kf := by
  refine zCal_of (lv := [(0, vr 30 0)]) (by decide) rfl (zle rfl) rfl (fun hv => zlv_args (lv := [(0, vr 30 0)]) rfl hv) ?_
  refine Z_aload_n dX9_starts_0 rfl 0 rfl ?_
  refine Z_getR (s1 := 31) (i1 := 0) zfl_X9_9 rfl (fun q => by first | exact q | decide) dX9_starts_1 ?_
  refine Z_iconst (v := 0) (by decide) dX9_starts_4 ?_
  refine Z_aload_n dX9_starts_5 rfl 0 rfl ?_
  refine Z_getR (s1 := 33) (i1 := 0) zfl_X9_16 rfl (fun q => by first | exact q | decide) dX9_starts_6 ?_
  refine Z_iconst (v := 0) (by decide) dX9_starts_9 ?_
  refine Z_callSV (as := [vr 31 0, vi 0, vr 33 0, vi 0]) zRm_M zcs_X9_starts_X9_lays_175 rfl rfl (zle rfl) dX9_starts_10 ⟨Nat.le_refl _, Nat.le_refl _⟩ h (fun M1 h => ?_)
  exact Z_vret rfl dX9_starts_13 (Nat.le_refl _) (Nat.le_refl _) ⟨rfl, h⟩
-- X9_undo
set_option maxRecDepth 100000 in
set_option maxHeartbeats 4000000 in
theorem zm_X9_undo {l : Launch} {G : zG} {M : zM} {Kf : Int32 → zM → Prop} (h : ((¬ (zmI (zsI M 30 0 7 0) 30 0 6) = 0 → (zCalV l G Y_X9_lays 0 0 [vr 34 0, vi (484 * (zmI (zsI (zsI M 30 0 7 0) 30 0 6 ((zmI (zsI M 30 0 7 0) 30 0 6) - 1)) 30 0 6)), vr 31 0, vi 0] (zsI (zsI M 30 0 7 0) 30 0 6 ((zmI (zsI M 30 0 7 0) 30 0 6) - 1)) (fun M1 => (Kf (zmI M1 30 0 6) M1)))) ∧ ((zmI (zsI M 30 0 7 0) 30 0 6) = 0 → (Kf (-1) (zsI M 30 0 7 0))))) : zCalI l G Y_X9_undo 0 0 [vr 30 0] M Kf := by
  refine zCal_of (lv := [(0, vr 30 0)]) (by decide) rfl (zle rfl) rfl (fun hv => zlv_args (lv := [(0, vr 30 0)]) rfl hv) ?_
  refine Z_aload_n dX9_undo_0 rfl 0 rfl ?_
  refine Z_iconst (v := 0) (by decide) dX9_undo_1 ?_
  refine Z_putI zfp_X9_60 rfl rfl dX9_undo_2 ?_
  refine Z_aload_n dX9_undo_5 rfl 0 rfl ?_
  refine Z_getI zfl_X9_298 dX9_undo_6 ?_
  refine Z_if_ne (tgt := 14) dX9_undo_9 (by decide) (fun q => ?_) (fun q => ?_)
  · have h := h.1 q
    refine Z_aload_n dX9_undo_14 rfl 0 rfl ?_
    refine Z_dup rfl dX9_undo_15 ?_
    refine Z_getI zfl_X9_298 dX9_undo_16 ?_
    refine Z_iconst (v := 1) (by decide) dX9_undo_19 ?_
    refine Z_isub dX9_undo_20 ?_
    refine Z_putI zfp_X9_298 rfl rfl dX9_undo_21 ?_
    refine Z_aload_n dX9_undo_24 rfl 0 rfl ?_
    refine Z_getR (s1 := 34) (i1 := 0) zfl_X9_19 rfl (fun q => by first | exact q | decide) dX9_undo_25 ?_
    refine Z_sipush (v := 484) (by decide) dX9_undo_28 ?_
    refine Z_aload_n dX9_undo_31 rfl 0 rfl ?_
    refine Z_getI zfl_X9_298 dX9_undo_32 ?_
    refine Z_imul dX9_undo_35 ?_
    refine Z_aload_n dX9_undo_36 rfl 0 rfl ?_
    refine Z_getR (s1 := 31) (i1 := 0) zfl_X9_9 rfl (fun q => by first | exact q | decide) dX9_undo_37 ?_
    refine Z_iconst (v := 0) (by decide) dX9_undo_40 ?_
    refine Z_callSV (as := [vr 34 0, vi (484 * (zmI (zsI (zsI M 30 0 7 0) 30 0 6 ((zmI (zsI M 30 0 7 0) 30 0 6) - 1)) 30 0 6)), vr 31 0, vi 0]) zRm_M zcs_X9_undo_X9_lays_175 rfl rfl (zle rfl) dX9_undo_41 ⟨Nat.le_refl _, Nat.le_refl _⟩ h (fun M1 h => ?_)
    refine Z_aload_n dX9_undo_44 rfl 0 rfl ?_
    refine Z_getI zfl_X9_298 dX9_undo_45 ?_
    exact Z_iret rfl rfl dX9_undo_48 (Nat.le_refl _) (Nat.le_refl _) ⟨_, rfl, h⟩
  · have h := h.2 q
    refine Z_iconst (v := (-1)) (by decide) dX9_undo_12 ?_
    exact Z_iret rfl rfl dX9_undo_13 (Nat.le_refl _) (Nat.le_refl _) ⟨_, rfl, h⟩
