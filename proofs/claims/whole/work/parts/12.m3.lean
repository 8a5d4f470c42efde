/-! printed by wip/whole/drive.py -/
abbrev Y_X9_untilSending : zY := (yX9_untilSending, cX9_untilSending, 3, (some .int), 3, [])
theorem zcv_X9_untilSending_X9_ofFlow_67 : zLV Y_X9_untilSending 67 Y_X9_ofFlow 2 RX9 := ⟨zw_1887, zw_1889, zw_65, zw_124, zw_1890, by decide +kernel, by decide, by decide⟩
abbrev Y_X9_writesNumber : zY := (yX9_writesNumber, cX9_writesNumber, 3, none, 3, [])
theorem zw_2205 : Cond.methodLink RX9 435 yX9_writes ∈ zAll := zin 2205 (by decide +kernel) (by decide +kernel)
theorem zw_2208 : Cond.code yX9_writes cX9_writes 2 none ∈ zAll := zin 2208 (by decide +kernel) (by decide +kernel)
theorem zw_2207 : Cond.instanceMethod yX9_writes ∈ zAll := zin 2207 (by decide +kernel) (by decide +kernel)
theorem zw_107 : Cond.selects RX9 yX9_writes yX9_writes ∈ zAll := zin 107 (by decide +kernel) (by decide +kernel)
theorem zcv_X9_writesNumber_X9_writes_435 : zLV Y_X9_writesNumber 435 Y_X9_writes 1 RX9 := ⟨zw_2205, zw_2207, zw_107, zw_124, zw_2208, by decide +kernel, by decide, by decide⟩
abbrev Y_X9_advance : zY := (yX9_advance, cX9_advance, 2, none, 4, [])
theorem zcv_X9_advance_X9_byteAt_188 : zLV Y_X9_advance 188 Y_X9_byteAt 1 RX9 := ⟨zw_1722, zw_1724, zw_31, zw_124, zw_1725, by decide +kernel, by decide, by decide⟩
theorem zfp_X9_194 : zFP RX9 194 30 11 0 .int := ⟨13, RX9, TX9, 30, tyX9, ⟨rfl, rfl, by decide, rfl, zw_1605, zws_X9⟩, tyX9_ok, nmX9, rfl, by decide +kernel⟩
theorem zw_1608 : Cond.fieldLink RX9 197 "EarlyDropsModel" "value" "I" ∈ zAll := zin 1608 (by decide +kernel) (by decide +kernel)
theorem zfp_X9_197 : zFP RX9 197 30 14 0 .int := ⟨13, RX9, TX9, 30, tyX9, ⟨rfl, rfl, by decide, rfl, zw_1608, zws_X9⟩, tyX9_ok, nmX9, rfl, by decide +kernel⟩
theorem zw_1726 : Cond.methodLink RX9 203 yX9_isLetterAt ∈ zAll := zin 1726 (by decide +kernel) (by decide +kernel)
theorem zw_1729 : Cond.code yX9_isLetterAt cX9_isLetterAt 2 (some .boolean) ∈ zAll := zin 1729 (by decide +kernel) (by decide +kernel)
theorem zw_1728 : Cond.instanceMethod yX9_isLetterAt ∈ zAll := zin 1728 (by decide +kernel) (by decide +kernel)
theorem zw_32 : Cond.selects RX9 yX9_isLetterAt yX9_isLetterAt ∈ zAll := zin 32 (by decide +kernel) (by decide +kernel)
theorem zcv_X9_advance_X9_isLetterAt_203 : zLV Y_X9_advance 203 Y_X9_isLetterAt 1 RX9 := ⟨zw_1726, zw_1728, zw_32, zw_124, zw_1729, by decide +kernel, by decide, by decide⟩
theorem zw_1733 : Cond.methodLink RX9 206 yX9_isDigitAt ∈ zAll := zin 1733 (by decide +kernel) (by decide +kernel)
theorem zw_1736 : Cond.code yX9_isDigitAt cX9_isDigitAt 2 (some .boolean) ∈ zAll := zin 1736 (by decide +kernel) (by decide +kernel)
theorem zw_1735 : Cond.instanceMethod yX9_isDigitAt ∈ zAll := zin 1735 (by decide +kernel) (by decide +kernel)
theorem zw_33 : Cond.selects RX9 yX9_isDigitAt yX9_isDigitAt ∈ zAll := zin 33 (by decide +kernel) (by decide +kernel)
theorem zcv_X9_advance_X9_isDigitAt_206 : zLV Y_X9_advance 206 Y_X9_isDigitAt 1 RX9 := ⟨zw_1733, zw_1735, zw_33, zw_124, zw_1736, by decide +kernel, by decide, by decide⟩
theorem zfp_X9_200 : zFP RX9 200 30 13 0 .int := ⟨13, RX9, TX9, 30, tyX9, ⟨rfl, rfl, by decide, rfl, zw_1607, zws_X9⟩, tyX9_ok, nmX9, rfl, by decide +kernel⟩
theorem zfp_X9_191 : zFP RX9 191 30 12 0 .int := ⟨13, RX9, TX9, 30, tyX9, ⟨rfl, rfl, by decide, rfl, zw_1606, zws_X9⟩, tyX9_ok, nmX9, rfl, by decide +kernel⟩
theorem zw_1737 : Cond.constant RX9 209 1000000 ∈ zAll := zin 1737 (by decide +kernel) (by decide +kernel)
theorem zfl_X9_197 : zFL RX9 197 30 14 0 := ⟨13, RX9, TX9, 30, rfl, rfl, by decide, rfl, zw_1608, zws_X9⟩
abbrev Y_X9_baseOf : zY := (yX9_baseOf, cX9_baseOf, 2, (some .long), 4, [])
theorem zw_1920 : Cond.methodLink RX9 82 yX9_low ∈ zAll := zin 1920 (by decide +kernel) (by decide +kernel)
theorem zw_1923 : Cond.code yX9_low cX9_low 1 (some .int) ∈ zAll := zin 1923 (by decide +kernel) (by decide +kernel)
theorem zw_1922 : Cond.instanceMethod yX9_low ∈ zAll := zin 1922 (by decide +kernel) (by decide +kernel)
theorem zw_73 : Cond.selects RX9 yX9_low yX9_low ∈ zAll := zin 73 (by decide +kernel) (by decide +kernel)
theorem zcv_X9_baseOf_X9_low_82 : zLV Y_X9_baseOf 82 Y_X9_low 0 RX9 := ⟨zw_1920, zw_1922, zw_73, zw_124, zw_1923, by decide +kernel, by decide, by decide⟩
theorem zw_1924 : Cond.methodLink RX9 85 yX9_endOfChance ∈ zAll := zin 1924 (by decide +kernel) (by decide +kernel)
theorem zw_1927 : Cond.code yX9_endOfChance cX9_endOfChance 1 (some .int) ∈ zAll := zin 1927 (by decide +kernel) (by decide +kernel)
theorem zw_1926 : Cond.instanceMethod yX9_endOfChance ∈ zAll := zin 1926 (by decide +kernel) (by decide +kernel)
theorem zw_74 : Cond.selects RX9 yX9_endOfChance yX9_endOfChance ∈ zAll := zin 74 (by decide +kernel) (by decide +kernel)
theorem zcv_X9_baseOf_X9_endOfChance_85 : zLV Y_X9_baseOf 85 Y_X9_endOfChance 0 RX9 := ⟨zw_1924, zw_1926, zw_74, zw_124, zw_1927, by decide +kernel, by decide, by decide⟩
theorem zcv_X9_baseOf_X9_high_78 : zLV Y_X9_baseOf 78 Y_X9_high 0 RX9 := ⟨zw_1928, zw_1930, zw_75, zw_124, zw_1931, by decide +kernel, by decide, by decide⟩
theorem zw_1775 : Cond.constant RX9 90 65536 ∈ zAll := zin 1775 (by decide +kernel) (by decide +kernel)
theorem zw_1948 : Cond.constantLong RX9 88 65536 ∈ zAll := zin 1948 (by decide +kernel) (by decide +kernel)
abbrev Y_X9_dropped : zY := (yX9_dropped, cX9_dropped, 1, (some .int), 4, [])
theorem zw_2037 : Cond.methodLink RX9 75 yX9_accountOf ∈ zAll := zin 2037 (by decide +kernel) (by decide +kernel)
theorem zw_2040 : Cond.code yX9_accountOf cX9_accountOf 5 (some .int) ∈ zAll := zin 2040 (by decide +kernel) (by decide +kernel)
theorem zw_2039 : Cond.instanceMethod yX9_accountOf ∈ zAll := zin 2039 (by decide +kernel) (by decide +kernel)
theorem zw_95 : Cond.selects RX9 yX9_accountOf yX9_accountOf ∈ zAll := zin 95 (by decide +kernel) (by decide +kernel)
theorem zcv_X9_dropped_X9_accountOf_75 : zLV Y_X9_dropped 75 Y_X9_accountOf 2 RX9 := ⟨zw_2037, zw_2039, zw_95, zw_124, zw_2040, by decide +kernel, by decide, by decide⟩
abbrev Y_X9_drops : zY := (yX9_drops, cX9_drops, 3, none, 4, [])
theorem zw_1908 : Cond.methodLink RX9 103 yX9_counts ∈ zAll := zin 1908 (by decide +kernel) (by decide +kernel)
theorem zw_1911 : Cond.code yX9_counts cX9_counts 4 none ∈ zAll := zin 1911 (by decide +kernel) (by decide +kernel)
theorem zw_1910 : Cond.instanceMethod yX9_counts ∈ zAll := zin 1910 (by decide +kernel) (by decide +kernel)
theorem zw_70 : Cond.selects RX9 yX9_counts yX9_counts ∈ zAll := zin 70 (by decide +kernel) (by decide +kernel)
theorem zcv_X9_drops_X9_counts_103 : zLV Y_X9_drops 103 Y_X9_counts 3 RX9 := ⟨zw_1908, zw_1910, zw_70, zw_124, zw_1911, by decide +kernel, by decide, by decide⟩
theorem zcv_X9_drops_X9_putsFlow_71 : zLV Y_X9_drops 71 Y_X9_putsFlow 3 RX9 := ⟨zw_1896, zw_1898, zw_67, zw_124, zw_1899, by decide +kernel, by decide, by decide⟩
abbrev Y_X9_fairness : zY := (yX9_fairness, cX9_fairness, 6, (some .double), 4, [])
theorem zcv_X9_fairness_X9_accountOf_75 : zLV Y_X9_fairness 75 Y_X9_accountOf 2 RX9 := ⟨zw_2037, zw_2039, zw_95, zw_124, zw_2040, by decide +kernel, by decide, by decide⟩
abbrev Y_X9_feed : zY := (yX9_feed, cX9_feed, 6, (some .int), 4, [])
theorem zw_1693 : Cond.methodLink RX9 182 yX9_bytesIn ∈ zAll := zin 1693 (by decide +kernel) (by decide +kernel)
theorem zw_1695 : Cond.code yX9_bytesIn cX9_bytesIn 1 (some .int) ∈ zAll := zin 1695 (by decide +kernel) (by decide +kernel)
theorem zw_1694 : Cond.static yX9_bytesIn ∈ zAll := zin 1694 (by decide +kernel) (by decide +kernel)
theorem zcs_X9_feed_X9_bytesIn_182 : zLS Y_X9_feed 182 Y_X9_bytesIn 1 := ⟨zw_1693, zw_1694, zw_124, zw_1695, by decide +kernel, by decide, by decide⟩
theorem zw_1699 : Cond.methodLink RX9 185 yX9_feeds ∈ zAll := zin 1699 (by decide +kernel) (by decide +kernel)
theorem zw_1702 : Cond.code yX9_feeds cX9_feeds 4 none ∈ zAll := zin 1702 (by decide +kernel) (by decide +kernel)
theorem zw_1701 : Cond.instanceMethod yX9_feeds ∈ zAll := zin 1701 (by decide +kernel) (by decide +kernel)
theorem zw_27 : Cond.selects RX9 yX9_feeds yX9_feeds ∈ zAll := zin 27 (by decide +kernel) (by decide +kernel)
theorem zcv_X9_feed_X9_feeds_185 : zLV Y_X9_feed 185 Y_X9_feeds 1 RX9 := ⟨zw_1699, zw_1701, zw_27, zw_124, zw_1702, by decide +kernel, by decide, by decide⟩
abbrev Y_X9_found : zY := (yX9_found, cX9_found, 2, (some .int), 4, [])
theorem zw_1796 : Cond.methodLink RX9 236 yX9_isName ∈ zAll := zin 1796 (by decide +kernel) (by decide +kernel)
theorem zw_1799 : Cond.code yX9_isName cX9_isName 4 (some .boolean) ∈ zAll := zin 1799 (by decide +kernel) (by decide +kernel)
theorem zw_1798 : Cond.instanceMethod yX9_isName ∈ zAll := zin 1798 (by decide +kernel) (by decide +kernel)
theorem zw_46 : Cond.selects RX9 yX9_isName yX9_isName ∈ zAll := zin 46 (by decide +kernel) (by decide +kernel)
theorem zcv_X9_found_X9_isName_236 : zLV Y_X9_found 236 Y_X9_isName 1 RX9 := ⟨zw_1796, zw_1798, zw_46, zw_124, zw_1799, by decide +kernel, by decide, by decide⟩
abbrev Y_X9_howOf : zY := (yX9_howOf, cX9_howOf, 3, (some .int), 4, [])
theorem zcv_X9_howOf_X9_low_82 : zLV Y_X9_howOf 82 Y_X9_low 0 RX9 := ⟨zw_1920, zw_1922, zw_73, zw_124, zw_1923, by decide +kernel, by decide, by decide⟩
theorem zcv_X9_howOf_X9_endOfChance_85 : zLV Y_X9_howOf 85 Y_X9_endOfChance 0 RX9 := ⟨zw_1924, zw_1926, zw_74, zw_124, zw_1927, by decide +kernel, by decide, by decide⟩
abbrev Y_X9_leaves : zY := (yX9_leaves, cX9_leaves, 3, none, 4, [])
theorem zcv_X9_leaves_X9_ofPacket_159 : zLV Y_X9_leaves 159 Y_X9_ofPacket 2 RX9 := ⟨zw_1969, zw_1971, zw_83, zw_124, zw_1972, by decide +kernel, by decide, by decide⟩
theorem zcv_X9_leaves_X9_counts_103 : zLV Y_X9_leaves 103 Y_X9_counts 3 RX9 := ⟨zw_1908, zw_1910, zw_70, zw_124, zw_1911, by decide +kernel, by decide, by decide⟩
abbrev Y_X9_noFlow : zY := (yX9_noFlow, cX9_noFlow, 2, (some .boolean), 4, [])
theorem zw_2005 : Cond.methodLink RX9 372 yX9_isFlow ∈ zAll := zin 2005 (by decide +kernel) (by decide +kernel)
theorem zw_2008 : Cond.code yX9_isFlow cX9_isFlow 2 (some .boolean) ∈ zAll := zin 2008 (by decide +kernel) (by decide +kernel)
theorem zw_2007 : Cond.instanceMethod yX9_isFlow ∈ zAll := zin 2007 (by decide +kernel) (by decide +kernel)
theorem zw_90 : Cond.selects RX9 yX9_isFlow yX9_isFlow ∈ zAll := zin 90 (by decide +kernel) (by decide +kernel)
theorem zcv_X9_noFlow_X9_isFlow_372 : zLV Y_X9_noFlow 372 Y_X9_isFlow 1 RX9 := ⟨zw_2005, zw_2007, zw_90, zw_124, zw_2008, by decide +kernel, by decide, by decide⟩
theorem zcv_X9_noFlow_X9_fails_366 : zLV Y_X9_noFlow 366 Y_X9_fails 2 RX9 := ⟨zw_1993, zw_1995, zw_88, zw_124, zw_1996, by decide +kernel, by decide, by decide⟩
abbrev Y_X9_noFlows : zY := (yX9_noFlows, cX9_noFlows, 2, (some .boolean), 4, [])
theorem zcv_X9_noFlows_X9_isFlow_372 : zLV Y_X9_noFlows 372 Y_X9_isFlow 1 RX9 := ⟨zw_2005, zw_2007, zw_90, zw_124, zw_2008, by decide +kernel, by decide, by decide⟩
theorem zcv_X9_noFlows_X9_fails_366 : zLV Y_X9_noFlows 366 Y_X9_fails 2 RX9 := ⟨zw_1993, zw_1995, zw_88, zw_124, zw_1996, by decide +kernel, by decide, by decide⟩
abbrev Y_X9_recorded : zY := (yX9_recorded, cX9_recorded, 2, (some .int), 4, [])
theorem zw_1855 : Cond.methodLink RX9 359 yX9_remembers ∈ zAll := zin 1855 (by decide +kernel) (by decide +kernel)
theorem zw_1858 : Cond.code yX9_remembers cX9_remembers 3 none ∈ zAll := zin 1858 (by decide +kernel) (by decide +kernel)
theorem zw_1857 : Cond.instanceMethod yX9_remembers ∈ zAll := zin 1857 (by decide +kernel) (by decide +kernel)
theorem zw_57 : Cond.selects RX9 yX9_remembers yX9_remembers ∈ zAll := zin 57 (by decide +kernel) (by decide +kernel)
theorem zcv_X9_recorded_X9_remembers_359 : zLV Y_X9_recorded 359 Y_X9_remembers 1 RX9 := ⟨zw_1855, zw_1857, zw_57, zw_124, zw_1858, by decide +kernel, by decide, by decide⟩
abbrev Y_X9_restore : zY := (yX9_restore, cX9_restore, 2, (some .int), 4, [])
theorem zw_2225 : Cond.methodLink RX9 444 yX9_noSlot ∈ zAll := zin 2225 (by decide +kernel) (by decide +kernel)
theorem zw_2228 : Cond.code yX9_noSlot cX9_noSlot 2 (some .boolean) ∈ zAll := zin 2228 (by decide +kernel) (by decide +kernel)
theorem zw_2227 : Cond.instanceMethod yX9_noSlot ∈ zAll := zin 2227 (by decide +kernel) (by decide +kernel)
theorem zw_109 : Cond.selects RX9 yX9_noSlot yX9_noSlot ∈ zAll := zin 109 (by decide +kernel) (by decide +kernel)
theorem zcv_X9_restore_X9_noSlot_444 : zLV Y_X9_restore 444 Y_X9_noSlot 1 RX9 := ⟨zw_2225, zw_2227, zw_109, zw_124, zw_2228, by decide +kernel, by decide, by decide⟩
theorem zw_1599 : Cond.fieldLink RX9 25 "EarlyDropsModel" "isKept" "[Z" ∈ zAll := zin 1599 (by decide +kernel) (by decide +kernel)
theorem zfl_X9_25 : zFL RX9 25 30 5 1 := ⟨13, RX9, TX9, 30, rfl, rfl, by decide, rfl, zw_1599, zws_X9⟩
theorem zw_1598 : Cond.fieldLink RX9 22 "EarlyDropsModel" "kept" "[I" ∈ zAll := zin 1598 (by decide +kernel) (by decide +kernel)
theorem zfl_X9_22 : zFL RX9 22 30 4 1 := ⟨13, RX9, TX9, 30, rfl, rfl, by decide, rfl, zw_1598, zws_X9⟩
theorem zcs_X9_restore_X9_lays_175 : zLS Y_X9_restore 175 Y_X9_lays 4 := ⟨zw_1711, zw_1712, zw_124, zw_1713, by decide +kernel, by decide, by decide⟩
abbrev Y_X9_save : zY := (yX9_save, cX9_save, 2, (some .int), 4, [])
theorem zcv_X9_save_X9_noSlot_444 : zLV Y_X9_save 444 Y_X9_noSlot 1 RX9 := ⟨zw_2225, zw_2227, zw_109, zw_124, zw_2228, by decide +kernel, by decide, by decide⟩
theorem zcs_X9_save_X9_lays_175 : zLS Y_X9_save 175 Y_X9_lays 4 := ⟨zw_1711, zw_1712, zw_124, zw_1713, by decide +kernel, by decide, by decide⟩
abbrev Y_X9_sendsNow : zY := (yX9_sendsNow, cX9_sendsNow, 2, (some .boolean), 4, [])
theorem zw_1883 : Cond.methodLink RX9 147 yX9_isOn ∈ zAll := zin 1883 (by decide +kernel) (by decide +kernel)
theorem zw_1886 : Cond.code yX9_isOn cX9_isOn 2 (some .boolean) ∈ zAll := zin 1886 (by decide +kernel) (by decide +kernel)
theorem zw_1885 : Cond.instanceMethod yX9_isOn ∈ zAll := zin 1885 (by decide +kernel) (by decide +kernel)
theorem zw_64 : Cond.selects RX9 yX9_isOn yX9_isOn ∈ zAll := zin 64 (by decide +kernel) (by decide +kernel)
theorem zcv_X9_sendsNow_X9_isOn_147 : zLV Y_X9_sendsNow 147 Y_X9_isOn 1 RX9 := ⟨zw_1883, zw_1885, zw_64, zw_124, zw_1886, by decide +kernel, by decide, by decide⟩
theorem zcv_X9_sendsNow_X9_ofFlow_67 : zLV Y_X9_sendsNow 67 Y_X9_ofFlow 2 RX9 := ⟨zw_1887, zw_1889, zw_65, zw_124, zw_1890, by decide +kernel, by decide, by decide⟩
abbrev Y_X9_size : zY := (yX9_size, cX9_size, 2, (some .int), 4, [])
theorem zcs_X9_size_X9_in_63 : zLS Y_X9_size 63 Y_X9_in 3 := ⟨zw_1730, zw_1731, zw_124, zw_1732, by decide +kernel, by decide, by decide⟩
theorem zcv_X9_size_X9_fails_366 : zLV Y_X9_size 366 Y_X9_fails 2 RX9 := ⟨zw_1993, zw_1995, zw_88, zw_124, zw_1996, by decide +kernel, by decide, by decide⟩
theorem zw_1985 : Cond.methodLink RX9 369 yX9_onMany ∈ zAll := zin 1985 (by decide +kernel) (by decide +kernel)
theorem zw_1988 : Cond.code yX9_onMany cX9_onMany 3 (some .int) ∈ zAll := zin 1988 (by decide +kernel) (by decide +kernel)
theorem zw_1987 : Cond.instanceMethod yX9_onMany ∈ zAll := zin 1987 (by decide +kernel) (by decide +kernel)
theorem zw_87 : Cond.selects RX9 yX9_onMany yX9_onMany ∈ zAll := zin 87 (by decide +kernel) (by decide +kernel)
theorem zcv_X9_size_X9_onMany_369 : zLV Y_X9_size 369 Y_X9_onMany 0 RX9 := ⟨zw_1985, zw_1987, zw_87, zw_124, zw_1988, by decide +kernel, by decide, by decide⟩
abbrev Y_X9_turnNow : zY := (yX9_turnNow, cX9_turnNow, 3, (some .int), 4, [])
theorem zcv_X9_turnNow_X9_ofFlow_67 : zLV Y_X9_turnNow 67 Y_X9_ofFlow 2 RX9 := ⟨zw_1887, zw_1889, zw_65, zw_124, zw_1890, by decide +kernel, by decide, by decide⟩
theorem zcv_X9_turnNow_X9_putsFlow_71 : zLV Y_X9_turnNow 71 Y_X9_putsFlow 3 RX9 := ⟨zw_1896, zw_1898, zw_67, zw_124, zw_1899, by decide +kernel, by decide, by decide⟩
theorem zcv_X9_turnNow_X9_onMany_369 : zLV Y_X9_turnNow 369 Y_X9_onMany 0 RX9 := ⟨zw_1985, zw_1987, zw_87, zw_124, zw_1988, by decide +kernel, by decide, by decide⟩
abbrev Y_X9_writesFlow : zY := (yX9_writesFlow, cX9_writesFlow, 3, none, 4, [])
theorem zcv_X9_writesFlow_X9_ofFlow_67 : zLV Y_X9_writesFlow 67 Y_X9_ofFlow 2 RX9 := ⟨zw_1887, zw_1889, zw_65, zw_124, zw_1890, by decide +kernel, by decide, by decide⟩
theorem zcv_X9_writesFlow_X9_writes_435 : zLV Y_X9_writesFlow 435 Y_X9_writes 1 RX9 := ⟨zw_2205, zw_2207, zw_107, zw_124, zw_2208, by decide +kernel, by decide, by decide⟩
theorem zcv_X9_writesFlow_X9_accountOf_75 : zLV Y_X9_writesFlow 75 Y_X9_accountOf 2 RX9 := ⟨zw_2037, zw_2039, zw_95, zw_124, zw_2040, by decide +kernel, by decide, by decide⟩
theorem zw_2209 : Cond.methodLink RX9 438 yX9_writesNumber ∈ zAll := zin 2209 (by decide +kernel) (by decide +kernel)
theorem zw_2212 : Cond.code yX9_writesNumber cX9_writesNumber 3 none ∈ zAll := zin 2212 (by decide +kernel) (by decide +kernel)
theorem zw_2211 : Cond.instanceMethod yX9_writesNumber ∈ zAll := zin 2211 (by decide +kernel) (by decide +kernel)
theorem zw_108 : Cond.selects RX9 yX9_writesNumber yX9_writesNumber ∈ zAll := zin 108 (by decide +kernel) (by decide +kernel)
theorem zcv_X9_writesFlow_X9_writesNumber_438 : zLV Y_X9_writesFlow 438 Y_X9_writesNumber 1 RX9 := ⟨zw_2209, zw_2211, zw_108, zw_124, zw_2212, by decide +kernel, by decide, by decide⟩
abbrev Y_X9_account : zY := (yX9_account, cX9_account, 3, (some .long), 5, [])
theorem zw_2029 : Cond.methodLink RX9 384 yX9_noFlows ∈ zAll := zin 2029 (by decide +kernel) (by decide +kernel)
theorem zw_2032 : Cond.code yX9_noFlows cX9_noFlows 2 (some .boolean) ∈ zAll := zin 2032 (by decide +kernel) (by decide +kernel)
theorem zw_2031 : Cond.instanceMethod yX9_noFlows ∈ zAll := zin 2031 (by decide +kernel) (by decide +kernel)
theorem zw_93 : Cond.selects RX9 yX9_noFlows yX9_noFlows ∈ zAll := zin 93 (by decide +kernel) (by decide +kernel)
theorem zcv_X9_account_X9_noFlows_384 : zLV Y_X9_account 384 Y_X9_noFlows 1 RX9 := ⟨zw_2029, zw_2031, zw_93, zw_124, zw_2032, by decide +kernel, by decide, by decide⟩
theorem zw_2033 : Cond.methodLink RX9 387 yX9_noAccount ∈ zAll := zin 2033 (by decide +kernel) (by decide +kernel)
theorem zw_2036 : Cond.code yX9_noAccount cX9_noAccount 2 (some .boolean) ∈ zAll := zin 2036 (by decide +kernel) (by decide +kernel)
theorem zw_2035 : Cond.instanceMethod yX9_noAccount ∈ zAll := zin 2035 (by decide +kernel) (by decide +kernel)
theorem zw_94 : Cond.selects RX9 yX9_noAccount yX9_noAccount ∈ zAll := zin 94 (by decide +kernel) (by decide +kernel)
theorem zcv_X9_account_X9_noAccount_387 : zLV Y_X9_account 387 Y_X9_noAccount 1 RX9 := ⟨zw_2033, zw_2035, zw_94, zw_124, zw_2036, by decide +kernel, by decide, by decide⟩
theorem zcv_X9_account_X9_accountOf_75 : zLV Y_X9_account 75 Y_X9_accountOf 2 RX9 := ⟨zw_2037, zw_2039, zw_95, zw_124, zw_2040, by decide +kernel, by decide, by decide⟩
abbrev Y_X9_base : zY := (yX9_base, cX9_base, 2, (some .int), 5, [])
theorem zw_2078 : Cond.constant RX9 398 99999 ∈ zAll := zin 2078 (by decide +kernel) (by decide +kernel)
theorem zcs_X9_base_X9_in_63 : zLS Y_X9_base 63 Y_X9_in 3 := ⟨zw_1730, zw_1731, zw_124, zw_1732, by decide +kernel, by decide, by decide⟩
theorem zcv_X9_base_X9_fails_366 : zLV Y_X9_base 366 Y_X9_fails 2 RX9 := ⟨zw_1993, zw_1995, zw_88, zw_124, zw_1996, by decide +kernel, by decide, by decide⟩
theorem zw_1944 : Cond.methodLink RX9 128 yX9_baseOf ∈ zAll := zin 1944 (by decide +kernel) (by decide +kernel)
theorem zw_1947 : Cond.code yX9_baseOf cX9_baseOf 2 (some .long) ∈ zAll := zin 1947 (by decide +kernel) (by decide +kernel)
theorem zw_1946 : Cond.instanceMethod yX9_baseOf ∈ zAll := zin 1946 (by decide +kernel) (by decide +kernel)
theorem zw_79 : Cond.selects RX9 yX9_baseOf yX9_baseOf ∈ zAll := zin 79 (by decide +kernel) (by decide +kernel)
theorem zcv_X9_base_X9_baseOf_128 : zLV Y_X9_base 128 Y_X9_baseOf 1 RX9 := ⟨zw_1944, zw_1946, zw_79, zw_124, zw_1947, by decide +kernel, by decide, by decide⟩
abbrev Y_X9_flow : zY := (yX9_flow, cX9_flow, 3, (some .int), 5, [])
theorem zw_2001 : Cond.methodLink RX9 375 yX9_noFlow ∈ zAll := zin 2001 (by decide +kernel) (by decide +kernel)
theorem zw_2004 : Cond.code yX9_noFlow cX9_noFlow 2 (some .boolean) ∈ zAll := zin 2004 (by decide +kernel) (by decide +kernel)
theorem zw_2003 : Cond.instanceMethod yX9_noFlow ∈ zAll := zin 2003 (by decide +kernel) (by decide +kernel)
theorem zw_89 : Cond.selects RX9 yX9_noFlow yX9_noFlow ∈ zAll := zin 89 (by decide +kernel) (by decide +kernel)
theorem zcv_X9_flow_X9_noFlow_375 : zLV Y_X9_flow 375 Y_X9_noFlow 1 RX9 := ⟨zw_2001, zw_2003, zw_89, zw_124, zw_2004, by decide +kernel, by decide, by decide⟩
theorem zcs_X9_flow_X9_in_63 : zLS Y_X9_flow 63 Y_X9_in 3 := ⟨zw_1730, zw_1731, zw_124, zw_1732, by decide +kernel, by decide, by decide⟩
theorem zcv_X9_flow_X9_fails_366 : zLV Y_X9_flow 366 Y_X9_fails 2 RX9 := ⟨zw_1993, zw_1995, zw_88, zw_124, zw_1996, by decide +kernel, by decide, by decide⟩
theorem zcv_X9_flow_X9_ofFlow_67 : zLV Y_X9_flow 67 Y_X9_ofFlow 2 RX9 := ⟨zw_1887, zw_1889, zw_65, zw_124, zw_1890, by decide +kernel, by decide, by decide⟩
theorem zw_2013 : Cond.methodLink RX9 381 yX9_untilSending ∈ zAll := zin 2013 (by decide +kernel) (by decide +kernel)
theorem zw_2016 : Cond.code yX9_untilSending cX9_untilSending 3 (some .int) ∈ zAll := zin 2016 (by decide +kernel) (by decide +kernel)
theorem zw_2015 : Cond.instanceMethod yX9_untilSending ∈ zAll := zin 2015 (by decide +kernel) (by decide +kernel)
theorem zw_92 : Cond.selects RX9 yX9_untilSending yX9_untilSending ∈ zAll := zin 92 (by decide +kernel) (by decide +kernel)
theorem zcv_X9_flow_X9_untilSending_381 : zLV Y_X9_flow 381 Y_X9_untilSending 1 RX9 := ⟨zw_2013, zw_2015, zw_92, zw_124, zw_2016, by decide +kernel, by decide, by decide⟩
theorem zw_2009 : Cond.methodLink RX9 378 yX9_queuedOf ∈ zAll := zin 2009 (by decide +kernel) (by decide +kernel)
theorem zw_2012 : Cond.code yX9_queuedOf cX9_queuedOf 4 (some .int) ∈ zAll := zin 2012 (by decide +kernel) (by decide +kernel)
theorem zw_2011 : Cond.instanceMethod yX9_queuedOf ∈ zAll := zin 2011 (by decide +kernel) (by decide +kernel)
theorem zw_91 : Cond.selects RX9 yX9_queuedOf yX9_queuedOf ∈ zAll := zin 91 (by decide +kernel) (by decide +kernel)
theorem zcv_X9_flow_X9_queuedOf_378 : zLV Y_X9_flow 378 Y_X9_queuedOf 1 RX9 := ⟨zw_2009, zw_2011, zw_91, zw_124, zw_2012, by decide +kernel, by decide, by decide⟩
abbrev Y_X9_letter : zY := (yX9_letter, cX9_letter, 3, (some .int), 5, [])
theorem zcv_X9_letter_X9_noFlow_375 : zLV Y_X9_letter 375 Y_X9_noFlow 1 RX9 := ⟨zw_2001, zw_2003, zw_89, zw_124, zw_2004, by decide +kernel, by decide, by decide⟩
theorem zcv_X9_letter_X9_ofFlow_67 : zLV Y_X9_letter 67 Y_X9_ofFlow 2 RX9 := ⟨zw_1887, zw_1889, zw_65, zw_124, zw_1890, by decide +kernel, by decide, by decide⟩
theorem zcs_X9_letter_X9_in_63 : zLS Y_X9_letter 63 Y_X9_in 3 := ⟨zw_1730, zw_1731, zw_124, zw_1732, by decide +kernel, by decide, by decide⟩
abbrev Y_X9_lossShare : zY := (yX9_lossShare, cX9_lossShare, 2, (some .float), 5, [])
theorem zcv_X9_lossShare_X9_accountOf_75 : zLV Y_X9_lossShare 75 Y_X9_accountOf 2 RX9 := ⟨zw_2037, zw_2039, zw_95, zw_124, zw_2040, by decide +kernel, by decide, by decide⟩
theorem zw_2062 : Cond.methodLink RX9 395 yX9_dropped ∈ zAll := zin 2062 (by decide +kernel) (by decide +kernel)
theorem zw_2065 : Cond.code yX9_dropped cX9_dropped 1 (some .int) ∈ zAll := zin 2065 (by decide +kernel) (by decide +kernel)
theorem zw_2064 : Cond.instanceMethod yX9_dropped ∈ zAll := zin 2064 (by decide +kernel) (by decide +kernel)
theorem zw_97 : Cond.selects RX9 yX9_dropped yX9_dropped ∈ zAll := zin 97 (by decide +kernel) (by decide +kernel)
theorem zcv_X9_lossShare_X9_dropped_395 : zLV Y_X9_lossShare 395 Y_X9_dropped 0 RX9 := ⟨zw_2062, zw_2064, zw_97, zw_124, zw_2065, by decide +kernel, by decide, by decide⟩
abbrev Y_X9_meanWait : zY := (yX9_meanWait, cX9_meanWait, 2, (some .double), 5, [])
theorem zcv_X9_meanWait_X9_noFlows_384 : zLV Y_X9_meanWait 384 Y_X9_noFlows 1 RX9 := ⟨zw_2029, zw_2031, zw_93, zw_124, zw_2032, by decide +kernel, by decide, by decide⟩
theorem zcv_X9_meanWait_X9_accountOf_75 : zLV Y_X9_meanWait 75 Y_X9_accountOf 2 RX9 := ⟨zw_2037, zw_2039, zw_95, zw_124, zw_2040, by decide +kernel, by decide, by decide⟩
theorem dX9_dropped_0 : decode cX9_dropped 0 = .ok (.aload_n 0, 1) := by decide +kernel
theorem dX9_dropped_1 : decode cX9_dropped 1 = .ok (.iconst (-1), 1) := by decide +kernel
theorem dX9_dropped_2 : decode cX9_dropped 2 = .ok (.iconst 2, 1) := by decide +kernel
theorem dX9_dropped_3 : decode cX9_dropped 3 = .ok (.invokevirtual 75, 3) := by decide +kernel
theorem dX9_dropped_6 : decode cX9_dropped 6 = .ok (.aload_n 0, 1) := by decide +kernel
theorem dX9_dropped_7 : decode cX9_dropped 7 = .ok (.iconst (-1), 1) := by decide +kernel
theorem dX9_dropped_8 : decode cX9_dropped 8 = .ok (.iconst 3, 1) := by decide +kernel
theorem dX9_dropped_9 : decode cX9_dropped 9 = .ok (.invokevirtual 75, 3) := by decide +kernel
theorem dX9_dropped_12 : decode cX9_dropped 12 = .ok (.iadd, 1) := by decide +kernel
theorem dX9_dropped_13 : decode cX9_dropped 13 = .ok (.aload_n 0, 1) := by decide +kernel
theorem dX9_dropped_14 : decode cX9_dropped 14 = .ok (.iconst (-1), 1) := by decide +kernel
theorem dX9_dropped_15 : decode cX9_dropped 15 = .ok (.iconst 4, 1) := by decide +kernel
theorem dX9_dropped_16 : decode cX9_dropped 16 = .ok (.invokevirtual 75, 3) := by decide +kernel
theorem dX9_dropped_19 : decode cX9_dropped 19 = .ok (.iadd, 1) := by decide +kernel
theorem dX9_dropped_20 : decode cX9_dropped 20 = .ok (.ireturn, 1) := by decide +kernel
theorem dX9_baseOf_0 : decode cX9_baseOf 0 = .ok (.iload_n 1, 1) := by decide +kernel
theorem dX9_baseOf_1 : decode cX9_baseOf 1 = .ok (.aload_n 0, 1) := by decide +kernel
theorem dX9_baseOf_2 : decode cX9_baseOf 2 = .ok (.invokevirtual 82, 3) := by decide +kernel
theorem dX9_baseOf_5 : decode cX9_baseOf 5 = .ok (.if_icmp .ge 5, 3) := by decide +kernel
theorem dX9_baseOf_8 : decode cX9_baseOf 8 = .ok (.lconst 0, 1) := by decide +kernel
theorem dX9_baseOf_9 : decode cX9_baseOf 9 = .ok (.lreturn, 1) := by decide +kernel
theorem dX9_baseOf_10 : decode cX9_baseOf 10 = .ok (.iload_n 1, 1) := by decide +kernel
theorem dX9_baseOf_11 : decode cX9_baseOf 11 = .ok (.aload_n 0, 1) := by decide +kernel
theorem dX9_baseOf_12 : decode cX9_baseOf 12 = .ok (.invokevirtual 85, 3) := by decide +kernel
theorem dX9_baseOf_15 : decode cX9_baseOf 15 = .ok (.if_icmp .lt 7, 3) := by decide +kernel
theorem dX9_baseOf_18 : decode cX9_baseOf 18 = .ok (.ldc2_w 88, 3) := by decide +kernel
theorem dX9_baseOf_21 : decode cX9_baseOf 21 = .ok (.lreturn, 1) := by decide +kernel
theorem dX9_baseOf_22 : decode cX9_baseOf 22 = .ok (.iload_n 1, 1) := by decide +kernel
theorem dX9_baseOf_23 : decode cX9_baseOf 23 = .ok (.aload_n 0, 1) := by decide +kernel
theorem dX9_baseOf_24 : decode cX9_baseOf 24 = .ok (.invokevirtual 78, 3) := by decide +kernel
theorem dX9_baseOf_27 : decode cX9_baseOf 27 = .ok (.if_icmp .ge 30, 3) := by decide +kernel
theorem dX9_baseOf_30 : decode cX9_baseOf 30 = .ok (.aload_n 0, 1) := by decide +kernel
theorem dX9_baseOf_31 : decode cX9_baseOf 31 = .ok (.getfield 9, 3) := by decide +kernel
theorem dX9_baseOf_34 : decode cX9_baseOf 34 = .ok (.iconst 4, 1) := by decide +kernel
theorem dX9_baseOf_35 : decode cX9_baseOf 35 = .ok (.iaload, 1) := by decide +kernel
theorem dX9_baseOf_36 : decode cX9_baseOf 36 = .ok (.i2l, 1) := by decide +kernel
theorem dX9_baseOf_37 : decode cX9_baseOf 37 = .ok (.iload_n 1, 1) := by decide +kernel
theorem dX9_baseOf_38 : decode cX9_baseOf 38 = .ok (.aload_n 0, 1) := by decide +kernel
theorem dX9_baseOf_39 : decode cX9_baseOf 39 = .ok (.invokevirtual 82, 3) := by decide +kernel
theorem dX9_baseOf_42 : decode cX9_baseOf 42 = .ok (.isub, 1) := by decide +kernel
theorem dX9_baseOf_43 : decode cX9_baseOf 43 = .ok (.i2l, 1) := by decide +kernel
theorem dX9_baseOf_44 : decode cX9_baseOf 44 = .ok (.lmul, 1) := by decide +kernel
theorem dX9_baseOf_45 : decode cX9_baseOf 45 = .ok (.aload_n 0, 1) := by decide +kernel
theorem dX9_baseOf_46 : decode cX9_baseOf 46 = .ok (.invokevirtual 78, 3) := by decide +kernel
theorem dX9_baseOf_49 : decode cX9_baseOf 49 = .ok (.aload_n 0, 1) := by decide +kernel
theorem dX9_baseOf_50 : decode cX9_baseOf 50 = .ok (.invokevirtual 82, 3) := by decide +kernel
theorem dX9_baseOf_53 : decode cX9_baseOf 53 = .ok (.isub, 1) := by decide +kernel
theorem dX9_baseOf_54 : decode cX9_baseOf 54 = .ok (.i2l, 1) := by decide +kernel
theorem dX9_baseOf_55 : decode cX9_baseOf 55 = .ok (.ldiv, 1) := by decide +kernel
theorem dX9_baseOf_56 : decode cX9_baseOf 56 = .ok (.lreturn, 1) := by decide +kernel
theorem dX9_baseOf_57 : decode cX9_baseOf 57 = .ok (.aload_n 0, 1) := by decide +kernel
theorem dX9_baseOf_58 : decode cX9_baseOf 58 = .ok (.getfield 9, 3) := by decide +kernel
theorem dX9_baseOf_61 : decode cX9_baseOf 61 = .ok (.iconst 4, 1) := by decide +kernel
theorem dX9_baseOf_62 : decode cX9_baseOf 62 = .ok (.iaload, 1) := by decide +kernel
theorem dX9_baseOf_63 : decode cX9_baseOf 63 = .ok (.i2l, 1) := by decide +kernel
theorem dX9_baseOf_64 : decode cX9_baseOf 64 = .ok (.ldc 90, 2) := by decide +kernel
theorem dX9_baseOf_66 : decode cX9_baseOf 66 = .ok (.aload_n 0, 1) := by decide +kernel
theorem dX9_baseOf_67 : decode cX9_baseOf 67 = .ok (.getfield 9, 3) := by decide +kernel
theorem dX9_baseOf_70 : decode cX9_baseOf 70 = .ok (.iconst 4, 1) := by decide +kernel
theorem dX9_baseOf_71 : decode cX9_baseOf 71 = .ok (.iaload, 1) := by decide +kernel
theorem dX9_baseOf_72 : decode cX9_baseOf 72 = .ok (.isub, 1) := by decide +kernel
theorem dX9_baseOf_73 : decode cX9_baseOf 73 = .ok (.i2l, 1) := by decide +kernel
theorem dX9_baseOf_74 : decode cX9_baseOf 74 = .ok (.iload_n 1, 1) := by decide +kernel
theorem dX9_baseOf_75 : decode cX9_baseOf 75 = .ok (.aload_n 0, 1) := by decide +kernel
theorem dX9_baseOf_76 : decode cX9_baseOf 76 = .ok (.invokevirtual 78, 3) := by decide +kernel
theorem dX9_baseOf_79 : decode cX9_baseOf 79 = .ok (.isub, 1) := by decide +kernel
theorem dX9_baseOf_80 : decode cX9_baseOf 80 = .ok (.i2l, 1) := by decide +kernel
theorem dX9_baseOf_81 : decode cX9_baseOf 81 = .ok (.lmul, 1) := by decide +kernel
theorem dX9_baseOf_82 : decode cX9_baseOf 82 = .ok (.aload_n 0, 1) := by decide +kernel
theorem dX9_baseOf_83 : decode cX9_baseOf 83 = .ok (.invokevirtual 78, 3) := by decide +kernel
theorem dX9_baseOf_86 : decode cX9_baseOf 86 = .ok (.i2l, 1) := by decide +kernel
theorem dX9_baseOf_87 : decode cX9_baseOf 87 = .ok (.ldiv, 1) := by decide +kernel
theorem dX9_baseOf_88 : decode cX9_baseOf 88 = .ok (.ladd, 1) := by decide +kernel
theorem dX9_baseOf_89 : decode cX9_baseOf 89 = .ok (.lreturn, 1) := by decide +kernel
theorem dX9_howOf_0 : decode cX9_howOf 0 = .ok (.iload_n 2, 1) := by decide +kernel
theorem dX9_howOf_1 : decode cX9_howOf 1 = .ok (.aload_n 0, 1) := by decide +kernel
theorem dX9_howOf_2 : decode cX9_howOf 2 = .ok (.getfield 9, 3) := by decide +kernel
theorem dX9_howOf_5 : decode cX9_howOf 5 = .ok (.iconst 0, 1) := by decide +kernel
theorem dX9_howOf_6 : decode cX9_howOf 6 = .ok (.iaload, 1) := by decide +kernel
theorem dX9_howOf_7 : decode cX9_howOf 7 = .ok (.if_icmp .ne 5, 3) := by decide +kernel
theorem dX9_howOf_10 : decode cX9_howOf 10 = .ok (.iconst 0, 1) := by decide +kernel
theorem dX9_howOf_11 : decode cX9_howOf 11 = .ok (.ireturn, 1) := by decide +kernel
theorem dX9_howOf_12 : decode cX9_howOf 12 = .ok (.iload_n 1, 1) := by decide +kernel
theorem dX9_howOf_13 : decode cX9_howOf 13 = .ok (.aload_n 0, 1) := by decide +kernel
theorem dX9_howOf_14 : decode cX9_howOf 14 = .ok (.invokevirtual 82, 3) := by decide +kernel
theorem dX9_howOf_17 : decode cX9_howOf 17 = .ok (.if_icmp .ge 7, 3) := by decide +kernel
theorem dX9_howOf_20 : decode cX9_howOf 20 = .ok (.iconst 1, 1) := by decide +kernel
theorem dX9_howOf_21 : decode cX9_howOf 21 = .ok (.goto 16, 3) := by decide +kernel
theorem dX9_howOf_24 : decode cX9_howOf 24 = .ok (.iload_n 1, 1) := by decide +kernel
theorem dX9_howOf_25 : decode cX9_howOf 25 = .ok (.aload_n 0, 1) := by decide +kernel
theorem dX9_howOf_26 : decode cX9_howOf 26 = .ok (.invokevirtual 85, 3) := by decide +kernel
theorem dX9_howOf_29 : decode cX9_howOf 29 = .ok (.if_icmp .lt 7, 3) := by decide +kernel
theorem dX9_howOf_32 : decode cX9_howOf 32 = .ok (.iconst 2, 1) := by decide +kernel
theorem dX9_howOf_33 : decode cX9_howOf 33 = .ok (.goto 4, 3) := by decide +kernel
theorem dX9_howOf_36 : decode cX9_howOf 36 = .ok (.iconst 3, 1) := by decide +kernel
theorem dX9_howOf_37 : decode cX9_howOf 37 = .ok (.ireturn, 1) := by decide +kernel
theorem dX9_drops_0 : decode cX9_drops 0 = .ok (.aload_n 0, 1) := by decide +kernel
theorem dX9_drops_1 : decode cX9_drops 1 = .ok (.iload_n 1, 1) := by decide +kernel
theorem dX9_drops_2 : decode cX9_drops 2 = .ok (.iload_n 2, 1) := by decide +kernel
theorem dX9_drops_3 : decode cX9_drops 3 = .ok (.iconst 1, 1) := by decide +kernel
theorem dX9_drops_4 : decode cX9_drops 4 = .ok (.invokevirtual 103, 3) := by decide +kernel
theorem dX9_drops_7 : decode cX9_drops 7 = .ok (.aload_n 0, 1) := by decide +kernel
theorem dX9_drops_8 : decode cX9_drops 8 = .ok (.iload_n 1, 1) := by decide +kernel
theorem dX9_drops_9 : decode cX9_drops 9 = .ok (.bipush 7, 2) := by decide +kernel
theorem dX9_drops_11 : decode cX9_drops 11 = .ok (.iconst 1, 1) := by decide +kernel
theorem dX9_drops_12 : decode cX9_drops 12 = .ok (.invokevirtual 71, 3) := by decide +kernel
theorem dX9_drops_15 : decode cX9_drops 15 = .ok (.return_, 1) := by decide +kernel
theorem dX9_sendsNow_0 : decode cX9_sendsNow 0 = .ok (.aload_n 0, 1) := by decide +kernel
theorem dX9_sendsNow_1 : decode cX9_sendsNow 1 = .ok (.iload_n 1, 1) := by decide +kernel
theorem dX9_sendsNow_2 : decode cX9_sendsNow 2 = .ok (.invokevirtual 147, 3) := by decide +kernel
theorem dX9_sendsNow_5 : decode cX9_sendsNow 5 = .ok (.ifCond .eq 47, 3) := by decide +kernel
theorem dX9_sendsNow_8 : decode cX9_sendsNow 8 = .ok (.aload_n 0, 1) := by decide +kernel
theorem dX9_sendsNow_9 : decode cX9_sendsNow 9 = .ok (.getfield 9, 3) := by decide +kernel
theorem dX9_sendsNow_12 : decode cX9_sendsNow 12 = .ok (.bipush 7, 2) := by decide +kernel
theorem dX9_sendsNow_14 : decode cX9_sendsNow 14 = .ok (.iaload, 1) := by decide +kernel
theorem dX9_sendsNow_15 : decode cX9_sendsNow 15 = .ok (.aload_n 0, 1) := by decide +kernel
theorem dX9_sendsNow_16 : decode cX9_sendsNow 16 = .ok (.iload_n 1, 1) := by decide +kernel
theorem dX9_sendsNow_17 : decode cX9_sendsNow 17 = .ok (.iconst 0, 1) := by decide +kernel
theorem dX9_sendsNow_18 : decode cX9_sendsNow 18 = .ok (.invokevirtual 67, 3) := by decide +kernel
theorem dX9_sendsNow_21 : decode cX9_sendsNow 21 = .ok (.if_icmp .lt 31, 3) := by decide +kernel
theorem dX9_sendsNow_24 : decode cX9_sendsNow 24 = .ok (.aload_n 0, 1) := by decide +kernel
theorem dX9_sendsNow_25 : decode cX9_sendsNow 25 = .ok (.getfield 9, 3) := by decide +kernel
theorem dX9_sendsNow_28 : decode cX9_sendsNow 28 = .ok (.bipush 7, 2) := by decide +kernel
theorem dX9_sendsNow_30 : decode cX9_sendsNow 30 = .ok (.iaload, 1) := by decide +kernel
theorem dX9_sendsNow_31 : decode cX9_sendsNow 31 = .ok (.aload_n 0, 1) := by decide +kernel
theorem dX9_sendsNow_32 : decode cX9_sendsNow 32 = .ok (.iload_n 1, 1) := by decide +kernel
theorem dX9_sendsNow_33 : decode cX9_sendsNow 33 = .ok (.iconst 0, 1) := by decide +kernel
theorem dX9_sendsNow_34 : decode cX9_sendsNow 34 = .ok (.invokevirtual 67, 3) := by decide +kernel
theorem dX9_sendsNow_37 : decode cX9_sendsNow 37 = .ok (.isub, 1) := by decide +kernel
theorem dX9_sendsNow_38 : decode cX9_sendsNow 38 = .ok (.aload_n 0, 1) := by decide +kernel
theorem dX9_sendsNow_39 : decode cX9_sendsNow 39 = .ok (.iload_n 1, 1) := by decide +kernel
theorem dX9_sendsNow_40 : decode cX9_sendsNow 40 = .ok (.iconst 1, 1) := by decide +kernel
theorem dX9_sendsNow_41 : decode cX9_sendsNow 41 = .ok (.invokevirtual 67, 3) := by decide +kernel
theorem dX9_sendsNow_44 : decode cX9_sendsNow 44 = .ok (.irem, 1) := by decide +kernel
theorem dX9_sendsNow_45 : decode cX9_sendsNow 45 = .ok (.ifCond .ne 7, 3) := by decide +kernel
theorem dX9_sendsNow_48 : decode cX9_sendsNow 48 = .ok (.iconst 1, 1) := by decide +kernel
theorem dX9_sendsNow_49 : decode cX9_sendsNow 49 = .ok (.goto 4, 3) := by decide +kernel
theorem dX9_sendsNow_52 : decode cX9_sendsNow 52 = .ok (.iconst 0, 1) := by decide +kernel
theorem dX9_sendsNow_53 : decode cX9_sendsNow 53 = .ok (.ireturn, 1) := by decide +kernel
theorem dX9_leaves_0 : decode cX9_leaves 0 = .ok (.aload_n 0, 1) := by decide +kernel
theorem dX9_leaves_1 : decode cX9_leaves 1 = .ok (.iload_n 1, 1) := by decide +kernel
theorem dX9_leaves_2 : decode cX9_leaves 2 = .ok (.iconst 0, 1) := by decide +kernel
theorem dX9_leaves_3 : decode cX9_leaves 3 = .ok (.invokevirtual 159, 3) := by decide +kernel
theorem dX9_leaves_6 : decode cX9_leaves 6 = .ok (.istore_n 2, 1) := by decide +kernel
theorem dX9_leaves_7 : decode cX9_leaves 7 = .ok (.aload_n 0, 1) := by decide +kernel
theorem dX9_leaves_8 : decode cX9_leaves 8 = .ok (.iload_n 2, 1) := by decide +kernel
theorem dX9_leaves_9 : decode cX9_leaves 9 = .ok (.iconst 5, 1) := by decide +kernel
theorem dX9_leaves_10 : decode cX9_leaves 10 = .ok (.iconst 1, 1) := by decide +kernel
theorem dX9_leaves_11 : decode cX9_leaves 11 = .ok (.invokevirtual 103, 3) := by decide +kernel
theorem dX9_leaves_14 : decode cX9_leaves 14 = .ok (.aload_n 0, 1) := by decide +kernel
theorem dX9_leaves_15 : decode cX9_leaves 15 = .ok (.iload_n 2, 1) := by decide +kernel
theorem dX9_leaves_16 : decode cX9_leaves 16 = .ok (.bipush 6, 2) := by decide +kernel
theorem dX9_leaves_18 : decode cX9_leaves 18 = .ok (.aload_n 0, 1) := by decide +kernel
theorem dX9_leaves_19 : decode cX9_leaves 19 = .ok (.iload_n 1, 1) := by decide +kernel
theorem dX9_leaves_20 : decode cX9_leaves 20 = .ok (.iconst 2, 1) := by decide +kernel
theorem dX9_leaves_21 : decode cX9_leaves 21 = .ok (.invokevirtual 159, 3) := by decide +kernel
theorem dX9_leaves_24 : decode cX9_leaves 24 = .ok (.invokevirtual 103, 3) := by decide +kernel
theorem dX9_leaves_27 : decode cX9_leaves 27 = .ok (.aload_n 0, 1) := by decide +kernel
theorem dX9_leaves_28 : decode cX9_leaves 28 = .ok (.iload_n 2, 1) := by decide +kernel
theorem dX9_leaves_29 : decode cX9_leaves 29 = .ok (.bipush 7, 2) := by decide +kernel
theorem dX9_leaves_31 : decode cX9_leaves 31 = .ok (.aload_n 0, 1) := by decide +kernel
theorem dX9_leaves_32 : decode cX9_leaves 32 = .ok (.getfield 9, 3) := by decide +kernel
theorem dX9_leaves_35 : decode cX9_leaves 35 = .ok (.bipush 7, 2) := by decide +kernel
theorem dX9_leaves_37 : decode cX9_leaves 37 = .ok (.iaload, 1) := by decide +kernel
theorem dX9_leaves_38 : decode cX9_leaves 38 = .ok (.aload_n 0, 1) := by decide +kernel
theorem dX9_leaves_39 : decode cX9_leaves 39 = .ok (.iload_n 1, 1) := by decide +kernel
theorem dX9_leaves_40 : decode cX9_leaves 40 = .ok (.iconst 1, 1) := by decide +kernel
theorem dX9_leaves_41 : decode cX9_leaves 41 = .ok (.invokevirtual 159, 3) := by decide +kernel
theorem dX9_leaves_44 : decode cX9_leaves 44 = .ok (.isub, 1) := by decide +kernel
theorem dX9_leaves_45 : decode cX9_leaves 45 = .ok (.invokevirtual 103, 3) := by decide +kernel
theorem dX9_leaves_48 : decode cX9_leaves 48 = .ok (.return_, 1) := by decide +kernel
theorem dX9_feed_0 : decode cX9_feed 0 = .ok (.aload_n 0, 1) := by decide +kernel
theorem dX9_feed_1 : decode cX9_feed 1 = .ok (.iconst 0, 1) := by decide +kernel
theorem dX9_feed_2 : decode cX9_feed 2 = .ok (.putfield 60, 3) := by decide +kernel
theorem dX9_feed_5 : decode cX9_feed 5 = .ok (.aload_n 0, 1) := by decide +kernel
theorem dX9_feed_6 : decode cX9_feed 6 = .ok (.getfield 179, 3) := by decide +kernel
theorem dX9_feed_9 : decode cX9_feed 9 = .ok (.iload_n 1, 1) := by decide +kernel
theorem dX9_feed_10 : decode cX9_feed 10 = .ok (.invokestatic 182, 3) := by decide +kernel
theorem dX9_feed_13 : decode cX9_feed 13 = .ok (.iadd, 1) := by decide +kernel
theorem dX9_feed_14 : decode cX9_feed 14 = .ok (.iload_n 2, 1) := by decide +kernel
theorem dX9_feed_15 : decode cX9_feed 15 = .ok (.invokestatic 182, 3) := by decide +kernel
theorem dX9_feed_18 : decode cX9_feed 18 = .ok (.iadd, 1) := by decide +kernel
theorem dX9_feed_19 : decode cX9_feed 19 = .ok (.iload_n 3, 1) := by decide +kernel
theorem dX9_feed_20 : decode cX9_feed 20 = .ok (.invokestatic 182, 3) := by decide +kernel
theorem dX9_feed_23 : decode cX9_feed 23 = .ok (.iadd, 1) := by decide +kernel
theorem dX9_feed_24 : decode cX9_feed 24 = .ok (.iload 4, 2) := by decide +kernel
theorem dX9_feed_26 : decode cX9_feed 26 = .ok (.invokestatic 182, 3) := by decide +kernel
theorem dX9_feed_29 : decode cX9_feed 29 = .ok (.iadd, 1) := by decide +kernel
theorem dX9_feed_30 : decode cX9_feed 30 = .ok (.iload 5, 2) := by decide +kernel
theorem dX9_feed_32 : decode cX9_feed 32 = .ok (.invokestatic 182, 3) := by decide +kernel
theorem dX9_feed_35 : decode cX9_feed 35 = .ok (.iadd, 1) := by decide +kernel
theorem dX9_feed_36 : decode cX9_feed 36 = .ok (.sipush 500, 3) := by decide +kernel
theorem dX9_feed_39 : decode cX9_feed 39 = .ok (.if_icmp .le 5, 3) := by decide +kernel
theorem dX9_feed_42 : decode cX9_feed 42 = .ok (.iconst (-1), 1) := by decide +kernel
theorem dX9_feed_43 : decode cX9_feed 43 = .ok (.ireturn, 1) := by decide +kernel
theorem dX9_feed_44 : decode cX9_feed 44 = .ok (.aload_n 0, 1) := by decide +kernel
theorem dX9_feed_45 : decode cX9_feed 45 = .ok (.iload_n 1, 1) := by decide +kernel
theorem dX9_feed_46 : decode cX9_feed 46 = .ok (.invokevirtual 185, 3) := by decide +kernel
theorem dX9_feed_49 : decode cX9_feed 49 = .ok (.aload_n 0, 1) := by decide +kernel
theorem dX9_feed_50 : decode cX9_feed 50 = .ok (.iload_n 2, 1) := by decide +kernel
theorem dX9_feed_51 : decode cX9_feed 51 = .ok (.invokevirtual 185, 3) := by decide +kernel
theorem dX9_feed_54 : decode cX9_feed 54 = .ok (.aload_n 0, 1) := by decide +kernel
theorem dX9_feed_55 : decode cX9_feed 55 = .ok (.iload_n 3, 1) := by decide +kernel
theorem dX9_feed_56 : decode cX9_feed 56 = .ok (.invokevirtual 185, 3) := by decide +kernel
theorem dX9_feed_59 : decode cX9_feed 59 = .ok (.aload_n 0, 1) := by decide +kernel
theorem dX9_feed_60 : decode cX9_feed 60 = .ok (.iload 4, 2) := by decide +kernel
theorem dX9_feed_62 : decode cX9_feed 62 = .ok (.invokevirtual 185, 3) := by decide +kernel
theorem dX9_feed_65 : decode cX9_feed 65 = .ok (.aload_n 0, 1) := by decide +kernel
theorem dX9_feed_66 : decode cX9_feed 66 = .ok (.iload 5, 2) := by decide +kernel
theorem dX9_feed_68 : decode cX9_feed 68 = .ok (.invokevirtual 185, 3) := by decide +kernel
theorem dX9_feed_71 : decode cX9_feed 71 = .ok (.aload_n 0, 1) := by decide +kernel
theorem dX9_feed_72 : decode cX9_feed 72 = .ok (.getfield 179, 3) := by decide +kernel
theorem dX9_feed_75 : decode cX9_feed 75 = .ok (.ireturn, 1) := by decide +kernel
theorem dX9_advance_0 : decode cX9_advance 0 = .ok (.aload_n 0, 1) := by decide +kernel
theorem dX9_advance_1 : decode cX9_advance 1 = .ok (.aload_n 0, 1) := by decide +kernel
theorem dX9_advance_2 : decode cX9_advance 2 = .ok (.getfield 191, 3) := by decide +kernel
theorem dX9_advance_5 : decode cX9_advance 5 = .ok (.invokevirtual 188, 3) := by decide +kernel
theorem dX9_advance_8 : decode cX9_advance 8 = .ok (.bipush 32, 2) := by decide +kernel
theorem dX9_advance_10 : decode cX9_advance 10 = .ok (.if_icmp .eq 16, 3) := by decide +kernel
theorem dX9_advance_13 : decode cX9_advance 13 = .ok (.aload_n 0, 1) := by decide +kernel
theorem dX9_advance_14 : decode cX9_advance 14 = .ok (.aload_n 0, 1) := by decide +kernel
theorem dX9_advance_15 : decode cX9_advance 15 = .ok (.getfield 191, 3) := by decide +kernel
theorem dX9_advance_18 : decode cX9_advance 18 = .ok (.invokevirtual 188, 3) := by decide +kernel
theorem dX9_advance_21 : decode cX9_advance 21 = .ok (.bipush 10, 2) := by decide +kernel
theorem dX9_advance_23 : decode cX9_advance 23 = .ok (.if_icmp .ne 16, 3) := by decide +kernel
theorem dX9_advance_26 : decode cX9_advance 26 = .ok (.aload_n 0, 1) := by decide +kernel
theorem dX9_advance_27 : decode cX9_advance 27 = .ok (.dup, 1) := by decide +kernel
theorem dX9_advance_28 : decode cX9_advance 28 = .ok (.getfield 191, 3) := by decide +kernel
theorem dX9_advance_31 : decode cX9_advance 31 = .ok (.iconst 1, 1) := by decide +kernel
theorem dX9_advance_32 : decode cX9_advance 32 = .ok (.iadd, 1) := by decide +kernel
theorem dX9_advance_33 : decode cX9_advance 33 = .ok (.putfield 191, 3) := by decide +kernel
theorem dX9_advance_36 : decode cX9_advance 36 = .ok (.goto (-36), 3) := by decide +kernel
theorem dX9_advance_39 : decode cX9_advance 39 = .ok (.aload_n 0, 1) := by decide +kernel
theorem dX9_advance_40 : decode cX9_advance 40 = .ok (.aload_n 0, 1) := by decide +kernel
theorem dX9_advance_41 : decode cX9_advance 41 = .ok (.getfield 191, 3) := by decide +kernel
theorem dX9_advance_44 : decode cX9_advance 44 = .ok (.putfield 194, 3) := by decide +kernel
theorem dX9_advance_47 : decode cX9_advance 47 = .ok (.aload_n 0, 1) := by decide +kernel
theorem dX9_advance_48 : decode cX9_advance 48 = .ok (.iconst 0, 1) := by decide +kernel
theorem dX9_advance_49 : decode cX9_advance 49 = .ok (.putfield 197, 3) := by decide +kernel
theorem dX9_advance_52 : decode cX9_advance 52 = .ok (.aload_n 0, 1) := by decide +kernel
theorem dX9_advance_53 : decode cX9_advance 53 = .ok (.getfield 194, 3) := by decide +kernel
theorem dX9_advance_56 : decode cX9_advance 56 = .ok (.aload_n 0, 1) := by decide +kernel
theorem dX9_advance_57 : decode cX9_advance 57 = .ok (.getfield 179, 3) := by decide +kernel
theorem dX9_advance_60 : decode cX9_advance 60 = .ok (.if_icmp .ne 11, 3) := by decide +kernel
theorem dX9_advance_63 : decode cX9_advance 63 = .ok (.aload_n 0, 1) := by decide +kernel
theorem dX9_advance_64 : decode cX9_advance 64 = .ok (.iconst 0, 1) := by decide +kernel
theorem dX9_advance_65 : decode cX9_advance 65 = .ok (.putfield 200, 3) := by decide +kernel
theorem dX9_advance_68 : decode cX9_advance 68 = .ok (.goto 173, 3) := by decide +kernel
theorem dX9_advance_71 : decode cX9_advance 71 = .ok (.aload_n 0, 1) := by decide +kernel
theorem dX9_advance_72 : decode cX9_advance 72 = .ok (.aload_n 0, 1) := by decide +kernel
theorem dX9_advance_73 : decode cX9_advance 73 = .ok (.getfield 194, 3) := by decide +kernel
theorem dX9_advance_76 : decode cX9_advance 76 = .ok (.invokevirtual 203, 3) := by decide +kernel
theorem dX9_advance_79 : decode cX9_advance 79 = .ok (.ifCond .eq 32, 3) := by decide +kernel
theorem dX9_advance_82 : decode cX9_advance 82 = .ok (.aload_n 0, 1) := by decide +kernel
theorem dX9_advance_83 : decode cX9_advance 83 = .ok (.iconst 1, 1) := by decide +kernel
theorem dX9_advance_84 : decode cX9_advance 84 = .ok (.putfield 200, 3) := by decide +kernel
theorem dX9_advance_87 : decode cX9_advance 87 = .ok (.aload_n 0, 1) := by decide +kernel
theorem dX9_advance_88 : decode cX9_advance 88 = .ok (.aload_n 0, 1) := by decide +kernel
theorem dX9_advance_89 : decode cX9_advance 89 = .ok (.getfield 191, 3) := by decide +kernel
theorem dX9_advance_92 : decode cX9_advance 92 = .ok (.invokevirtual 203, 3) := by decide +kernel
theorem dX9_advance_95 : decode cX9_advance 95 = .ok (.ifCond .eq 146, 3) := by decide +kernel
theorem dX9_advance_98 : decode cX9_advance 98 = .ok (.aload_n 0, 1) := by decide +kernel
theorem dX9_advance_99 : decode cX9_advance 99 = .ok (.dup, 1) := by decide +kernel
theorem dX9_advance_100 : decode cX9_advance 100 = .ok (.getfield 191, 3) := by decide +kernel
theorem dX9_advance_103 : decode cX9_advance 103 = .ok (.iconst 1, 1) := by decide +kernel
theorem dX9_advance_104 : decode cX9_advance 104 = .ok (.iadd, 1) := by decide +kernel
theorem dX9_advance_105 : decode cX9_advance 105 = .ok (.putfield 191, 3) := by decide +kernel
theorem dX9_advance_108 : decode cX9_advance 108 = .ok (.goto (-21), 3) := by decide +kernel
theorem dX9_advance_111 : decode cX9_advance 111 = .ok (.aload_n 0, 1) := by decide +kernel
theorem dX9_advance_112 : decode cX9_advance 112 = .ok (.aload_n 0, 1) := by decide +kernel
theorem dX9_advance_113 : decode cX9_advance 113 = .ok (.getfield 194, 3) := by decide +kernel
theorem dX9_advance_116 : decode cX9_advance 116 = .ok (.invokevirtual 206, 3) := by decide +kernel
theorem dX9_advance_119 : decode cX9_advance 119 = .ok (.ifCond .eq 75, 3) := by decide +kernel
theorem dX9_advance_122 : decode cX9_advance 122 = .ok (.aload_n 0, 1) := by decide +kernel
theorem dX9_advance_123 : decode cX9_advance 123 = .ok (.iconst 2, 1) := by decide +kernel
theorem dX9_advance_124 : decode cX9_advance 124 = .ok (.putfield 200, 3) := by decide +kernel
theorem dX9_advance_127 : decode cX9_advance 127 = .ok (.aload_n 0, 1) := by decide +kernel
theorem dX9_advance_128 : decode cX9_advance 128 = .ok (.aload_n 0, 1) := by decide +kernel
theorem dX9_advance_129 : decode cX9_advance 129 = .ok (.getfield 191, 3) := by decide +kernel
theorem dX9_advance_132 : decode cX9_advance 132 = .ok (.invokevirtual 206, 3) := by decide +kernel
theorem dX9_advance_135 : decode cX9_advance 135 = .ok (.ifCond .eq 106, 3) := by decide +kernel
theorem dX9_advance_138 : decode cX9_advance 138 = .ok (.aload_n 0, 1) := by decide +kernel
theorem dX9_advance_139 : decode cX9_advance 139 = .ok (.aload_n 0, 1) := by decide +kernel
theorem dX9_advance_140 : decode cX9_advance 140 = .ok (.getfield 191, 3) := by decide +kernel
theorem dX9_advance_143 : decode cX9_advance 143 = .ok (.aload_n 0, 1) := by decide +kernel
theorem dX9_advance_144 : decode cX9_advance 144 = .ok (.getfield 194, 3) := by decide +kernel
theorem dX9_advance_147 : decode cX9_advance 147 = .ok (.isub, 1) := by decide +kernel
theorem dX9_advance_148 : decode cX9_advance 148 = .ok (.bipush 6, 2) := by decide +kernel
theorem dX9_advance_150 : decode cX9_advance 150 = .ok (.if_icmp .ge 26, 3) := by decide +kernel
theorem dX9_advance_153 : decode cX9_advance 153 = .ok (.bipush 10, 2) := by decide +kernel
theorem dX9_advance_155 : decode cX9_advance 155 = .ok (.aload_n 0, 1) := by decide +kernel
theorem dX9_advance_156 : decode cX9_advance 156 = .ok (.getfield 197, 3) := by decide +kernel
theorem dX9_advance_159 : decode cX9_advance 159 = .ok (.imul, 1) := by decide +kernel
theorem dX9_advance_160 : decode cX9_advance 160 = .ok (.aload_n 0, 1) := by decide +kernel
theorem dX9_advance_161 : decode cX9_advance 161 = .ok (.getfield 29, 3) := by decide +kernel
theorem dX9_advance_164 : decode cX9_advance 164 = .ok (.aload_n 0, 1) := by decide +kernel
theorem dX9_advance_165 : decode cX9_advance 165 = .ok (.getfield 191, 3) := by decide +kernel
theorem dX9_advance_168 : decode cX9_advance 168 = .ok (.iaload, 1) := by decide +kernel
theorem dX9_advance_169 : decode cX9_advance 169 = .ok (.iadd, 1) := by decide +kernel
theorem dX9_advance_170 : decode cX9_advance 170 = .ok (.bipush 48, 2) := by decide +kernel
theorem dX9_advance_172 : decode cX9_advance 172 = .ok (.isub, 1) := by decide +kernel
theorem dX9_advance_173 : decode cX9_advance 173 = .ok (.goto 5, 3) := by decide +kernel
theorem dX9_advance_176 : decode cX9_advance 176 = .ok (.ldc 209, 2) := by decide +kernel
theorem dX9_advance_178 : decode cX9_advance 178 = .ok (.putfield 197, 3) := by decide +kernel
theorem dX9_advance_181 : decode cX9_advance 181 = .ok (.aload_n 0, 1) := by decide +kernel
theorem dX9_advance_182 : decode cX9_advance 182 = .ok (.dup, 1) := by decide +kernel
theorem dX9_advance_183 : decode cX9_advance 183 = .ok (.getfield 191, 3) := by decide +kernel
theorem dX9_advance_186 : decode cX9_advance 186 = .ok (.iconst 1, 1) := by decide +kernel
theorem dX9_advance_187 : decode cX9_advance 187 = .ok (.iadd, 1) := by decide +kernel
theorem dX9_advance_188 : decode cX9_advance 188 = .ok (.putfield 191, 3) := by decide +kernel
theorem dX9_advance_191 : decode cX9_advance 191 = .ok (.goto (-64), 3) := by decide +kernel
theorem dX9_advance_194 : decode cX9_advance 194 = .ok (.aload_n 0, 1) := by decide +kernel
theorem dX9_advance_195 : decode cX9_advance 195 = .ok (.getfield 29, 3) := by decide +kernel
theorem dX9_advance_198 : decode cX9_advance 198 = .ok (.aload_n 0, 1) := by decide +kernel
theorem dX9_advance_199 : decode cX9_advance 199 = .ok (.getfield 194, 3) := by decide +kernel
theorem dX9_advance_202 : decode cX9_advance 202 = .ok (.iaload, 1) := by decide +kernel
theorem dX9_advance_203 : decode cX9_advance 203 = .ok (.istore_n 1, 1) := by decide +kernel
theorem dX9_advance_204 : decode cX9_advance 204 = .ok (.aload_n 0, 1) := by decide +kernel
theorem dX9_advance_205 : decode cX9_advance 205 = .ok (.iload_n 1, 1) := by decide +kernel
theorem dX9_advance_206 : decode cX9_advance 206 = .ok (.bipush 59, 2) := by decide +kernel
theorem dX9_advance_208 : decode cX9_advance 208 = .ok (.if_icmp .eq 15, 3) := by decide +kernel
theorem dX9_advance_211 : decode cX9_advance 211 = .ok (.iload_n 1, 1) := by decide +kernel
theorem dX9_advance_212 : decode cX9_advance 212 = .ok (.bipush 40, 2) := by decide +kernel
theorem dX9_advance_214 : decode cX9_advance 214 = .ok (.if_icmp .eq 9, 3) := by decide +kernel
theorem dX9_advance_217 : decode cX9_advance 217 = .ok (.iload_n 1, 1) := by decide +kernel
theorem dX9_advance_218 : decode cX9_advance 218 = .ok (.bipush 41, 2) := by decide +kernel
theorem dX9_advance_220 : decode cX9_advance 220 = .ok (.if_icmp .ne 7, 3) := by decide +kernel
theorem dX9_advance_223 : decode cX9_advance 223 = .ok (.iconst 3, 1) := by decide +kernel
theorem dX9_advance_224 : decode cX9_advance 224 = .ok (.goto 4, 3) := by decide +kernel
theorem dX9_advance_227 : decode cX9_advance 227 = .ok (.iconst 4, 1) := by decide +kernel
theorem dX9_advance_228 : decode cX9_advance 228 = .ok (.putfield 200, 3) := by decide +kernel
theorem dX9_advance_231 : decode cX9_advance 231 = .ok (.aload_n 0, 1) := by decide +kernel
theorem dX9_advance_232 : decode cX9_advance 232 = .ok (.dup, 1) := by decide +kernel
theorem dX9_advance_233 : decode cX9_advance 233 = .ok (.getfield 191, 3) := by decide +kernel
theorem dX9_advance_236 : decode cX9_advance 236 = .ok (.iconst 1, 1) := by decide +kernel
theorem dX9_advance_237 : decode cX9_advance 237 = .ok (.iadd, 1) := by decide +kernel
theorem dX9_advance_238 : decode cX9_advance 238 = .ok (.putfield 191, 3) := by decide +kernel
theorem dX9_advance_241 : decode cX9_advance 241 = .ok (.return_, 1) := by decide +kernel
theorem dX9_found_0 : decode cX9_found 0 = .ok (.iconst 0, 1) := by decide +kernel
theorem dX9_found_1 : decode cX9_found 1 = .ok (.istore_n 1, 1) := by decide +kernel
theorem dX9_found_2 : decode cX9_found 2 = .ok (.iload_n 1, 1) := by decide +kernel
theorem dX9_found_3 : decode cX9_found 3 = .ok (.aload_n 0, 1) := by decide +kernel
theorem dX9_found_4 : decode cX9_found 4 = .ok (.getfield 9, 3) := by decide +kernel
theorem dX9_found_7 : decode cX9_found 7 = .ok (.bipush 11, 2) := by decide +kernel
theorem dX9_found_9 : decode cX9_found 9 = .ok (.iaload, 1) := by decide +kernel
theorem dX9_found_10 : decode cX9_found 10 = .ok (.if_icmp .ge 19, 3) := by decide +kernel
theorem dX9_found_13 : decode cX9_found 13 = .ok (.aload_n 0, 1) := by decide +kernel
theorem dX9_found_14 : decode cX9_found 14 = .ok (.iload_n 1, 1) := by decide +kernel
theorem dX9_found_15 : decode cX9_found 15 = .ok (.invokevirtual 236, 3) := by decide +kernel
theorem dX9_found_18 : decode cX9_found 18 = .ok (.ifCond .eq 5, 3) := by decide +kernel
theorem dX9_found_21 : decode cX9_found 21 = .ok (.iload_n 1, 1) := by decide +kernel
theorem dX9_found_22 : decode cX9_found 22 = .ok (.ireturn, 1) := by decide +kernel
theorem dX9_found_23 : decode cX9_found 23 = .ok (.iinc 1 1, 3) := by decide +kernel
theorem dX9_found_26 : decode cX9_found 26 = .ok (.goto (-24), 3) := by decide +kernel
theorem dX9_found_29 : decode cX9_found 29 = .ok (.iconst (-1), 1) := by decide +kernel
theorem dX9_found_30 : decode cX9_found 30 = .ok (.ireturn, 1) := by decide +kernel
theorem dX9_size_0 : decode cX9_size 0 = .ok (.aload_n 0, 1) := by decide +kernel
theorem dX9_size_1 : decode cX9_size 1 = .ok (.iconst 0, 1) := by decide +kernel
theorem dX9_size_2 : decode cX9_size 2 = .ok (.putfield 60, 3) := by decide +kernel
theorem dX9_size_5 : decode cX9_size 5 = .ok (.aload_n 0, 1) := by decide +kernel
theorem dX9_size_6 : decode cX9_size 6 = .ok (.iload_n 1, 1) := by decide +kernel
theorem dX9_size_7 : decode cX9_size 7 = .ok (.iconst 0, 1) := by decide +kernel
theorem dX9_size_8 : decode cX9_size 8 = .ok (.bipush 14, 2) := by decide +kernel
theorem dX9_size_10 : decode cX9_size 10 = .ok (.invokestatic 63, 3) := by decide +kernel
theorem dX9_size_13 : decode cX9_size 13 = .ok (.ifCond .ne 7, 3) := by decide +kernel
theorem dX9_size_16 : decode cX9_size 16 = .ok (.iconst 1, 1) := by decide +kernel
theorem dX9_size_17 : decode cX9_size 17 = .ok (.goto 4, 3) := by decide +kernel
theorem dX9_size_20 : decode cX9_size 20 = .ok (.iconst 0, 1) := by decide +kernel
theorem dX9_size_21 : decode cX9_size 21 = .ok (.iconst 1, 1) := by decide +kernel
theorem dX9_size_22 : decode cX9_size 22 = .ok (.invokevirtual 366, 3) := by decide +kernel
theorem dX9_size_25 : decode cX9_size 25 = .ok (.ifCond .eq 5, 3) := by decide +kernel
theorem dX9_size_28 : decode cX9_size 28 = .ok (.iconst 0, 1) := by decide +kernel
theorem dX9_size_29 : decode cX9_size 29 = .ok (.ireturn, 1) := by decide +kernel
theorem dX9_size_30 : decode cX9_size 30 = .ok (.iload_n 1, 1) := by decide +kernel
theorem dX9_size_31 : decode cX9_size 31 = .ok (.bipush 12, 2) := by decide +kernel
theorem dX9_size_33 : decode cX9_size 33 = .ok (.if_icmp .ne 10, 3) := by decide +kernel
theorem dX9_size_36 : decode cX9_size 36 = .ok (.aload_n 0, 1) := by decide +kernel
theorem dX9_size_37 : decode cX9_size 37 = .ok (.invokevirtual 369, 3) := by decide +kernel
theorem dX9_size_40 : decode cX9_size 40 = .ok (.goto 38, 3) := by decide +kernel
theorem dX9_size_43 : decode cX9_size 43 = .ok (.iload_n 1, 1) := by decide +kernel
theorem dX9_size_44 : decode cX9_size 44 = .ok (.bipush 13, 2) := by decide +kernel
theorem dX9_size_46 : decode cX9_size 46 = .ok (.if_icmp .ne 13, 3) := by decide +kernel
theorem dX9_size_49 : decode cX9_size 49 = .ok (.aload_n 0, 1) := by decide +kernel
theorem dX9_size_50 : decode cX9_size 50 = .ok (.getfield 9, 3) := by decide +kernel
theorem dX9_size_53 : decode cX9_size 53 = .ok (.bipush 12, 2) := by decide +kernel
theorem dX9_size_55 : decode cX9_size 55 = .ok (.iaload, 1) := by decide +kernel
theorem dX9_size_56 : decode cX9_size 56 = .ok (.goto 22, 3) := by decide +kernel
theorem dX9_size_59 : decode cX9_size 59 = .ok (.iload_n 1, 1) := by decide +kernel
theorem dX9_size_60 : decode cX9_size 60 = .ok (.bipush 14, 2) := by decide +kernel
theorem dX9_size_62 : decode cX9_size 62 = .ok (.if_icmp .ne 10, 3) := by decide +kernel
theorem dX9_size_65 : decode cX9_size 65 = .ok (.aload_n 0, 1) := by decide +kernel
theorem dX9_size_66 : decode cX9_size 66 = .ok (.getfield 298, 3) := by decide +kernel
theorem dX9_size_69 : decode cX9_size 69 = .ok (.goto 9, 3) := by decide +kernel
theorem dX9_size_72 : decode cX9_size 72 = .ok (.aload_n 0, 1) := by decide +kernel
theorem dX9_size_73 : decode cX9_size 73 = .ok (.getfield 9, 3) := by decide +kernel
theorem dX9_size_76 : decode cX9_size 76 = .ok (.iload_n 1, 1) := by decide +kernel
theorem dX9_size_77 : decode cX9_size 77 = .ok (.iaload, 1) := by decide +kernel
theorem dX9_size_78 : decode cX9_size 78 = .ok (.ireturn, 1) := by decide +kernel
theorem dX9_noFlow_0 : decode cX9_noFlow 0 = .ok (.aload_n 0, 1) := by decide +kernel
theorem dX9_noFlow_1 : decode cX9_noFlow 1 = .ok (.aload_n 0, 1) := by decide +kernel
theorem dX9_noFlow_2 : decode cX9_noFlow 2 = .ok (.iload_n 1, 1) := by decide +kernel
theorem dX9_noFlow_3 : decode cX9_noFlow 3 = .ok (.invokevirtual 372, 3) := by decide +kernel
theorem dX9_noFlow_6 : decode cX9_noFlow 6 = .ok (.ifCond .ne 7, 3) := by decide +kernel
theorem dX9_noFlow_9 : decode cX9_noFlow 9 = .ok (.iconst 1, 1) := by decide +kernel
theorem dX9_noFlow_10 : decode cX9_noFlow 10 = .ok (.goto 4, 3) := by decide +kernel
theorem dX9_noFlow_13 : decode cX9_noFlow 13 = .ok (.iconst 0, 1) := by decide +kernel
theorem dX9_noFlow_14 : decode cX9_noFlow 14 = .ok (.iconst 1, 1) := by decide +kernel
theorem dX9_noFlow_15 : decode cX9_noFlow 15 = .ok (.invokevirtual 366, 3) := by decide +kernel
theorem dX9_noFlow_18 : decode cX9_noFlow 18 = .ok (.ireturn, 1) := by decide +kernel
theorem dX9_noFlows_0 : decode cX9_noFlows 0 = .ok (.aload_n 0, 1) := by decide +kernel
theorem dX9_noFlows_1 : decode cX9_noFlows 1 = .ok (.iload_n 1, 1) := by decide +kernel
theorem dX9_noFlows_2 : decode cX9_noFlows 2 = .ok (.iconst (-1), 1) := by decide +kernel
theorem dX9_noFlows_3 : decode cX9_noFlows 3 = .ok (.if_icmp .eq 15, 3) := by decide +kernel
theorem dX9_noFlows_6 : decode cX9_noFlows 6 = .ok (.aload_n 0, 1) := by decide +kernel
theorem dX9_noFlows_7 : decode cX9_noFlows 7 = .ok (.iload_n 1, 1) := by decide +kernel
theorem dX9_noFlows_8 : decode cX9_noFlows 8 = .ok (.invokevirtual 372, 3) := by decide +kernel
theorem dX9_noFlows_11 : decode cX9_noFlows 11 = .ok (.ifCond .ne 7, 3) := by decide +kernel
theorem dX9_noFlows_14 : decode cX9_noFlows 14 = .ok (.iconst 1, 1) := by decide +kernel
theorem dX9_noFlows_15 : decode cX9_noFlows 15 = .ok (.goto 4, 3) := by decide +kernel
theorem dX9_noFlows_18 : decode cX9_noFlows 18 = .ok (.iconst 0, 1) := by decide +kernel
theorem dX9_noFlows_19 : decode cX9_noFlows 19 = .ok (.iconst 1, 1) := by decide +kernel
theorem dX9_noFlows_20 : decode cX9_noFlows 20 = .ok (.invokevirtual 366, 3) := by decide +kernel
theorem dX9_noFlows_23 : decode cX9_noFlows 23 = .ok (.ireturn, 1) := by decide +kernel
theorem dX9_untilSending_0 : decode cX9_untilSending 0 = .ok (.aload_n 0, 1) := by decide +kernel
theorem dX9_untilSending_1 : decode cX9_untilSending 1 = .ok (.getfield 9, 3) := by decide +kernel
theorem dX9_untilSending_4 : decode cX9_untilSending 4 = .ok (.bipush 7, 2) := by decide +kernel
theorem dX9_untilSending_6 : decode cX9_untilSending 6 = .ok (.iaload, 1) := by decide +kernel
theorem dX9_untilSending_7 : decode cX9_untilSending 7 = .ok (.aload_n 0, 1) := by decide +kernel
theorem dX9_untilSending_8 : decode cX9_untilSending 8 = .ok (.iload_n 1, 1) := by decide +kernel
theorem dX9_untilSending_9 : decode cX9_untilSending 9 = .ok (.iconst 0, 1) := by decide +kernel
theorem dX9_untilSending_10 : decode cX9_untilSending 10 = .ok (.invokevirtual 67, 3) := by decide +kernel
theorem dX9_untilSending_13 : decode cX9_untilSending 13 = .ok (.isub, 1) := by decide +kernel
theorem dX9_untilSending_14 : decode cX9_untilSending 14 = .ok (.istore_n 2, 1) := by decide +kernel
theorem dX9_untilSending_15 : decode cX9_untilSending 15 = .ok (.iload_n 2, 1) := by decide +kernel
theorem dX9_untilSending_16 : decode cX9_untilSending 16 = .ok (.ifCond .ge 8, 3) := by decide +kernel
theorem dX9_untilSending_19 : decode cX9_untilSending 19 = .ok (.iload_n 2, 1) := by decide +kernel
theorem dX9_untilSending_20 : decode cX9_untilSending 20 = .ok (.ineg, 1) := by decide +kernel
theorem dX9_untilSending_21 : decode cX9_untilSending 21 = .ok (.goto 18, 3) := by decide +kernel
theorem dX9_untilSending_24 : decode cX9_untilSending 24 = .ok (.aload_n 0, 1) := by decide +kernel
theorem dX9_untilSending_25 : decode cX9_untilSending 25 = .ok (.iload_n 1, 1) := by decide +kernel
theorem dX9_untilSending_26 : decode cX9_untilSending 26 = .ok (.iconst 1, 1) := by decide +kernel
theorem dX9_untilSending_27 : decode cX9_untilSending 27 = .ok (.invokevirtual 67, 3) := by decide +kernel
theorem dX9_untilSending_30 : decode cX9_untilSending 30 = .ok (.iload_n 2, 1) := by decide +kernel
theorem dX9_untilSending_31 : decode cX9_untilSending 31 = .ok (.aload_n 0, 1) := by decide +kernel
theorem dX9_untilSending_32 : decode cX9_untilSending 32 = .ok (.iload_n 1, 1) := by decide +kernel
theorem dX9_untilSending_33 : decode cX9_untilSending 33 = .ok (.iconst 1, 1) := by decide +kernel
theorem dX9_untilSending_34 : decode cX9_untilSending 34 = .ok (.invokevirtual 67, 3) := by decide +kernel
theorem dX9_untilSending_37 : decode cX9_untilSending 37 = .ok (.irem, 1) := by decide +kernel
theorem dX9_untilSending_38 : decode cX9_untilSending 38 = .ok (.isub, 1) := by decide +kernel
theorem dX9_untilSending_39 : decode cX9_untilSending 39 = .ok (.ireturn, 1) := by decide +kernel
theorem dX9_flow_0 : decode cX9_flow 0 = .ok (.aload_n 0, 1) := by decide +kernel
theorem dX9_flow_1 : decode cX9_flow 1 = .ok (.iconst 0, 1) := by decide +kernel
theorem dX9_flow_2 : decode cX9_flow 2 = .ok (.putfield 60, 3) := by decide +kernel
theorem dX9_flow_5 : decode cX9_flow 5 = .ok (.aload_n 0, 1) := by decide +kernel
theorem dX9_flow_6 : decode cX9_flow 6 = .ok (.iload_n 1, 1) := by decide +kernel
theorem dX9_flow_7 : decode cX9_flow 7 = .ok (.invokevirtual 375, 3) := by decide +kernel
theorem dX9_flow_10 : decode cX9_flow 10 = .ok (.ifCond .ne 26, 3) := by decide +kernel
theorem dX9_flow_13 : decode cX9_flow 13 = .ok (.aload_n 0, 1) := by decide +kernel
theorem dX9_flow_14 : decode cX9_flow 14 = .ok (.iload_n 2, 1) := by decide +kernel
theorem dX9_flow_15 : decode cX9_flow 15 = .ok (.iconst 0, 1) := by decide +kernel
theorem dX9_flow_16 : decode cX9_flow 16 = .ok (.bipush 10, 2) := by decide +kernel
theorem dX9_flow_18 : decode cX9_flow 18 = .ok (.invokestatic 63, 3) := by decide +kernel
theorem dX9_flow_21 : decode cX9_flow 21 = .ok (.ifCond .ne 7, 3) := by decide +kernel
theorem dX9_flow_24 : decode cX9_flow 24 = .ok (.iconst 1, 1) := by decide +kernel
theorem dX9_flow_25 : decode cX9_flow 25 = .ok (.goto 4, 3) := by decide +kernel
theorem dX9_flow_28 : decode cX9_flow 28 = .ok (.iconst 0, 1) := by decide +kernel
theorem dX9_flow_29 : decode cX9_flow 29 = .ok (.iconst 2, 1) := by decide +kernel
theorem dX9_flow_30 : decode cX9_flow 30 = .ok (.invokevirtual 366, 3) := by decide +kernel
theorem dX9_flow_33 : decode cX9_flow 33 = .ok (.ifCond .eq 5, 3) := by decide +kernel
theorem dX9_flow_36 : decode cX9_flow 36 = .ok (.iconst 0, 1) := by decide +kernel
theorem dX9_flow_37 : decode cX9_flow 37 = .ok (.ireturn, 1) := by decide +kernel
theorem dX9_flow_38 : decode cX9_flow 38 = .ok (.iload_n 2, 1) := by decide +kernel
theorem dX9_flow_39 : decode cX9_flow 39 = .ok (.bipush 8, 2) := by decide +kernel
theorem dX9_flow_41 : decode cX9_flow 41 = .ok (.if_icmp .ne 11, 3) := by decide +kernel
theorem dX9_flow_44 : decode cX9_flow 44 = .ok (.aload_n 0, 1) := by decide +kernel
theorem dX9_flow_45 : decode cX9_flow 45 = .ok (.iload_n 1, 1) := by decide +kernel
theorem dX9_flow_46 : decode cX9_flow 46 = .ok (.invokevirtual 378, 3) := by decide +kernel
theorem dX9_flow_49 : decode cX9_flow 49 = .ok (.goto 39, 3) := by decide +kernel
theorem dX9_flow_52 : decode cX9_flow 52 = .ok (.iload_n 2, 1) := by decide +kernel
theorem dX9_flow_53 : decode cX9_flow 53 = .ok (.bipush 9, 2) := by decide +kernel
theorem dX9_flow_55 : decode cX9_flow 55 = .ok (.if_icmp .ne 11, 3) := by decide +kernel
theorem dX9_flow_58 : decode cX9_flow 58 = .ok (.aload_n 0, 1) := by decide +kernel
theorem dX9_flow_59 : decode cX9_flow 59 = .ok (.iload_n 1, 1) := by decide +kernel
theorem dX9_flow_60 : decode cX9_flow 60 = .ok (.invokevirtual 381, 3) := by decide +kernel
theorem dX9_flow_63 : decode cX9_flow 63 = .ok (.goto 25, 3) := by decide +kernel
theorem dX9_flow_66 : decode cX9_flow 66 = .ok (.iload_n 2, 1) := by decide +kernel
theorem dX9_flow_67 : decode cX9_flow 67 = .ok (.bipush 10, 2) := by decide +kernel
theorem dX9_flow_69 : decode cX9_flow 69 = .ok (.if_icmp .ne 13, 3) := by decide +kernel
theorem dX9_flow_72 : decode cX9_flow 72 = .ok (.aload_n 0, 1) := by decide +kernel
theorem dX9_flow_73 : decode cX9_flow 73 = .ok (.iload_n 1, 1) := by decide +kernel
theorem dX9_flow_74 : decode cX9_flow 74 = .ok (.bipush 8, 2) := by decide +kernel
theorem dX9_flow_76 : decode cX9_flow 76 = .ok (.invokevirtual 67, 3) := by decide +kernel
theorem dX9_flow_79 : decode cX9_flow 79 = .ok (.goto 9, 3) := by decide +kernel
theorem dX9_flow_82 : decode cX9_flow 82 = .ok (.aload_n 0, 1) := by decide +kernel
theorem dX9_flow_83 : decode cX9_flow 83 = .ok (.iload_n 1, 1) := by decide +kernel
theorem dX9_flow_84 : decode cX9_flow 84 = .ok (.iload_n 2, 1) := by decide +kernel
theorem dX9_flow_85 : decode cX9_flow 85 = .ok (.invokevirtual 67, 3) := by decide +kernel
theorem dX9_flow_88 : decode cX9_flow 88 = .ok (.ireturn, 1) := by decide +kernel
theorem dX9_letter_0 : decode cX9_letter 0 = .ok (.aload_n 0, 1) := by decide +kernel
theorem dX9_letter_1 : decode cX9_letter 1 = .ok (.iconst 0, 1) := by decide +kernel
theorem dX9_letter_2 : decode cX9_letter 2 = .ok (.putfield 60, 3) := by decide +kernel
theorem dX9_letter_5 : decode cX9_letter 5 = .ok (.aload_n 0, 1) := by decide +kernel
theorem dX9_letter_6 : decode cX9_letter 6 = .ok (.iload_n 1, 1) := by decide +kernel
theorem dX9_letter_7 : decode cX9_letter 7 = .ok (.invokevirtual 375, 3) := by decide +kernel
theorem dX9_letter_10 : decode cX9_letter 10 = .ok (.ifCond .eq 5, 3) := by decide +kernel
theorem dX9_letter_13 : decode cX9_letter 13 = .ok (.iconst 0, 1) := by decide +kernel
theorem dX9_letter_14 : decode cX9_letter 14 = .ok (.ireturn, 1) := by decide +kernel
theorem dX9_letter_15 : decode cX9_letter 15 = .ok (.iload_n 2, 1) := by decide +kernel
theorem dX9_letter_16 : decode cX9_letter 16 = .ok (.iconst 0, 1) := by decide +kernel
theorem dX9_letter_17 : decode cX9_letter 17 = .ok (.aload_n 0, 1) := by decide +kernel
theorem dX9_letter_18 : decode cX9_letter 18 = .ok (.iload_n 1, 1) := by decide +kernel
theorem dX9_letter_19 : decode cX9_letter 19 = .ok (.bipush 9, 2) := by decide +kernel
theorem dX9_letter_21 : decode cX9_letter 21 = .ok (.invokevirtual 67, 3) := by decide +kernel
theorem dX9_letter_24 : decode cX9_letter 24 = .ok (.iconst 1, 1) := by decide +kernel
theorem dX9_letter_25 : decode cX9_letter 25 = .ok (.isub, 1) := by decide +kernel
theorem dX9_letter_26 : decode cX9_letter 26 = .ok (.invokestatic 63, 3) := by decide +kernel
theorem dX9_letter_29 : decode cX9_letter 29 = .ok (.ifCond .eq 15, 3) := by decide +kernel
theorem dX9_letter_32 : decode cX9_letter 32 = .ok (.aload_n 0, 1) := by decide +kernel
theorem dX9_letter_33 : decode cX9_letter 33 = .ok (.iload_n 1, 1) := by decide +kernel
theorem dX9_letter_34 : decode cX9_letter 34 = .ok (.bipush 10, 2) := by decide +kernel
theorem dX9_letter_36 : decode cX9_letter 36 = .ok (.iload_n 2, 1) := by decide +kernel
theorem dX9_letter_37 : decode cX9_letter 37 = .ok (.iadd, 1) := by decide +kernel
theorem dX9_letter_38 : decode cX9_letter 38 = .ok (.invokevirtual 67, 3) := by decide +kernel
theorem dX9_letter_41 : decode cX9_letter 41 = .ok (.goto 4, 3) := by decide +kernel
theorem dX9_letter_44 : decode cX9_letter 44 = .ok (.iconst (-1), 1) := by decide +kernel
theorem dX9_letter_45 : decode cX9_letter 45 = .ok (.ireturn, 1) := by decide +kernel
theorem dX9_account_0 : decode cX9_account 0 = .ok (.aload_n 0, 1) := by decide +kernel
theorem dX9_account_1 : decode cX9_account 1 = .ok (.iconst 0, 1) := by decide +kernel
theorem dX9_account_2 : decode cX9_account 2 = .ok (.putfield 60, 3) := by decide +kernel
theorem dX9_account_5 : decode cX9_account 5 = .ok (.aload_n 0, 1) := by decide +kernel
theorem dX9_account_6 : decode cX9_account 6 = .ok (.iload_n 1, 1) := by decide +kernel
theorem dX9_account_7 : decode cX9_account 7 = .ok (.invokevirtual 384, 3) := by decide +kernel
theorem dX9_account_10 : decode cX9_account 10 = .ok (.ifCond .ne 11, 3) := by decide +kernel
theorem dX9_account_13 : decode cX9_account 13 = .ok (.aload_n 0, 1) := by decide +kernel
theorem dX9_account_14 : decode cX9_account 14 = .ok (.iload_n 2, 1) := by decide +kernel
theorem dX9_account_15 : decode cX9_account 15 = .ok (.invokevirtual 387, 3) := by decide +kernel
theorem dX9_account_18 : decode cX9_account 18 = .ok (.ifCond .eq 7, 3) := by decide +kernel
theorem dX9_account_21 : decode cX9_account 21 = .ok (.lconst 0, 1) := by decide +kernel
theorem dX9_account_22 : decode cX9_account 22 = .ok (.goto 10, 3) := by decide +kernel
theorem dX9_account_25 : decode cX9_account 25 = .ok (.aload_n 0, 1) := by decide +kernel
theorem dX9_account_26 : decode cX9_account 26 = .ok (.iload_n 1, 1) := by decide +kernel
theorem dX9_account_27 : decode cX9_account 27 = .ok (.iload_n 2, 1) := by decide +kernel
theorem dX9_account_28 : decode cX9_account 28 = .ok (.invokevirtual 75, 3) := by decide +kernel
theorem dX9_account_31 : decode cX9_account 31 = .ok (.i2l, 1) := by decide +kernel
theorem dX9_account_32 : decode cX9_account 32 = .ok (.lreturn, 1) := by decide +kernel
theorem dX9_lossShare_0 : decode cX9_lossShare 0 = .ok (.aload_n 0, 1) := by decide +kernel
theorem dX9_lossShare_1 : decode cX9_lossShare 1 = .ok (.iconst 0, 1) := by decide +kernel
theorem dX9_lossShare_2 : decode cX9_lossShare 2 = .ok (.putfield 60, 3) := by decide +kernel
theorem dX9_lossShare_5 : decode cX9_lossShare 5 = .ok (.aload_n 0, 1) := by decide +kernel
theorem dX9_lossShare_6 : decode cX9_lossShare 6 = .ok (.iconst (-1), 1) := by decide +kernel
theorem dX9_lossShare_7 : decode cX9_lossShare 7 = .ok (.iconst 0, 1) := by decide +kernel
theorem dX9_lossShare_8 : decode cX9_lossShare 8 = .ok (.invokevirtual 75, 3) := by decide +kernel
theorem dX9_lossShare_11 : decode cX9_lossShare 11 = .ok (.istore_n 1, 1) := by decide +kernel
theorem dX9_lossShare_12 : decode cX9_lossShare 12 = .ok (.iload_n 1, 1) := by decide +kernel
theorem dX9_lossShare_13 : decode cX9_lossShare 13 = .ok (.ifCond .ne 7, 3) := by decide +kernel
theorem dX9_lossShare_16 : decode cX9_lossShare 16 = .ok (.fconst 0, 1) := by decide +kernel
theorem dX9_lossShare_17 : decode cX9_lossShare 17 = .ok (.goto 11, 3) := by decide +kernel
theorem dX9_lossShare_20 : decode cX9_lossShare 20 = .ok (.aload_n 0, 1) := by decide +kernel
theorem dX9_lossShare_21 : decode cX9_lossShare 21 = .ok (.invokevirtual 395, 3) := by decide +kernel
theorem dX9_lossShare_24 : decode cX9_lossShare 24 = .ok (.i2f, 1) := by decide +kernel
theorem dX9_lossShare_25 : decode cX9_lossShare 25 = .ok (.iload_n 1, 1) := by decide +kernel
theorem dX9_lossShare_26 : decode cX9_lossShare 26 = .ok (.i2f, 1) := by decide +kernel
theorem dX9_lossShare_27 : decode cX9_lossShare 27 = .ok (.fdiv, 1) := by decide +kernel
theorem dX9_lossShare_28 : decode cX9_lossShare 28 = .ok (.freturn, 1) := by decide +kernel
theorem dX9_fairness_0 : decode cX9_fairness 0 = .ok (.aload_n 0, 1) := by decide +kernel
theorem dX9_fairness_1 : decode cX9_fairness 1 = .ok (.iconst 0, 1) := by decide +kernel
theorem dX9_fairness_2 : decode cX9_fairness 2 = .ok (.putfield 60, 3) := by decide +kernel
theorem dX9_fairness_5 : decode cX9_fairness 5 = .ok (.aload_n 0, 1) := by decide +kernel
theorem dX9_fairness_6 : decode cX9_fairness 6 = .ok (.iconst (-1), 1) := by decide +kernel
theorem dX9_fairness_7 : decode cX9_fairness 7 = .ok (.iconst 5, 1) := by decide +kernel
theorem dX9_fairness_8 : decode cX9_fairness 8 = .ok (.invokevirtual 75, 3) := by decide +kernel
theorem dX9_fairness_11 : decode cX9_fairness 11 = .ok (.i2l, 1) := by decide +kernel
theorem dX9_fairness_12 : decode cX9_fairness 12 = .ok (.lstore_n 1, 1) := by decide +kernel
theorem dX9_fairness_13 : decode cX9_fairness 13 = .ok (.lload_n 1, 1) := by decide +kernel
theorem dX9_fairness_14 : decode cX9_fairness 14 = .ok (.lconst 0, 1) := by decide +kernel
theorem dX9_fairness_15 : decode cX9_fairness 15 = .ok (.lcmp, 1) := by decide +kernel
theorem dX9_fairness_16 : decode cX9_fairness 16 = .ok (.ifCond .ne 5, 3) := by decide +kernel
theorem dX9_fairness_19 : decode cX9_fairness 19 = .ok (.dconst 1, 1) := by decide +kernel
theorem dX9_fairness_20 : decode cX9_fairness 20 = .ok (.dreturn, 1) := by decide +kernel
theorem dX9_fairness_21 : decode cX9_fairness 21 = .ok (.lconst 0, 1) := by decide +kernel
theorem dX9_fairness_22 : decode cX9_fairness 22 = .ok (.lstore_n 3, 1) := by decide +kernel
theorem dX9_fairness_23 : decode cX9_fairness 23 = .ok (.iconst 0, 1) := by decide +kernel
theorem dX9_fairness_24 : decode cX9_fairness 24 = .ok (.istore 5, 2) := by decide +kernel
theorem dX9_fairness_26 : decode cX9_fairness 26 = .ok (.iload 5, 2) := by decide +kernel
theorem dX9_fairness_28 : decode cX9_fairness 28 = .ok (.aload_n 0, 1) := by decide +kernel
theorem dX9_fairness_29 : decode cX9_fairness 29 = .ok (.getfield 9, 3) := by decide +kernel
theorem dX9_fairness_32 : decode cX9_fairness 32 = .ok (.bipush 11, 2) := by decide +kernel
theorem dX9_fairness_34 : decode cX9_fairness 34 = .ok (.iaload, 1) := by decide +kernel
theorem dX9_fairness_35 : decode cX9_fairness 35 = .ok (.if_icmp .ge 29, 3) := by decide +kernel
theorem dX9_fairness_38 : decode cX9_fairness 38 = .ok (.lload_n 3, 1) := by decide +kernel
theorem dX9_fairness_39 : decode cX9_fairness 39 = .ok (.aload_n 0, 1) := by decide +kernel
theorem dX9_fairness_40 : decode cX9_fairness 40 = .ok (.iload 5, 2) := by decide +kernel
theorem dX9_fairness_42 : decode cX9_fairness 42 = .ok (.iconst 5, 1) := by decide +kernel
theorem dX9_fairness_43 : decode cX9_fairness 43 = .ok (.invokevirtual 75, 3) := by decide +kernel
theorem dX9_fairness_46 : decode cX9_fairness 46 = .ok (.i2l, 1) := by decide +kernel
theorem dX9_fairness_47 : decode cX9_fairness 47 = .ok (.aload_n 0, 1) := by decide +kernel
theorem dX9_fairness_48 : decode cX9_fairness 48 = .ok (.iload 5, 2) := by decide +kernel
theorem dX9_fairness_50 : decode cX9_fairness 50 = .ok (.iconst 5, 1) := by decide +kernel
theorem dX9_fairness_51 : decode cX9_fairness 51 = .ok (.invokevirtual 75, 3) := by decide +kernel
theorem dX9_fairness_54 : decode cX9_fairness 54 = .ok (.i2l, 1) := by decide +kernel
theorem dX9_fairness_55 : decode cX9_fairness 55 = .ok (.lmul, 1) := by decide +kernel
theorem dX9_fairness_56 : decode cX9_fairness 56 = .ok (.ladd, 1) := by decide +kernel
theorem dX9_fairness_57 : decode cX9_fairness 57 = .ok (.lstore_n 3, 1) := by decide +kernel
theorem dX9_fairness_58 : decode cX9_fairness 58 = .ok (.iinc 5 1, 3) := by decide +kernel
theorem dX9_fairness_61 : decode cX9_fairness 61 = .ok (.goto (-35), 3) := by decide +kernel
theorem dX9_fairness_64 : decode cX9_fairness 64 = .ok (.lload_n 1, 1) := by decide +kernel
theorem dX9_fairness_65 : decode cX9_fairness 65 = .ok (.lload_n 1, 1) := by decide +kernel
theorem dX9_fairness_66 : decode cX9_fairness 66 = .ok (.lmul, 1) := by decide +kernel
theorem dX9_fairness_67 : decode cX9_fairness 67 = .ok (.l2d, 1) := by decide +kernel
theorem dX9_fairness_68 : decode cX9_fairness 68 = .ok (.aload_n 0, 1) := by decide +kernel
theorem dX9_fairness_69 : decode cX9_fairness 69 = .ok (.getfield 9, 3) := by decide +kernel
theorem dX9_fairness_72 : decode cX9_fairness 72 = .ok (.bipush 11, 2) := by decide +kernel
theorem dX9_fairness_74 : decode cX9_fairness 74 = .ok (.iaload, 1) := by decide +kernel
theorem dX9_fairness_75 : decode cX9_fairness 75 = .ok (.i2l, 1) := by decide +kernel
theorem dX9_fairness_76 : decode cX9_fairness 76 = .ok (.lload_n 3, 1) := by decide +kernel
theorem dX9_fairness_77 : decode cX9_fairness 77 = .ok (.lmul, 1) := by decide +kernel
theorem dX9_fairness_78 : decode cX9_fairness 78 = .ok (.l2d, 1) := by decide +kernel
theorem dX9_fairness_79 : decode cX9_fairness 79 = .ok (.ddiv, 1) := by decide +kernel
theorem dX9_fairness_80 : decode cX9_fairness 80 = .ok (.dreturn, 1) := by decide +kernel
theorem dX9_meanWait_0 : decode cX9_meanWait 0 = .ok (.aload_n 0, 1) := by decide +kernel
theorem dX9_meanWait_1 : decode cX9_meanWait 1 = .ok (.iconst 0, 1) := by decide +kernel
theorem dX9_meanWait_2 : decode cX9_meanWait 2 = .ok (.putfield 60, 3) := by decide +kernel
theorem dX9_meanWait_5 : decode cX9_meanWait 5 = .ok (.aload_n 0, 1) := by decide +kernel
theorem dX9_meanWait_6 : decode cX9_meanWait 6 = .ok (.iload_n 1, 1) := by decide +kernel
theorem dX9_meanWait_7 : decode cX9_meanWait 7 = .ok (.invokevirtual 384, 3) := by decide +kernel
theorem dX9_meanWait_10 : decode cX9_meanWait 10 = .ok (.ifCond .ne 12, 3) := by decide +kernel
theorem dX9_meanWait_13 : decode cX9_meanWait 13 = .ok (.aload_n 0, 1) := by decide +kernel
theorem dX9_meanWait_14 : decode cX9_meanWait 14 = .ok (.iload_n 1, 1) := by decide +kernel
theorem dX9_meanWait_15 : decode cX9_meanWait 15 = .ok (.iconst 5, 1) := by decide +kernel
theorem dX9_meanWait_16 : decode cX9_meanWait 16 = .ok (.invokevirtual 75, 3) := by decide +kernel
theorem dX9_meanWait_19 : decode cX9_meanWait 19 = .ok (.ifCond .ne 5, 3) := by decide +kernel
theorem dX9_meanWait_22 : decode cX9_meanWait 22 = .ok (.dconst 0, 1) := by decide +kernel
theorem dX9_meanWait_23 : decode cX9_meanWait 23 = .ok (.dreturn, 1) := by decide +kernel
theorem dX9_meanWait_24 : decode cX9_meanWait 24 = .ok (.aload_n 0, 1) := by decide +kernel
theorem dX9_meanWait_25 : decode cX9_meanWait 25 = .ok (.iload_n 1, 1) := by decide +kernel
theorem dX9_meanWait_26 : decode cX9_meanWait 26 = .ok (.bipush 7, 2) := by decide +kernel
theorem dX9_meanWait_28 : decode cX9_meanWait 28 = .ok (.invokevirtual 75, 3) := by decide +kernel
theorem dX9_meanWait_31 : decode cX9_meanWait 31 = .ok (.i2d, 1) := by decide +kernel
theorem dX9_meanWait_32 : decode cX9_meanWait 32 = .ok (.aload_n 0, 1) := by decide +kernel
theorem dX9_meanWait_33 : decode cX9_meanWait 33 = .ok (.iload_n 1, 1) := by decide +kernel
theorem dX9_meanWait_34 : decode cX9_meanWait 34 = .ok (.iconst 5, 1) := by decide +kernel
theorem dX9_meanWait_35 : decode cX9_meanWait 35 = .ok (.invokevirtual 75, 3) := by decide +kernel
theorem dX9_meanWait_38 : decode cX9_meanWait 38 = .ok (.i2d, 1) := by decide +kernel
theorem dX9_meanWait_39 : decode cX9_meanWait 39 = .ok (.ddiv, 1) := by decide +kernel
theorem dX9_meanWait_40 : decode cX9_meanWait 40 = .ok (.dreturn, 1) := by decide +kernel
theorem dX9_base_0 : decode cX9_base 0 = .ok (.aload_n 0, 1) := by decide +kernel
theorem dX9_base_1 : decode cX9_base 1 = .ok (.iconst 0, 1) := by decide +kernel
theorem dX9_base_2 : decode cX9_base 2 = .ok (.putfield 60, 3) := by decide +kernel
theorem dX9_base_5 : decode cX9_base 5 = .ok (.aload_n 0, 1) := by decide +kernel
theorem dX9_base_6 : decode cX9_base 6 = .ok (.iload_n 1, 1) := by decide +kernel
theorem dX9_base_7 : decode cX9_base 7 = .ok (.iconst 0, 1) := by decide +kernel
theorem dX9_base_8 : decode cX9_base 8 = .ok (.ldc_w 398, 3) := by decide +kernel
theorem dX9_base_11 : decode cX9_base 11 = .ok (.invokestatic 63, 3) := by decide +kernel
theorem dX9_base_14 : decode cX9_base 14 = .ok (.ifCond .ne 7, 3) := by decide +kernel
theorem dX9_base_17 : decode cX9_base 17 = .ok (.iconst 1, 1) := by decide +kernel
theorem dX9_base_18 : decode cX9_base 18 = .ok (.goto 4, 3) := by decide +kernel
theorem dX9_base_21 : decode cX9_base 21 = .ok (.iconst 0, 1) := by decide +kernel
theorem dX9_base_22 : decode cX9_base 22 = .ok (.iconst 1, 1) := by decide +kernel
theorem dX9_base_23 : decode cX9_base 23 = .ok (.invokevirtual 366, 3) := by decide +kernel
theorem dX9_base_26 : decode cX9_base 26 = .ok (.ifCond .eq 7, 3) := by decide +kernel
theorem dX9_base_29 : decode cX9_base 29 = .ok (.iconst 0, 1) := by decide +kernel
theorem dX9_base_30 : decode cX9_base 30 = .ok (.goto 9, 3) := by decide +kernel
theorem dX9_base_33 : decode cX9_base 33 = .ok (.aload_n 0, 1) := by decide +kernel
theorem dX9_base_34 : decode cX9_base 34 = .ok (.iload_n 1, 1) := by decide +kernel
theorem dX9_base_35 : decode cX9_base 35 = .ok (.invokevirtual 128, 3) := by decide +kernel
theorem dX9_base_38 : decode cX9_base 38 = .ok (.l2i, 1) := by decide +kernel
theorem dX9_base_39 : decode cX9_base 39 = .ok (.ireturn, 1) := by decide +kernel
theorem dX9_turnNow_0 : decode cX9_turnNow 0 = .ok (.aload_n 0, 1) := by decide +kernel
theorem dX9_turnNow_1 : decode cX9_turnNow 1 = .ok (.iload_n 1, 1) := by decide +kernel
theorem dX9_turnNow_2 : decode cX9_turnNow 2 = .ok (.iconst 5, 1) := by decide +kernel
theorem dX9_turnNow_3 : decode cX9_turnNow 3 = .ok (.invokevirtual 67, 3) := by decide +kernel
theorem dX9_turnNow_6 : decode cX9_turnNow 6 = .ok (.iload_n 2, 1) := by decide +kernel
theorem dX9_turnNow_7 : decode cX9_turnNow 7 = .ok (.if_icmp .ne 6, 3) := by decide +kernel
theorem dX9_turnNow_10 : decode cX9_turnNow 10 = .ok (.bipush (-3), 2) := by decide +kernel
theorem dX9_turnNow_12 : decode cX9_turnNow 12 = .ok (.ireturn, 1) := by decide +kernel
theorem dX9_turnNow_13 : decode cX9_turnNow 13 = .ok (.aload_n 0, 1) := by decide +kernel
theorem dX9_turnNow_14 : decode cX9_turnNow 14 = .ok (.iload_n 1, 1) := by decide +kernel
theorem dX9_turnNow_15 : decode cX9_turnNow 15 = .ok (.iconst 5, 1) := by decide +kernel
theorem dX9_turnNow_16 : decode cX9_turnNow 16 = .ok (.iload_n 2, 1) := by decide +kernel
theorem dX9_turnNow_17 : decode cX9_turnNow 17 = .ok (.invokevirtual 71, 3) := by decide +kernel
theorem dX9_turnNow_20 : decode cX9_turnNow 20 = .ok (.aload_n 0, 1) := by decide +kernel
theorem dX9_turnNow_21 : decode cX9_turnNow 21 = .ok (.invokevirtual 369, 3) := by decide +kernel
theorem dX9_turnNow_24 : decode cX9_turnNow 24 = .ok (.ireturn, 1) := by decide +kernel
theorem dX9_recorded_0 : decode cX9_recorded 0 = .ok (.iload_n 1, 1) := by decide +kernel
theorem dX9_recorded_1 : decode cX9_recorded 1 = .ok (.ifCond .lt 11, 3) := by decide +kernel
theorem dX9_recorded_4 : decode cX9_recorded 4 = .ok (.aload_n 0, 1) := by decide +kernel
theorem dX9_recorded_5 : decode cX9_recorded 5 = .ok (.aload_n 0, 1) := by decide +kernel
theorem dX9_recorded_6 : decode cX9_recorded 6 = .ok (.getfield 16, 3) := by decide +kernel
theorem dX9_recorded_9 : decode cX9_recorded 9 = .ok (.invokevirtual 359, 3) := by decide +kernel
theorem dX9_recorded_12 : decode cX9_recorded 12 = .ok (.iload_n 1, 1) := by decide +kernel
theorem dX9_recorded_13 : decode cX9_recorded 13 = .ok (.ireturn, 1) := by decide +kernel
theorem dX9_writesNumber_0 : decode cX9_writesNumber 0 = .ok (.iconst 1, 1) := by decide +kernel
theorem dX9_writesNumber_1 : decode cX9_writesNumber 1 = .ok (.istore_n 2, 1) := by decide +kernel
theorem dX9_writesNumber_2 : decode cX9_writesNumber 2 = .ok (.iload_n 1, 1) := by decide +kernel
theorem dX9_writesNumber_3 : decode cX9_writesNumber 3 = .ok (.iload_n 2, 1) := by decide +kernel
theorem dX9_writesNumber_4 : decode cX9_writesNumber 4 = .ok (.idiv, 1) := by decide +kernel
theorem dX9_writesNumber_5 : decode cX9_writesNumber 5 = .ok (.bipush 9, 2) := by decide +kernel
theorem dX9_writesNumber_7 : decode cX9_writesNumber 7 = .ok (.if_icmp .le 11, 3) := by decide +kernel
theorem dX9_writesNumber_10 : decode cX9_writesNumber 10 = .ok (.iload_n 2, 1) := by decide +kernel
theorem dX9_writesNumber_11 : decode cX9_writesNumber 11 = .ok (.bipush 10, 2) := by decide +kernel
theorem dX9_writesNumber_13 : decode cX9_writesNumber 13 = .ok (.imul, 1) := by decide +kernel
theorem dX9_writesNumber_14 : decode cX9_writesNumber 14 = .ok (.istore_n 2, 1) := by decide +kernel
theorem dX9_writesNumber_15 : decode cX9_writesNumber 15 = .ok (.goto (-13), 3) := by decide +kernel
theorem dX9_writesNumber_18 : decode cX9_writesNumber 18 = .ok (.iload_n 2, 1) := by decide +kernel
theorem dX9_writesNumber_19 : decode cX9_writesNumber 19 = .ok (.ifCond .le 24, 3) := by decide +kernel
theorem dX9_writesNumber_22 : decode cX9_writesNumber 22 = .ok (.aload_n 0, 1) := by decide +kernel
theorem dX9_writesNumber_23 : decode cX9_writesNumber 23 = .ok (.bipush 48, 2) := by decide +kernel
theorem dX9_writesNumber_25 : decode cX9_writesNumber 25 = .ok (.iload_n 1, 1) := by decide +kernel
theorem dX9_writesNumber_26 : decode cX9_writesNumber 26 = .ok (.iload_n 2, 1) := by decide +kernel
theorem dX9_writesNumber_27 : decode cX9_writesNumber 27 = .ok (.idiv, 1) := by decide +kernel
theorem dX9_writesNumber_28 : decode cX9_writesNumber 28 = .ok (.bipush 10, 2) := by decide +kernel
theorem dX9_writesNumber_30 : decode cX9_writesNumber 30 = .ok (.irem, 1) := by decide +kernel
theorem dX9_writesNumber_31 : decode cX9_writesNumber 31 = .ok (.iadd, 1) := by decide +kernel
theorem dX9_writesNumber_32 : decode cX9_writesNumber 32 = .ok (.invokevirtual 435, 3) := by decide +kernel
theorem dX9_writesNumber_35 : decode cX9_writesNumber 35 = .ok (.iload_n 2, 1) := by decide +kernel
theorem dX9_writesNumber_36 : decode cX9_writesNumber 36 = .ok (.bipush 10, 2) := by decide +kernel
theorem dX9_writesNumber_38 : decode cX9_writesNumber 38 = .ok (.idiv, 1) := by decide +kernel
theorem dX9_writesNumber_39 : decode cX9_writesNumber 39 = .ok (.istore_n 2, 1) := by decide +kernel
theorem dX9_writesNumber_40 : decode cX9_writesNumber 40 = .ok (.goto (-22), 3) := by decide +kernel
theorem dX9_writesNumber_43 : decode cX9_writesNumber 43 = .ok (.return_, 1) := by decide +kernel
theorem dX9_writesFlow_0 : decode cX9_writesFlow 0 = .ok (.iconst 0, 1) := by decide +kernel
theorem dX9_writesFlow_1 : decode cX9_writesFlow 1 = .ok (.istore_n 2, 1) := by decide +kernel
theorem dX9_writesFlow_2 : decode cX9_writesFlow 2 = .ok (.iload_n 2, 1) := by decide +kernel
theorem dX9_writesFlow_3 : decode cX9_writesFlow 3 = .ok (.aload_n 0, 1) := by decide +kernel
theorem dX9_writesFlow_4 : decode cX9_writesFlow 4 = .ok (.iload_n 1, 1) := by decide +kernel
theorem dX9_writesFlow_5 : decode cX9_writesFlow 5 = .ok (.bipush 9, 2) := by decide +kernel
theorem dX9_writesFlow_7 : decode cX9_writesFlow 7 = .ok (.invokevirtual 67, 3) := by decide +kernel
theorem dX9_writesFlow_10 : decode cX9_writesFlow 10 = .ok (.if_icmp .ge 22, 3) := by decide +kernel
theorem dX9_writesFlow_13 : decode cX9_writesFlow 13 = .ok (.aload_n 0, 1) := by decide +kernel
theorem dX9_writesFlow_14 : decode cX9_writesFlow 14 = .ok (.aload_n 0, 1) := by decide +kernel
theorem dX9_writesFlow_15 : decode cX9_writesFlow 15 = .ok (.iload_n 1, 1) := by decide +kernel
theorem dX9_writesFlow_16 : decode cX9_writesFlow 16 = .ok (.bipush 10, 2) := by decide +kernel
theorem dX9_writesFlow_18 : decode cX9_writesFlow 18 = .ok (.iload_n 2, 1) := by decide +kernel
theorem dX9_writesFlow_19 : decode cX9_writesFlow 19 = .ok (.iadd, 1) := by decide +kernel
theorem dX9_writesFlow_20 : decode cX9_writesFlow 20 = .ok (.invokevirtual 67, 3) := by decide +kernel
theorem dX9_writesFlow_23 : decode cX9_writesFlow 23 = .ok (.invokevirtual 435, 3) := by decide +kernel
theorem dX9_writesFlow_26 : decode cX9_writesFlow 26 = .ok (.iinc 2 1, 3) := by decide +kernel
theorem dX9_writesFlow_29 : decode cX9_writesFlow 29 = .ok (.goto (-27), 3) := by decide +kernel
theorem dX9_writesFlow_32 : decode cX9_writesFlow 32 = .ok (.aload_n 0, 1) := by decide +kernel
theorem dX9_writesFlow_33 : decode cX9_writesFlow 33 = .ok (.bipush 58, 2) := by decide +kernel
theorem dX9_writesFlow_35 : decode cX9_writesFlow 35 = .ok (.invokevirtual 435, 3) := by decide +kernel
theorem dX9_writesFlow_38 : decode cX9_writesFlow 38 = .ok (.aload_n 0, 1) := by decide +kernel
theorem dX9_writesFlow_39 : decode cX9_writesFlow 39 = .ok (.aload_n 0, 1) := by decide +kernel
theorem dX9_writesFlow_40 : decode cX9_writesFlow 40 = .ok (.iload_n 1, 1) := by decide +kernel
theorem dX9_writesFlow_41 : decode cX9_writesFlow 41 = .ok (.iconst 0, 1) := by decide +kernel
theorem dX9_writesFlow_42 : decode cX9_writesFlow 42 = .ok (.invokevirtual 75, 3) := by decide +kernel
theorem dX9_writesFlow_45 : decode cX9_writesFlow 45 = .ok (.invokevirtual 438, 3) := by decide +kernel
theorem dX9_writesFlow_48 : decode cX9_writesFlow 48 = .ok (.aload_n 0, 1) := by decide +kernel
theorem dX9_writesFlow_49 : decode cX9_writesFlow 49 = .ok (.bipush 47, 2) := by decide +kernel
theorem dX9_writesFlow_51 : decode cX9_writesFlow 51 = .ok (.invokevirtual 435, 3) := by decide +kernel
theorem dX9_writesFlow_54 : decode cX9_writesFlow 54 = .ok (.aload_n 0, 1) := by decide +kernel
theorem dX9_writesFlow_55 : decode cX9_writesFlow 55 = .ok (.aload_n 0, 1) := by decide +kernel
theorem dX9_writesFlow_56 : decode cX9_writesFlow 56 = .ok (.iload_n 1, 1) := by decide +kernel
theorem dX9_writesFlow_57 : decode cX9_writesFlow 57 = .ok (.iconst 5, 1) := by decide +kernel
theorem dX9_writesFlow_58 : decode cX9_writesFlow 58 = .ok (.invokevirtual 75, 3) := by decide +kernel
theorem dX9_writesFlow_61 : decode cX9_writesFlow 61 = .ok (.invokevirtual 438, 3) := by decide +kernel
theorem dX9_writesFlow_64 : decode cX9_writesFlow 64 = .ok (.aload_n 0, 1) := by decide +kernel
theorem dX9_writesFlow_65 : decode cX9_writesFlow 65 = .ok (.iload_n 1, 1) := by decide +kernel
theorem dX9_writesFlow_66 : decode cX9_writesFlow 66 = .ok (.bipush 7, 2) := by decide +kernel
theorem dX9_writesFlow_68 : decode cX9_writesFlow 68 = .ok (.invokevirtual 67, 3) := by decide +kernel
theorem dX9_writesFlow_71 : decode cX9_writesFlow 71 = .ok (.iconst 1, 1) := by decide +kernel
theorem dX9_writesFlow_72 : decode cX9_writesFlow 72 = .ok (.if_icmp .ne 9, 3) := by decide +kernel
theorem dX9_writesFlow_75 : decode cX9_writesFlow 75 = .ok (.aload_n 0, 1) := by decide +kernel
theorem dX9_writesFlow_76 : decode cX9_writesFlow 76 = .ok (.bipush 33, 2) := by decide +kernel
theorem dX9_writesFlow_78 : decode cX9_writesFlow 78 = .ok (.invokevirtual 435, 3) := by decide +kernel
theorem dX9_writesFlow_81 : decode cX9_writesFlow 81 = .ok (.aload_n 0, 1) := by decide +kernel
theorem dX9_writesFlow_82 : decode cX9_writesFlow 82 = .ok (.bipush 32, 2) := by decide +kernel
theorem dX9_writesFlow_84 : decode cX9_writesFlow 84 = .ok (.invokevirtual 435, 3) := by decide +kernel
theorem dX9_writesFlow_87 : decode cX9_writesFlow 87 = .ok (.return_, 1) := by decide +kernel
theorem dX9_save_0 : decode cX9_save 0 = .ok (.aload_n 0, 1) := by decide +kernel
theorem dX9_save_1 : decode cX9_save 1 = .ok (.iconst 0, 1) := by decide +kernel
theorem dX9_save_2 : decode cX9_save 2 = .ok (.putfield 60, 3) := by decide +kernel
theorem dX9_save_5 : decode cX9_save 5 = .ok (.aload_n 0, 1) := by decide +kernel
theorem dX9_save_6 : decode cX9_save 6 = .ok (.iload_n 1, 1) := by decide +kernel
theorem dX9_save_7 : decode cX9_save 7 = .ok (.invokevirtual 444, 3) := by decide +kernel
theorem dX9_save_10 : decode cX9_save 10 = .ok (.ifCond .eq 5, 3) := by decide +kernel
theorem dX9_save_13 : decode cX9_save 13 = .ok (.iconst 0, 1) := by decide +kernel
theorem dX9_save_14 : decode cX9_save 14 = .ok (.ireturn, 1) := by decide +kernel
theorem dX9_save_15 : decode cX9_save 15 = .ok (.aload_n 0, 1) := by decide +kernel
theorem dX9_save_16 : decode cX9_save 16 = .ok (.getfield 9, 3) := by decide +kernel
theorem dX9_save_19 : decode cX9_save 19 = .ok (.iconst 0, 1) := by decide +kernel
theorem dX9_save_20 : decode cX9_save 20 = .ok (.aload_n 0, 1) := by decide +kernel
theorem dX9_save_21 : decode cX9_save 21 = .ok (.getfield 22, 3) := by decide +kernel
theorem dX9_save_24 : decode cX9_save 24 = .ok (.sipush 484, 3) := by decide +kernel
theorem dX9_save_27 : decode cX9_save 27 = .ok (.iload_n 1, 1) := by decide +kernel
theorem dX9_save_28 : decode cX9_save 28 = .ok (.imul, 1) := by decide +kernel
theorem dX9_save_29 : decode cX9_save 29 = .ok (.invokestatic 175, 3) := by decide +kernel
theorem dX9_save_32 : decode cX9_save 32 = .ok (.aload_n 0, 1) := by decide +kernel
theorem dX9_save_33 : decode cX9_save 33 = .ok (.getfield 25, 3) := by decide +kernel
theorem dX9_save_36 : decode cX9_save 36 = .ok (.iload_n 1, 1) := by decide +kernel
theorem dX9_save_37 : decode cX9_save 37 = .ok (.iconst 1, 1) := by decide +kernel
theorem dX9_save_38 : decode cX9_save 38 = .ok (.bastore, 1) := by decide +kernel
theorem dX9_save_39 : decode cX9_save 39 = .ok (.aload_n 0, 1) := by decide +kernel
theorem dX9_save_40 : decode cX9_save 40 = .ok (.getfield 9, 3) := by decide +kernel
theorem dX9_save_43 : decode cX9_save 43 = .ok (.bipush 7, 2) := by decide +kernel
theorem dX9_save_45 : decode cX9_save 45 = .ok (.iaload, 1) := by decide +kernel
theorem dX9_save_46 : decode cX9_save 46 = .ok (.ireturn, 1) := by decide +kernel
theorem dX9_restore_0 : decode cX9_restore 0 = .ok (.aload_n 0, 1) := by decide +kernel
theorem dX9_restore_1 : decode cX9_restore 1 = .ok (.iconst 0, 1) := by decide +kernel
theorem dX9_restore_2 : decode cX9_restore 2 = .ok (.putfield 60, 3) := by decide +kernel
theorem dX9_restore_5 : decode cX9_restore 5 = .ok (.aload_n 0, 1) := by decide +kernel
theorem dX9_restore_6 : decode cX9_restore 6 = .ok (.iload_n 1, 1) := by decide +kernel
theorem dX9_restore_7 : decode cX9_restore 7 = .ok (.invokevirtual 444, 3) := by decide +kernel
theorem dX9_restore_10 : decode cX9_restore 10 = .ok (.ifCond .eq 5, 3) := by decide +kernel
theorem dX9_restore_13 : decode cX9_restore 13 = .ok (.iconst 0, 1) := by decide +kernel
theorem dX9_restore_14 : decode cX9_restore 14 = .ok (.ireturn, 1) := by decide +kernel
theorem dX9_restore_15 : decode cX9_restore 15 = .ok (.aload_n 0, 1) := by decide +kernel
theorem dX9_restore_16 : decode cX9_restore 16 = .ok (.getfield 25, 3) := by decide +kernel
theorem dX9_restore_19 : decode cX9_restore 19 = .ok (.iload_n 1, 1) := by decide +kernel
theorem dX9_restore_20 : decode cX9_restore 20 = .ok (.baload, 1) := by decide +kernel
theorem dX9_restore_21 : decode cX9_restore 21 = .ok (.ifCond .ne 5, 3) := by decide +kernel
theorem dX9_restore_24 : decode cX9_restore 24 = .ok (.iconst (-1), 1) := by decide +kernel
theorem dX9_restore_25 : decode cX9_restore 25 = .ok (.ireturn, 1) := by decide +kernel
theorem dX9_restore_26 : decode cX9_restore 26 = .ok (.aload_n 0, 1) := by decide +kernel
theorem dX9_restore_27 : decode cX9_restore 27 = .ok (.getfield 22, 3) := by decide +kernel
theorem dX9_restore_30 : decode cX9_restore 30 = .ok (.sipush 484, 3) := by decide +kernel
theorem dX9_restore_33 : decode cX9_restore 33 = .ok (.iload_n 1, 1) := by decide +kernel
theorem dX9_restore_34 : decode cX9_restore 34 = .ok (.imul, 1) := by decide +kernel
theorem dX9_restore_35 : decode cX9_restore 35 = .ok (.aload_n 0, 1) := by decide +kernel
theorem dX9_restore_36 : decode cX9_restore 36 = .ok (.getfield 9, 3) := by decide +kernel
theorem dX9_restore_39 : decode cX9_restore 39 = .ok (.iconst 0, 1) := by decide +kernel
theorem dX9_restore_40 : decode cX9_restore 40 = .ok (.invokestatic 175, 3) := by decide +kernel
theorem dX9_restore_43 : decode cX9_restore 43 = .ok (.aload_n 0, 1) := by decide +kernel
theorem dX9_restore_44 : decode cX9_restore 44 = .ok (.iconst 0, 1) := by decide +kernel
theorem dX9_restore_45 : decode cX9_restore 45 = .ok (.putfield 298, 3) := by decide +kernel
theorem dX9_restore_48 : decode cX9_restore 48 = .ok (.aload_n 0, 1) := by decide +kernel
theorem dX9_restore_49 : decode cX9_restore 49 = .ok (.getfield 9, 3) := by decide +kernel
theorem dX9_restore_52 : decode cX9_restore 52 = .ok (.bipush 7, 2) := by decide +kernel
theorem dX9_restore_54 : decode cX9_restore 54 = .ok (.iaload, 1) := by decide +kernel
theorem dX9_restore_55 : decode cX9_restore 55 = .ok (.ireturn, 1) := by decide +kernel
-- X9_untilSending
set_option maxRecDepth 100000 in
set_option maxHeartbeats 4000000 in
theorem zm_X9_untilSending {l : Launch} {G : zG} {p1 : Int32} {M : zM} {Kf : Int32 → zM → Prop} (h : (zCalI l G Y_X9_ofFlow 0 0 [vr 30 0, vi p1, vi 0] M (fun x3 M2 => ((0 ≤ ((zmI M 31 0 7) - x3) → (zCalI l G Y_X9_ofFlow 0 0 [vr 30 0, vi p1, vi 1] M2 (fun x5 M4 => (zCalI l G Y_X9_ofFlow 0 0 [vr 30 0, vi p1, vi 1] M4 (fun x7 M6 => (¬ x7 = 0 ∧ (Kf (x5 - (((zmI M 31 0 7) - x3) - ((zmI M 31 0 7) - x3) / x7 * x7)) M6))))))) ∧ (¬ 0 ≤ ((zmI M 31 0 7) - x3) → (Kf (-((zmI M 31 0 7) - x3)) M2)))))) : zCalI l G Y_X9_untilSending 0 0 [vr 30 0, vi p1] M Kf := by
  refine zCal_of (lv := [(0, vr 30 0), (1, vi p1)]) (by decide) rfl (zle rfl) rfl (fun hv => zlv_args (lv := [(0, vr 30 0), (1, vi p1)]) rfl hv) ?_
  refine Z_aload_n dX9_untilSending_0 rfl 0 rfl ?_
  refine Z_getR (s1 := 31) (i1 := 0) zfl_X9_9 rfl (fun q => by first | exact q | decide) dX9_untilSending_1 ?_
  refine Z_bipush (v := 7) (by decide) dX9_untilSending_4 ?_
  refine Z_ialdK (n := 484) (j := 7) rfl (by decide) (zvin (by decide)) dX9_untilSending_6 ?_
  refine Z_aload_n dX9_untilSending_7 rfl 0 rfl ?_
  refine Z_iload_n dX9_untilSending_8 rfl 1 rfl ?_
  refine Z_iconst (v := 0) (by decide) dX9_untilSending_9 ?_
  refine Z_callVI (as := [vi p1, vi 0]) zRm_M zcv_X9_untilSending_X9_ofFlow_67 (ci := 13) rfl rfl rfl rfl (zle rfl) dX9_untilSending_10 ⟨Nat.le_refl _, Nat.le_refl _⟩ h (fun x3 M2 h => ?_)
  refine Z_isub dX9_untilSending_13 ?_
  refine Z_istore_n (lv2 := [(2, vi ((zmI M 31 0 7) - x3)), (0, vr 30 0), (1, vi p1)]) dX9_untilSending_14 rfl (by decide) rfl ?_
  refine Z_iload_n dX9_untilSending_15 rfl 0 rfl ?_
  refine Z_if_ge (tgt := 24) dX9_untilSending_16 (by decide) (fun q => ?_) (fun q => ?_)
  · have h := h.1 q
    refine Z_aload_n dX9_untilSending_24 rfl 1 rfl ?_
    refine Z_iload_n dX9_untilSending_25 rfl 2 rfl ?_
    refine Z_iconst (v := 1) (by decide) dX9_untilSending_26 ?_
    refine Z_callVI (as := [vi p1, vi 1]) zRm_M zcv_X9_untilSending_X9_ofFlow_67 (ci := 13) rfl rfl rfl rfl (zle rfl) dX9_untilSending_27 ⟨Nat.le_refl _, Nat.le_refl _⟩ h (fun x5 M4 h => ?_)
    refine Z_iload_n dX9_untilSending_30 rfl 0 rfl ?_
    refine Z_aload_n dX9_untilSending_31 rfl 1 rfl ?_
    refine Z_iload_n dX9_untilSending_32 rfl 2 rfl ?_
    refine Z_iconst (v := 1) (by decide) dX9_untilSending_33 ?_
    refine Z_callVI (as := [vi p1, vi 1]) zRm_M zcv_X9_untilSending_X9_ofFlow_67 (ci := 13) rfl rfl rfl rfl (zle rfl) dX9_untilSending_34 ⟨Nat.le_refl _, Nat.le_refl _⟩ h (fun x7 M6 h => ?_)
    obtain ⟨g8, h⟩ := h
    refine Z_irem dX9_untilSending_37 g8 ?_
    refine Z_isub dX9_untilSending_38 ?_
    exact Z_iret rfl rfl dX9_untilSending_39 (Nat.le_refl _) (Nat.le_refl _) ⟨_, rfl, h⟩
  · have h := h.2 q
    refine Z_iload_n dX9_untilSending_19 rfl 0 rfl ?_
    refine Z_ineg dX9_untilSending_20 ?_
    refine Z_goto (tgt := 39) dX9_untilSending_21 (by decide) ?_
    exact Z_iret rfl rfl dX9_untilSending_39 (Nat.le_refl _) (Nat.le_refl _) ⟨_, rfl, h⟩
-- X9_writesNumber
set_option maxRecDepth 100000 in
set_option maxHeartbeats 4000000 in
theorem zm_X9_writesNumber {l : Launch} {G : zG} {p1 : Int32} {M : zM} {Kf : zM → Prop} (h : zAt l G Y_X9_writesNumber (zEV G Y_X9_writesNumber Kf) 2 [(0, vr 30 0), (1, vi p1), (2, vi 1)] [] M 0 0) : zCalV l G Y_X9_writesNumber 0 0 [vr 30 0, vi p1] M Kf := by
  refine zCal_of (lv := [(0, vr 30 0), (1, vi p1)]) (by decide) rfl (zle rfl) rfl (fun hv => zlv_args (lv := [(0, vr 30 0), (1, vi p1)]) rfl hv) ?_
  refine Z_iconst (v := 1) (by decide) dX9_writesNumber_0 ?_
  refine Z_istore_n (lv2 := [(2, vi 1), (0, vr 30 0), (1, vi p1)]) dX9_writesNumber_1 rfl (by decide) rfl ?_
  exact Z_pick [1, 2, 0] rfl h
set_option maxRecDepth 100000 in
set_option maxHeartbeats 4000000 in
theorem zb_X9_writesNumber_2 {l : Launch} {G : zG} {y1 : Int32} {y2 : Int32} {M : zM} {Kf : zM → Prop} (h : (¬ y2 = 0 ∧ (((y1 / y2) ≤ 9 → zAt l G Y_X9_writesNumber (zEV G Y_X9_writesNumber Kf) 18 [(0, vr 30 0), (1, vi y1), (2, vi y2)] [] M 0 0) ∧ (¬ (y1 / y2) ≤ 9 → zAt l G Y_X9_writesNumber (zEV G Y_X9_writesNumber Kf) 2 [(0, vr 30 0), (1, vi y1), (2, vi (y2 * 10))] [] M 0 0)))) : zAt l G Y_X9_writesNumber (zEV G Y_X9_writesNumber Kf) 2 [(0, vr 30 0), (1, vi y1), (2, vi y2)] [] M 0 0 := by
  refine Z_iload_n dX9_writesNumber_2 rfl 1 rfl ?_
  refine Z_iload_n dX9_writesNumber_3 rfl 2 rfl ?_
  obtain ⟨g1, h⟩ := h
  refine Z_idiv dX9_writesNumber_4 g1 ?_
  refine Z_bipush (v := 9) (by decide) dX9_writesNumber_5 ?_
  refine Z_icmp_le (tgt := 18) dX9_writesNumber_7 (by decide) (fun q => ?_) (fun q => ?_)
  · have h := h.1 q
    exact h
  · have h := h.2 q
    refine Z_iload_n dX9_writesNumber_10 rfl 2 rfl ?_
    refine Z_bipush (v := 10) (by decide) dX9_writesNumber_11 ?_
    refine Z_imul dX9_writesNumber_13 ?_
    refine Z_istore_n (lv2 := [(2, vi (y2 * 10)), (0, vr 30 0), (1, vi y1)]) dX9_writesNumber_14 rfl (by decide) rfl ?_
    refine Z_goto (tgt := 2) dX9_writesNumber_15 (by decide) ?_
    exact Z_pick [1, 2, 0] rfl h
set_option maxRecDepth 100000 in
set_option maxHeartbeats 4000000 in
theorem zb_X9_writesNumber_18 {l : Launch} {G : zG} {y1 : Int32} {y2 : Int32} {M : zM} {Kf : zM → Prop} (h : ((y2 ≤ 0 → (Kf M)) ∧ (¬ y2 ≤ 0 → (¬ y2 = 0 ∧ (zCalV l G Y_X9_writes 0 0 [vr 30 0, vi (48 + ((y1 / y2) - (y1 / y2) / 10 * 10))] M (fun M3 => zAt l G Y_X9_writesNumber (zEV G Y_X9_writesNumber Kf) 18 [(0, vr 30 0), (1, vi y1), (2, vi (y2 / 10))] [] M3 0 0)))))) : zAt l G Y_X9_writesNumber (zEV G Y_X9_writesNumber Kf) 18 [(0, vr 30 0), (1, vi y1), (2, vi y2)] [] M 0 0 := by
  refine Z_iload_n dX9_writesNumber_18 rfl 2 rfl ?_
  refine Z_if_le (tgt := 43) dX9_writesNumber_19 (by decide) (fun q => ?_) (fun q => ?_)
  · have h := h.1 q
    exact Z_vret rfl dX9_writesNumber_43 (Nat.le_refl _) (Nat.le_refl _) ⟨rfl, h⟩
  · have h := h.2 q
    refine Z_aload_n dX9_writesNumber_22 rfl 0 rfl ?_
    refine Z_bipush (v := 48) (by decide) dX9_writesNumber_23 ?_
    refine Z_iload_n dX9_writesNumber_25 rfl 1 rfl ?_
    refine Z_iload_n dX9_writesNumber_26 rfl 2 rfl ?_
    obtain ⟨g1, h⟩ := h
    refine Z_idiv dX9_writesNumber_27 g1 ?_
    refine Z_bipush (v := 10) (by decide) dX9_writesNumber_28 ?_
    refine Z_irem dX9_writesNumber_30 (by decide) ?_
    refine Z_iadd dX9_writesNumber_31 ?_
    refine Z_callVV (as := [vi (48 + ((y1 / y2) - (y1 / y2) / 10 * 10))]) zRm_M zcv_X9_writesNumber_X9_writes_435 (ci := 13) rfl rfl rfl rfl (zle rfl) dX9_writesNumber_32 ⟨Nat.le_refl _, Nat.le_refl _⟩ h (fun M3 h => ?_)
    refine Z_iload_n dX9_writesNumber_35 rfl 2 rfl ?_
    refine Z_bipush (v := 10) (by decide) dX9_writesNumber_36 ?_
    refine Z_idiv dX9_writesNumber_38 (by decide) ?_
    refine Z_istore_n (lv2 := [(2, vi (y2 / 10)), (0, vr 30 0), (1, vi y1)]) dX9_writesNumber_39 rfl (by decide) rfl ?_
    refine Z_goto (tgt := 18) dX9_writesNumber_40 (by decide) ?_
    exact Z_pick [1, 2, 0] rfl h
-- X9_advance
set_option maxRecDepth 100000 in
set_option maxHeartbeats 4000000 in
theorem zm_X9_advance {l : Launch} {G : zG} {M : zM} {Kf : zM → Prop} (h : zAt l G Y_X9_advance (zEV G Y_X9_advance Kf) 0 [(0, vr 30 0)] [] M 0 0) : zCalV l G Y_X9_advance 0 0 [vr 30 0] M Kf := by
  refine zCal_of (lv := [(0, vr 30 0)]) (by decide) rfl (zle rfl) rfl (fun hv => zlv_args (lv := [(0, vr 30 0)]) rfl hv) ?_
  exact h
set_option maxRecDepth 100000 in
set_option maxHeartbeats 4000000 in
theorem zb_X9_advance_0 {l : Launch} {G : zG}  {M : zM} {Kf : zM → Prop} (h : (zCalI l G Y_X9_byteAt 0 0 [vr 30 0, vi (zmI M 30 0 12)] M (fun x2 M1 => ((x2 = 32 → zAt l G Y_X9_advance (zEV G Y_X9_advance Kf) 26 [(0, vr 30 0)] [] M1 0 0) ∧ (¬ x2 = 32 → (zCalI l G Y_X9_byteAt 0 0 [vr 30 0, vi (zmI M1 30 0 12)] M1 (fun x4 M3 => ((¬ x4 = 10 → ((¬ (zmI (zsI (zsI M3 30 0 11 (zmI M3 30 0 12)) 30 0 14 0) 30 0 11) = (zmI (zsI (zsI M3 30 0 11 (zmI M3 30 0 12)) 30 0 14 0) 30 0 10) → (zCalI l G Y_X9_isLetterAt 0 0 [vr 30 0, vi (zmI (zsI (zsI M3 30 0 11 (zmI M3 30 0 12)) 30 0 14 0) 30 0 11)] (zsI (zsI M3 30 0 11 (zmI M3 30 0 12)) 30 0 14 0) (fun x6 M5 => ((x6 = 0 → (zCalI l G Y_X9_isDigitAt 0 0 [vr 30 0, vi (zmI M5 30 0 11)] M5 (fun x8 M7 => ((x8 = 0 → (vp_in (zmI M7 30 0 11) 500 ∧ (((zmI M7 37 0 (zmI M7 30 0 11).toNatClampNeg) = 59 → (Kf (zsI (zsI M7 30 0 13 3) 30 0 12 ((zmI (zsI M7 30 0 13 3) 30 0 12) + 1)))) ∧ (¬ (zmI M7 37 0 (zmI M7 30 0 11).toNatClampNeg) = 59 → (((zmI M7 37 0 (zmI M7 30 0 11).toNatClampNeg) = 40 → (Kf (zsI (zsI M7 30 0 13 3) 30 0 12 ((zmI (zsI M7 30 0 13 3) 30 0 12) + 1)))) ∧ (¬ (zmI M7 37 0 (zmI M7 30 0 11).toNatClampNeg) = 40 → ((¬ (zmI M7 37 0 (zmI M7 30 0 11).toNatClampNeg) = 41 → (Kf (zsI (zsI M7 30 0 13 4) 30 0 12 ((zmI (zsI M7 30 0 13 4) 30 0 12) + 1)))) ∧ ((zmI M7 37 0 (zmI M7 30 0 11).toNatClampNeg) = 41 → (Kf (zsI (zsI M7 30 0 13 3) 30 0 12 ((zmI (zsI M7 30 0 13 3) 30 0 12) + 1))))))))))) ∧ (¬ x8 = 0 → zAt l G Y_X9_advance (zEV G Y_X9_advance Kf) 127 [(0, vr 30 0)] [] (zsI M7 30 0 13 2) 0 0))))) ∧ (¬ x6 = 0 → zAt l G Y_X9_advance (zEV G Y_X9_advance Kf) 87 [(0, vr 30 0)] [] (zsI M5 30 0 13 1) 0 0))))) ∧ ((zmI (zsI (zsI M3 30 0 11 (zmI M3 30 0 12)) 30 0 14 0) 30 0 11) = (zmI (zsI (zsI M3 30 0 11 (zmI M3 30 0 12)) 30 0 14 0) 30 0 10) → (Kf (zsI (zsI (zsI M3 30 0 11 (zmI M3 30 0 12)) 30 0 14 0) 30 0 13 0))))) ∧ (x4 = 10 → zAt l G Y_X9_advance (zEV G Y_X9_advance Kf) 26 [(0, vr 30 0)] [] M3 0 0))))))))) : zAt l G Y_X9_advance (zEV G Y_X9_advance Kf) 0 [(0, vr 30 0)] [] M 0 0 := by
  refine Z_aload_n dX9_advance_0 rfl 0 rfl ?_
  refine Z_aload_n dX9_advance_1 rfl 0 rfl ?_
  refine Z_getI zfl_X9_191 dX9_advance_2 ?_
  refine Z_callVI (as := [vi (zmI M 30 0 12)]) zRm_M zcv_X9_advance_X9_byteAt_188 (ci := 13) rfl rfl rfl rfl (zle rfl) dX9_advance_5 ⟨Nat.le_refl _, Nat.le_refl _⟩ h (fun x2 M1 h => ?_)
  refine Z_bipush (v := 32) (by decide) dX9_advance_8 ?_
  refine Z_icmp_eq (tgt := 26) dX9_advance_10 (by decide) (fun q => ?_) (fun q => ?_)
  · have h := h.1 q
    exact h
  · have h := h.2 q
    refine Z_aload_n dX9_advance_13 rfl 0 rfl ?_
    refine Z_aload_n dX9_advance_14 rfl 0 rfl ?_
    refine Z_getI zfl_X9_191 dX9_advance_15 ?_
    refine Z_callVI (as := [vi (zmI M1 30 0 12)]) zRm_M zcv_X9_advance_X9_byteAt_188 (ci := 13) rfl rfl rfl rfl (zle rfl) dX9_advance_18 ⟨Nat.le_refl _, Nat.le_refl _⟩ h (fun x4 M3 h => ?_)
    refine Z_bipush (v := 10) (by decide) dX9_advance_21 ?_
    refine Z_icmp_ne (tgt := 39) dX9_advance_23 (by decide) (fun q => ?_) (fun q => ?_)
    · have h := h.1 q
      refine Z_aload_n dX9_advance_39 rfl 0 rfl ?_
      refine Z_aload_n dX9_advance_40 rfl 0 rfl ?_
      refine Z_getI zfl_X9_191 dX9_advance_41 ?_
      refine Z_putI zfp_X9_194 rfl rfl dX9_advance_44 ?_
      refine Z_aload_n dX9_advance_47 rfl 0 rfl ?_
      refine Z_iconst (v := 0) (by decide) dX9_advance_48 ?_
      refine Z_putI zfp_X9_197 rfl rfl dX9_advance_49 ?_
      refine Z_aload_n dX9_advance_52 rfl 0 rfl ?_
      refine Z_getI zfl_X9_194 dX9_advance_53 ?_
      refine Z_aload_n dX9_advance_56 rfl 0 rfl ?_
      refine Z_getI zfl_X9_179 dX9_advance_57 ?_
      refine Z_icmp_ne (tgt := 71) dX9_advance_60 (by decide) (fun q => ?_) (fun q => ?_)
      · have h := h.1 q
        refine Z_aload_n dX9_advance_71 rfl 0 rfl ?_
        refine Z_aload_n dX9_advance_72 rfl 0 rfl ?_
        refine Z_getI zfl_X9_194 dX9_advance_73 ?_
        refine Z_callVI (as := [vi (zmI (zsI (zsI M3 30 0 11 (zmI M3 30 0 12)) 30 0 14 0) 30 0 11)]) zRm_M zcv_X9_advance_X9_isLetterAt_203 (ci := 13) rfl rfl rfl rfl (zle rfl) dX9_advance_76 ⟨Nat.le_refl _, Nat.le_refl _⟩ h (fun x6 M5 h => ?_)
        refine Z_if_eq (tgt := 111) dX9_advance_79 (by decide) (fun q => ?_) (fun q => ?_)
        · have h := h.1 q
          refine Z_aload_n dX9_advance_111 rfl 0 rfl ?_
          refine Z_aload_n dX9_advance_112 rfl 0 rfl ?_
          refine Z_getI zfl_X9_194 dX9_advance_113 ?_
          refine Z_callVI (as := [vi (zmI M5 30 0 11)]) zRm_M zcv_X9_advance_X9_isDigitAt_206 (ci := 13) rfl rfl rfl rfl (zle rfl) dX9_advance_116 ⟨Nat.le_refl _, Nat.le_refl _⟩ h (fun x8 M7 h => ?_)
          refine Z_if_eq (tgt := 194) dX9_advance_119 (by decide) (fun q => ?_) (fun q => ?_)
          · have h := h.1 q
            refine Z_aload_n dX9_advance_194 rfl 0 rfl ?_
            refine Z_getR (s1 := 37) (i1 := 0) zfl_X9_29 rfl (fun q => by first | exact q | decide) dX9_advance_195 ?_
            refine Z_aload_n dX9_advance_198 rfl 0 rfl ?_
            refine Z_getI zfl_X9_194 dX9_advance_199 ?_
            obtain ⟨g9, h⟩ := h
            refine Z_iald (n := 500) rfl g9 dX9_advance_202 ?_
            refine Z_istore_n (lv2 := [(1, vi (zmI M7 37 0 (zmI M7 30 0 11).toNatClampNeg)), (0, vr 30 0)]) dX9_advance_203 rfl (by decide) rfl ?_
            refine Z_aload_n dX9_advance_204 rfl 1 rfl ?_
            refine Z_iload_n dX9_advance_205 rfl 0 rfl ?_
            refine Z_bipush (v := 59) (by decide) dX9_advance_206 ?_
            refine Z_icmp_eq (tgt := 223) dX9_advance_208 (by decide) (fun q => ?_) (fun q => ?_)
            · have h := h.1 q
              refine Z_iconst (v := 3) (by decide) dX9_advance_223 ?_
              refine Z_goto (tgt := 228) dX9_advance_224 (by decide) ?_
              refine Z_putI zfp_X9_200 rfl rfl dX9_advance_228 ?_
              refine Z_aload_n dX9_advance_231 rfl 1 rfl ?_
              refine Z_dup rfl dX9_advance_232 ?_
              refine Z_getI zfl_X9_191 dX9_advance_233 ?_
              refine Z_iconst (v := 1) (by decide) dX9_advance_236 ?_
              refine Z_iadd dX9_advance_237 ?_
              refine Z_putI zfp_X9_191 rfl rfl dX9_advance_238 ?_
              exact Z_vret rfl dX9_advance_241 (Nat.le_refl _) (Nat.le_refl _) ⟨rfl, h⟩
            · have h := h.2 q
              refine Z_iload_n dX9_advance_211 rfl 0 rfl ?_
              refine Z_bipush (v := 40) (by decide) dX9_advance_212 ?_
              refine Z_icmp_eq (tgt := 223) dX9_advance_214 (by decide) (fun q => ?_) (fun q => ?_)
              · have h := h.1 q
                refine Z_iconst (v := 3) (by decide) dX9_advance_223 ?_
                refine Z_goto (tgt := 228) dX9_advance_224 (by decide) ?_
                refine Z_putI zfp_X9_200 rfl rfl dX9_advance_228 ?_
                refine Z_aload_n dX9_advance_231 rfl 1 rfl ?_
                refine Z_dup rfl dX9_advance_232 ?_
                refine Z_getI zfl_X9_191 dX9_advance_233 ?_
                refine Z_iconst (v := 1) (by decide) dX9_advance_236 ?_
                refine Z_iadd dX9_advance_237 ?_
                refine Z_putI zfp_X9_191 rfl rfl dX9_advance_238 ?_
                exact Z_vret rfl dX9_advance_241 (Nat.le_refl _) (Nat.le_refl _) ⟨rfl, h⟩
              · have h := h.2 q
                refine Z_iload_n dX9_advance_217 rfl 0 rfl ?_
                refine Z_bipush (v := 41) (by decide) dX9_advance_218 ?_
                refine Z_icmp_ne (tgt := 227) dX9_advance_220 (by decide) (fun q => ?_) (fun q => ?_)
                · have h := h.1 q
                  refine Z_iconst (v := 4) (by decide) dX9_advance_227 ?_
                  refine Z_putI zfp_X9_200 rfl rfl dX9_advance_228 ?_
                  refine Z_aload_n dX9_advance_231 rfl 1 rfl ?_
                  refine Z_dup rfl dX9_advance_232 ?_
                  refine Z_getI zfl_X9_191 dX9_advance_233 ?_
                  refine Z_iconst (v := 1) (by decide) dX9_advance_236 ?_
                  refine Z_iadd dX9_advance_237 ?_
                  refine Z_putI zfp_X9_191 rfl rfl dX9_advance_238 ?_
                  exact Z_vret rfl dX9_advance_241 (Nat.le_refl _) (Nat.le_refl _) ⟨rfl, h⟩
                · have h := h.2 q
                  refine Z_iconst (v := 3) (by decide) dX9_advance_223 ?_
                  refine Z_goto (tgt := 228) dX9_advance_224 (by decide) ?_
                  refine Z_putI zfp_X9_200 rfl rfl dX9_advance_228 ?_
                  refine Z_aload_n dX9_advance_231 rfl 1 rfl ?_
                  refine Z_dup rfl dX9_advance_232 ?_
                  refine Z_getI zfl_X9_191 dX9_advance_233 ?_
                  refine Z_iconst (v := 1) (by decide) dX9_advance_236 ?_
                  refine Z_iadd dX9_advance_237 ?_
                  refine Z_putI zfp_X9_191 rfl rfl dX9_advance_238 ?_
                  exact Z_vret rfl dX9_advance_241 (Nat.le_refl _) (Nat.le_refl _) ⟨rfl, h⟩
          · have h := h.2 q
            refine Z_aload_n dX9_advance_122 rfl 0 rfl ?_
            refine Z_iconst (v := 2) (by decide) dX9_advance_123 ?_
            refine Z_putI zfp_X9_200 rfl rfl dX9_advance_124 ?_
            exact h
        · have h := h.2 q
          refine Z_aload_n dX9_advance_82 rfl 0 rfl ?_
          refine Z_iconst (v := 1) (by decide) dX9_advance_83 ?_
          refine Z_putI zfp_X9_200 rfl rfl dX9_advance_84 ?_
          exact h
      · have h := h.2 q
        refine Z_aload_n dX9_advance_63 rfl 0 rfl ?_
        refine Z_iconst (v := 0) (by decide) dX9_advance_64 ?_
        refine Z_putI zfp_X9_200 rfl rfl dX9_advance_65 ?_
        refine Z_goto (tgt := 241) dX9_advance_68 (by decide) ?_
        exact Z_vret rfl dX9_advance_241 (Nat.le_refl _) (Nat.le_refl _) ⟨rfl, h⟩
    · have h := h.2 q
      exact h
set_option maxRecDepth 100000 in
set_option maxHeartbeats 4000000 in
theorem zb_X9_advance_26 {l : Launch} {G : zG}  {M : zM} {Kf : zM → Prop} (h : zAt l G Y_X9_advance (zEV G Y_X9_advance Kf) 0 [(0, vr 30 0)] [] (zsI M 30 0 12 ((zmI M 30 0 12) + 1)) 0 0) : zAt l G Y_X9_advance (zEV G Y_X9_advance Kf) 26 [(0, vr 30 0)] [] M 0 0 := by
  refine Z_aload_n dX9_advance_26 rfl 0 rfl ?_
  refine Z_dup rfl dX9_advance_27 ?_
  refine Z_getI zfl_X9_191 dX9_advance_28 ?_
  refine Z_iconst (v := 1) (by decide) dX9_advance_31 ?_
  refine Z_iadd dX9_advance_32 ?_
  refine Z_putI zfp_X9_191 rfl rfl dX9_advance_33 ?_
  refine Z_goto (tgt := 0) dX9_advance_36 (by decide) ?_
  exact h
set_option maxRecDepth 100000 in
set_option maxHeartbeats 4000000 in
theorem zb_X9_advance_127 {l : Launch} {G : zG}  {M : zM} {Kf : zM → Prop} (h : (zCalI l G Y_X9_isDigitAt 0 0 [vr 30 0, vi (zmI M 30 0 12)] M (fun x2 M1 => ((x2 = 0 → (Kf M1)) ∧ (¬ x2 = 0 → ((6 ≤ ((zmI M1 30 0 12) - (zmI M1 30 0 11)) → zAt l G Y_X9_advance (zEV G Y_X9_advance Kf) 178 [(0, vr 30 0)] [vi 1000000, vr 30 0] M1 0 0) ∧ (¬ 6 ≤ ((zmI M1 30 0 12) - (zmI M1 30 0 11)) → (vp_in (zmI M1 30 0 12) 500 ∧ zAt l G Y_X9_advance (zEV G Y_X9_advance Kf) 178 [(0, vr 30 0)] [vi (((10 * (zmI M1 30 0 14)) + (zmI M1 37 0 (zmI M1 30 0 12).toNatClampNeg)) - 48), vr 30 0] M1 0 0)))))))) : zAt l G Y_X9_advance (zEV G Y_X9_advance Kf) 127 [(0, vr 30 0)] [] M 0 0 := by
  refine Z_aload_n dX9_advance_127 rfl 0 rfl ?_
  refine Z_aload_n dX9_advance_128 rfl 0 rfl ?_
  refine Z_getI zfl_X9_191 dX9_advance_129 ?_
  refine Z_callVI (as := [vi (zmI M 30 0 12)]) zRm_M zcv_X9_advance_X9_isDigitAt_206 (ci := 13) rfl rfl rfl rfl (zle rfl) dX9_advance_132 ⟨Nat.le_refl _, Nat.le_refl _⟩ h (fun x2 M1 h => ?_)
  refine Z_if_eq (tgt := 241) dX9_advance_135 (by decide) (fun q => ?_) (fun q => ?_)
  · have h := h.1 q
    exact Z_vret rfl dX9_advance_241 (Nat.le_refl _) (Nat.le_refl _) ⟨rfl, h⟩
  · have h := h.2 q
    refine Z_aload_n dX9_advance_138 rfl 0 rfl ?_
    refine Z_aload_n dX9_advance_139 rfl 0 rfl ?_
    refine Z_getI zfl_X9_191 dX9_advance_140 ?_
    refine Z_aload_n dX9_advance_143 rfl 0 rfl ?_
    refine Z_getI zfl_X9_194 dX9_advance_144 ?_
    refine Z_isub dX9_advance_147 ?_
    refine Z_bipush (v := 6) (by decide) dX9_advance_148 ?_
    refine Z_icmp_ge (tgt := 176) dX9_advance_150 (by decide) (fun q => ?_) (fun q => ?_)
    · have h := h.1 q
      refine Z_ldc (v := 1000000) zw_1737 dX9_advance_176 ?_
      exact h
    · have h := h.2 q
      refine Z_bipush (v := 10) (by decide) dX9_advance_153 ?_
      refine Z_aload_n dX9_advance_155 rfl 0 rfl ?_
      refine Z_getI zfl_X9_197 dX9_advance_156 ?_
      refine Z_imul dX9_advance_159 ?_
      refine Z_aload_n dX9_advance_160 rfl 0 rfl ?_
      refine Z_getR (s1 := 37) (i1 := 0) zfl_X9_29 rfl (fun q => by first | exact q | decide) dX9_advance_161 ?_
      refine Z_aload_n dX9_advance_164 rfl 0 rfl ?_
      refine Z_getI zfl_X9_191 dX9_advance_165 ?_
      obtain ⟨g3, h⟩ := h
      refine Z_iald (n := 500) rfl g3 dX9_advance_168 ?_
      refine Z_iadd dX9_advance_169 ?_
      refine Z_bipush (v := 48) (by decide) dX9_advance_170 ?_
      refine Z_isub dX9_advance_172 ?_
      refine Z_goto (tgt := 178) dX9_advance_173 (by decide) ?_
      exact h
set_option maxRecDepth 100000 in
set_option maxHeartbeats 4000000 in
theorem zb_X9_advance_87 {l : Launch} {G : zG}  {M : zM} {Kf : zM → Prop} (h : (zCalI l G Y_X9_isLetterAt 0 0 [vr 30 0, vi (zmI M 30 0 12)] M (fun x2 M1 => ((x2 = 0 → (Kf M1)) ∧ (¬ x2 = 0 → zAt l G Y_X9_advance (zEV G Y_X9_advance Kf) 87 [(0, vr 30 0)] [] (zsI M1 30 0 12 ((zmI M1 30 0 12) + 1)) 0 0))))) : zAt l G Y_X9_advance (zEV G Y_X9_advance Kf) 87 [(0, vr 30 0)] [] M 0 0 := by
  refine Z_aload_n dX9_advance_87 rfl 0 rfl ?_
  refine Z_aload_n dX9_advance_88 rfl 0 rfl ?_
  refine Z_getI zfl_X9_191 dX9_advance_89 ?_
  refine Z_callVI (as := [vi (zmI M 30 0 12)]) zRm_M zcv_X9_advance_X9_isLetterAt_203 (ci := 13) rfl rfl rfl rfl (zle rfl) dX9_advance_92 ⟨Nat.le_refl _, Nat.le_refl _⟩ h (fun x2 M1 h => ?_)
  refine Z_if_eq (tgt := 241) dX9_advance_95 (by decide) (fun q => ?_) (fun q => ?_)
  · have h := h.1 q
    exact Z_vret rfl dX9_advance_241 (Nat.le_refl _) (Nat.le_refl _) ⟨rfl, h⟩
  · have h := h.2 q
    refine Z_aload_n dX9_advance_98 rfl 0 rfl ?_
    refine Z_dup rfl dX9_advance_99 ?_
    refine Z_getI zfl_X9_191 dX9_advance_100 ?_
    refine Z_iconst (v := 1) (by decide) dX9_advance_103 ?_
    refine Z_iadd dX9_advance_104 ?_
    refine Z_putI zfp_X9_191 rfl rfl dX9_advance_105 ?_
    refine Z_goto (tgt := 87) dX9_advance_108 (by decide) ?_
    exact h
set_option maxRecDepth 100000 in
set_option maxHeartbeats 4000000 in
theorem zb_X9_advance_178 {l : Launch} {G : zG} {s0 : Int32} {M : zM} {Kf : zM → Prop} (h : zAt l G Y_X9_advance (zEV G Y_X9_advance Kf) 127 [(0, vr 30 0)] [] (zsI (zsI M 30 0 14 s0) 30 0 12 ((zmI (zsI M 30 0 14 s0) 30 0 12) + 1)) 0 0) : zAt l G Y_X9_advance (zEV G Y_X9_advance Kf) 178 [(0, vr 30 0)] [vi s0, vr 30 0] M 0 0 := by
  refine Z_putI zfp_X9_197 rfl rfl dX9_advance_178 ?_
  refine Z_aload_n dX9_advance_181 rfl 0 rfl ?_
  refine Z_dup rfl dX9_advance_182 ?_
  refine Z_getI zfl_X9_191 dX9_advance_183 ?_
  refine Z_iconst (v := 1) (by decide) dX9_advance_186 ?_
  refine Z_iadd dX9_advance_187 ?_
  refine Z_putI zfp_X9_191 rfl rfl dX9_advance_188 ?_
  refine Z_goto (tgt := 127) dX9_advance_191 (by decide) ?_
  exact h
-- X9_baseOf
set_option maxRecDepth 100000 in
set_option maxHeartbeats 4000000 in
theorem zm_X9_baseOf {l : Launch} {G : zG} {p1 : Int32} {M : zM} {Kf : Int64 → zM → Prop} (h : (zCalI l G Y_X9_low 0 0 [vr 30 0] M (fun x2 M1 => ((x2 ≤ p1 → (zCalI l G Y_X9_endOfChance 0 0 [vr 30 0] M1 (fun x4 M3 => ((p1 < x4 → (zCalI l G Y_X9_high 0 0 [vr 30 0] M3 (fun x6 M5 => ((x6 ≤ p1 → (zCalI l G Y_X9_high 0 0 [vr 30 0] M5 (fun x10 M9 => (zCalI l G Y_X9_high 0 0 [vr 30 0] M9 (fun x12 M11 => (¬ ((x12 : Int32).toInt64) = 0 ∧ (Kf ((((zmI M5 31 0 4) : Int32).toInt64) + (((((65536 - (zmI M5 31 0 4)) : Int32).toInt64) * (((p1 - x10) : Int32).toInt64)) / ((x12 : Int32).toInt64))) M11))))))) ∧ (¬ x6 ≤ p1 → (zCalI l G Y_X9_low 0 0 [vr 30 0] M5 (fun x16 M15 => (zCalI l G Y_X9_high 0 0 [vr 30 0] M15 (fun x18 M17 => (zCalI l G Y_X9_low 0 0 [vr 30 0] M17 (fun x20 M19 => (¬ (((x18 - x20) : Int32).toInt64) = 0 ∧ (Kf (((((zmI M5 31 0 4) : Int32).toInt64) * (((p1 - x16) : Int32).toInt64)) / (((x18 - x20) : Int32).toInt64)) M19))))))))))))) ∧ (¬ p1 < x4 → (Kf 65536 M3)))))) ∧ (¬ x2 ≤ p1 → (Kf 0 M1)))))) : zCalL l G Y_X9_baseOf 0 0 [vr 30 0, vi p1] M Kf := by
  refine zCal_of (lv := [(0, vr 30 0), (1, vi p1)]) (by decide) rfl (zle rfl) rfl (fun hv => zlv_args (lv := [(0, vr 30 0), (1, vi p1)]) rfl hv) ?_
  refine Z_iload_n dX9_baseOf_0 rfl 1 rfl ?_
  refine Z_aload_n dX9_baseOf_1 rfl 0 rfl ?_
  refine Z_callVI (as := []) zRm_M zcv_X9_baseOf_X9_low_82 (ci := 13) rfl rfl rfl rfl (zle rfl) dX9_baseOf_2 ⟨Nat.le_refl _, Nat.le_refl _⟩ h (fun x2 M1 h => ?_)
  refine Z_icmp_ge (tgt := 10) dX9_baseOf_5 (by decide) (fun q => ?_) (fun q => ?_)
  · have h := h.1 q
    refine Z_iload_n dX9_baseOf_10 rfl 1 rfl ?_
    refine Z_aload_n dX9_baseOf_11 rfl 0 rfl ?_
    refine Z_callVI (as := []) zRm_M zcv_X9_baseOf_X9_endOfChance_85 (ci := 13) rfl rfl rfl rfl (zle rfl) dX9_baseOf_12 ⟨Nat.le_refl _, Nat.le_refl _⟩ h (fun x4 M3 h => ?_)
    refine Z_icmp_lt (tgt := 22) dX9_baseOf_15 (by decide) (fun q => ?_) (fun q => ?_)
    · have h := h.1 q
      refine Z_iload_n dX9_baseOf_22 rfl 1 rfl ?_
      refine Z_aload_n dX9_baseOf_23 rfl 0 rfl ?_
      refine Z_callVI (as := []) zRm_M zcv_X9_baseOf_X9_high_78 (ci := 13) rfl rfl rfl rfl (zle rfl) dX9_baseOf_24 ⟨Nat.le_refl _, Nat.le_refl _⟩ h (fun x6 M5 h => ?_)
      refine Z_icmp_ge (tgt := 57) dX9_baseOf_27 (by decide) (fun q => ?_) (fun q => ?_)
      · have h := h.1 q
        refine Z_aload_n dX9_baseOf_57 rfl 0 rfl ?_
        refine Z_getR (s1 := 31) (i1 := 0) zfl_X9_9 rfl (fun q => by first | exact q | decide) dX9_baseOf_58 ?_
        refine Z_iconst (v := 4) (by decide) dX9_baseOf_61 ?_
        refine Z_ialdK (n := 484) (j := 4) rfl (by decide) (zvin (by decide)) dX9_baseOf_62 ?_
        refine Z_i2l dX9_baseOf_63 ?_
        refine Z_ldc (v := 65536) zw_1775 dX9_baseOf_64 ?_
        refine Z_aload_n dX9_baseOf_66 rfl 0 rfl ?_
        refine Z_getR (s1 := 31) (i1 := 0) zfl_X9_9 rfl (fun q => by first | exact q | decide) dX9_baseOf_67 ?_
        refine Z_iconst (v := 4) (by decide) dX9_baseOf_70 ?_
        refine Z_ialdK (n := 484) (j := 4) rfl (by decide) (zvin (by decide)) dX9_baseOf_71 ?_
        refine Z_isub dX9_baseOf_72 ?_
        refine Z_i2l dX9_baseOf_73 ?_
        refine Z_iload_n dX9_baseOf_74 rfl 1 rfl ?_
        refine Z_aload_n dX9_baseOf_75 rfl 0 rfl ?_
        refine Z_callVI (as := []) zRm_M zcv_X9_baseOf_X9_high_78 (ci := 13) rfl rfl rfl rfl (zle rfl) dX9_baseOf_76 ⟨Nat.le_refl _, Nat.le_refl _⟩ h (fun x10 M9 h => ?_)
        refine Z_isub dX9_baseOf_79 ?_
        refine Z_i2l dX9_baseOf_80 ?_
        refine Z_lmul dX9_baseOf_81 ?_
        refine Z_aload_n dX9_baseOf_82 rfl 0 rfl ?_
        refine Z_callVI (as := []) zRm_M zcv_X9_baseOf_X9_high_78 (ci := 13) rfl rfl rfl rfl (zle rfl) dX9_baseOf_83 ⟨Nat.le_refl _, Nat.le_refl _⟩ h (fun x12 M11 h => ?_)
        refine Z_i2l dX9_baseOf_86 ?_
        obtain ⟨g13, h⟩ := h
        refine Z_ldiv dX9_baseOf_87 g13 ?_
        refine Z_ladd dX9_baseOf_88 ?_
        exact Z_lret rfl dX9_baseOf_89 (Nat.le_refl _) (Nat.le_refl _) ⟨_, rfl, h⟩
      · have h := h.2 q
        refine Z_aload_n dX9_baseOf_30 rfl 0 rfl ?_
        refine Z_getR (s1 := 31) (i1 := 0) zfl_X9_9 rfl (fun q => by first | exact q | decide) dX9_baseOf_31 ?_
        refine Z_iconst (v := 4) (by decide) dX9_baseOf_34 ?_
        refine Z_ialdK (n := 484) (j := 4) rfl (by decide) (zvin (by decide)) dX9_baseOf_35 ?_
        refine Z_i2l dX9_baseOf_36 ?_
        refine Z_iload_n dX9_baseOf_37 rfl 1 rfl ?_
        refine Z_aload_n dX9_baseOf_38 rfl 0 rfl ?_
        refine Z_callVI (as := []) zRm_M zcv_X9_baseOf_X9_low_82 (ci := 13) rfl rfl rfl rfl (zle rfl) dX9_baseOf_39 ⟨Nat.le_refl _, Nat.le_refl _⟩ h (fun x16 M15 h => ?_)
        refine Z_isub dX9_baseOf_42 ?_
        refine Z_i2l dX9_baseOf_43 ?_
        refine Z_lmul dX9_baseOf_44 ?_
        refine Z_aload_n dX9_baseOf_45 rfl 0 rfl ?_
        refine Z_callVI (as := []) zRm_M zcv_X9_baseOf_X9_high_78 (ci := 13) rfl rfl rfl rfl (zle rfl) dX9_baseOf_46 ⟨Nat.le_refl _, Nat.le_refl _⟩ h (fun x18 M17 h => ?_)
        refine Z_aload_n dX9_baseOf_49 rfl 0 rfl ?_
        refine Z_callVI (as := []) zRm_M zcv_X9_baseOf_X9_low_82 (ci := 13) rfl rfl rfl rfl (zle rfl) dX9_baseOf_50 ⟨Nat.le_refl _, Nat.le_refl _⟩ h (fun x20 M19 h => ?_)
        refine Z_isub dX9_baseOf_53 ?_
        refine Z_i2l dX9_baseOf_54 ?_
        obtain ⟨g21, h⟩ := h
        refine Z_ldiv dX9_baseOf_55 g21 ?_
        exact Z_lret rfl dX9_baseOf_56 (Nat.le_refl _) (Nat.le_refl _) ⟨_, rfl, h⟩
    · have h := h.2 q
      refine Z_ldc2 (v := 65536) zw_1948 dX9_baseOf_18 ?_
      exact Z_lret rfl dX9_baseOf_21 (Nat.le_refl _) (Nat.le_refl _) ⟨_, rfl, h⟩
  · have h := h.2 q
    refine Z_lconst (v := 0) (by decide) dX9_baseOf_8 ?_
    exact Z_lret rfl dX9_baseOf_9 (Nat.le_refl _) (Nat.le_refl _) ⟨_, rfl, h⟩
-- X9_dropped
set_option maxRecDepth 100000 in
set_option maxHeartbeats 4000000 in
theorem zm_X9_dropped {l : Launch} {G : zG} {M : zM} {Kf : Int32 → zM → Prop} (h : (zCalI l G Y_X9_accountOf 0 0 [vr 30 0, vi (-1), vi 2] M (fun x2 M1 => (zCalI l G Y_X9_accountOf 0 0 [vr 30 0, vi (-1), vi 3] M1 (fun x4 M3 => (zCalI l G Y_X9_accountOf 0 0 [vr 30 0, vi (-1), vi 4] M3 (fun x6 M5 => (Kf ((x2 + x4) + x6) M5)))))))) : zCalI l G Y_X9_dropped 0 0 [vr 30 0] M Kf := by
  refine zCal_of (lv := [(0, vr 30 0)]) (by decide) rfl (zle rfl) rfl (fun hv => zlv_args (lv := [(0, vr 30 0)]) rfl hv) ?_
  refine Z_aload_n dX9_dropped_0 rfl 0 rfl ?_
  refine Z_iconst (v := (-1)) (by decide) dX9_dropped_1 ?_
  refine Z_iconst (v := 2) (by decide) dX9_dropped_2 ?_
  refine Z_callVI (as := [vi (-1), vi 2]) zRm_M zcv_X9_dropped_X9_accountOf_75 (ci := 13) rfl rfl rfl rfl (zle rfl) dX9_dropped_3 ⟨Nat.le_refl _, Nat.le_refl _⟩ h (fun x2 M1 h => ?_)
  refine Z_aload_n dX9_dropped_6 rfl 0 rfl ?_
  refine Z_iconst (v := (-1)) (by decide) dX9_dropped_7 ?_
  refine Z_iconst (v := 3) (by decide) dX9_dropped_8 ?_
  refine Z_callVI (as := [vi (-1), vi 3]) zRm_M zcv_X9_dropped_X9_accountOf_75 (ci := 13) rfl rfl rfl rfl (zle rfl) dX9_dropped_9 ⟨Nat.le_refl _, Nat.le_refl _⟩ h (fun x4 M3 h => ?_)
  refine Z_iadd dX9_dropped_12 ?_
  refine Z_aload_n dX9_dropped_13 rfl 0 rfl ?_
  refine Z_iconst (v := (-1)) (by decide) dX9_dropped_14 ?_
  refine Z_iconst (v := 4) (by decide) dX9_dropped_15 ?_
  refine Z_callVI (as := [vi (-1), vi 4]) zRm_M zcv_X9_dropped_X9_accountOf_75 (ci := 13) rfl rfl rfl rfl (zle rfl) dX9_dropped_16 ⟨Nat.le_refl _, Nat.le_refl _⟩ h (fun x6 M5 h => ?_)
  refine Z_iadd dX9_dropped_19 ?_
  exact Z_iret rfl rfl dX9_dropped_20 (Nat.le_refl _) (Nat.le_refl _) ⟨_, rfl, h⟩
-- X9_drops
set_option maxRecDepth 100000 in
set_option maxHeartbeats 4000000 in
theorem zm_X9_drops {l : Launch} {G : zG} {p1 : Int32} {p2 : Int32} {M : zM} {Kf : zM → Prop} (h : (zCalV l G Y_X9_counts 0 0 [vr 30 0, vi p1, vi p2, vi 1] M (fun M1 => (zCalV l G Y_X9_putsFlow 0 0 [vr 30 0, vi p1, vi 7, vi 1] M1 (fun M2 => (Kf M2)))))) : zCalV l G Y_X9_drops 0 0 [vr 30 0, vi p1, vi p2] M Kf := by
  refine zCal_of (lv := [(0, vr 30 0), (1, vi p1), (2, vi p2)]) (by decide) rfl (zle rfl) rfl (fun hv => zlv_args (lv := [(0, vr 30 0), (1, vi p1), (2, vi p2)]) rfl hv) ?_
  refine Z_aload_n dX9_drops_0 rfl 0 rfl ?_
  refine Z_iload_n dX9_drops_1 rfl 1 rfl ?_
  refine Z_iload_n dX9_drops_2 rfl 2 rfl ?_
  refine Z_iconst (v := 1) (by decide) dX9_drops_3 ?_
  refine Z_callVV (as := [vi p1, vi p2, vi 1]) zRm_M zcv_X9_drops_X9_counts_103 (ci := 13) rfl rfl rfl rfl (zle rfl) dX9_drops_4 ⟨Nat.le_refl _, Nat.le_refl _⟩ h (fun M1 h => ?_)
  refine Z_aload_n dX9_drops_7 rfl 0 rfl ?_
  refine Z_iload_n dX9_drops_8 rfl 1 rfl ?_
  refine Z_bipush (v := 7) (by decide) dX9_drops_9 ?_
  refine Z_iconst (v := 1) (by decide) dX9_drops_11 ?_
  refine Z_callVV (as := [vi p1, vi 7, vi 1]) zRm_M zcv_X9_drops_X9_putsFlow_71 (ci := 13) rfl rfl rfl rfl (zle rfl) dX9_drops_12 ⟨Nat.le_refl _, Nat.le_refl _⟩ h (fun M2 h => ?_)
  exact Z_vret rfl dX9_drops_15 (Nat.le_refl _) (Nat.le_refl _) ⟨rfl, h⟩
-- X9_fairness
set_option maxRecDepth 100000 in
set_option maxHeartbeats 4000000 in
theorem zm_X9_fairness {l : Launch} {G : zG} {M : zM} {Kf : UInt64 → zM → Prop} (h : (zCalI l G Y_X9_accountOf 0 0 [vr 30 0, vi (-1), vi 5] (zsI M 30 0 7 0) (fun x2 M1 => ((¬ (lg_cmp ((x2 : Int32).toInt64) 0) = 0 → zAt l G Y_X9_fairness (zED G Y_X9_fairness Kf) 26 [(0, vr 30 0), (1, vl (x2 : Int32).toInt64), (3, vl 0), (5, vi 0)] [] M1 0 0) ∧ ((lg_cmp ((x2 : Int32).toInt64) 0) = 0 → (Kf FP.dconst1 M1)))))) : zCalD l G Y_X9_fairness 0 0 [vr 30 0] M Kf := by
  refine zCal_of (lv := [(0, vr 30 0)]) (by decide) rfl (zle rfl) rfl (fun hv => zlv_args (lv := [(0, vr 30 0)]) rfl hv) ?_
  refine Z_aload_n dX9_fairness_0 rfl 0 rfl ?_
  refine Z_iconst (v := 0) (by decide) dX9_fairness_1 ?_
  refine Z_putI zfp_X9_60 rfl rfl dX9_fairness_2 ?_
  refine Z_aload_n dX9_fairness_5 rfl 0 rfl ?_
  refine Z_iconst (v := (-1)) (by decide) dX9_fairness_6 ?_
  refine Z_iconst (v := 5) (by decide) dX9_fairness_7 ?_
  refine Z_callVI (as := [vi (-1), vi 5]) zRm_M zcv_X9_fairness_X9_accountOf_75 (ci := 13) rfl rfl rfl rfl (zle rfl) dX9_fairness_8 ⟨Nat.le_refl _, Nat.le_refl _⟩ h (fun x2 M1 h => ?_)
  refine Z_i2l dX9_fairness_11 ?_
  refine Z_lstore_n (lv2 := [(1, vl (x2 : Int32).toInt64), (0, vr 30 0)]) dX9_fairness_12 rfl (by decide) rfl ?_
  refine Z_lload_n dX9_fairness_13 rfl 0 rfl ?_
  refine Z_lconst (v := 0) (by decide) dX9_fairness_14 ?_
  refine Z_lcmp dX9_fairness_15 ?_
  refine Z_if_ne (tgt := 21) dX9_fairness_16 (by decide) (fun q => ?_) (fun q => ?_)
  · have h := h.1 q
    refine Z_lconst (v := 0) (by decide) dX9_fairness_21 ?_
    refine Z_lstore_n (lv2 := [(3, vl 0), (1, vl (x2 : Int32).toInt64), (0, vr 30 0)]) dX9_fairness_22 rfl (by decide) rfl ?_
    refine Z_iconst (v := 0) (by decide) dX9_fairness_23 ?_
    refine Z_istore (lv2 := [(5, vi 0), (3, vl 0), (1, vl (x2 : Int32).toInt64), (0, vr 30 0)]) dX9_fairness_24 (by decide) rfl ?_
    exact Z_pick [3, 2, 1, 0] rfl h
  · have h := h.2 q
    refine Z_dconst1 dX9_fairness_19 ?_
    exact Z_dret rfl dX9_fairness_20 (Nat.le_refl _) (Nat.le_refl _) ⟨_, rfl, h⟩
set_option maxRecDepth 100000 in
set_option maxHeartbeats 4000000 in
theorem zb_X9_fairness_26 {l : Launch} {G : zG} {y1 : Int64} {y3 : Int64} {y5 : Int32} {M : zM} {Kf : UInt64 → zM → Prop} (h : (((zmI M 31 0 11) ≤ y5 → (vf_n64 (FP.ddiv (FP.l2d (y1 * y1)) (FP.l2d ((((zmI M 31 0 11) : Int32).toInt64) * y3))) ∧ (Kf (FP.ddiv (FP.l2d (y1 * y1)) (FP.l2d ((((zmI M 31 0 11) : Int32).toInt64) * y3))) M))) ∧ (¬ (zmI M 31 0 11) ≤ y5 → (zCalI l G Y_X9_accountOf 0 0 [vr 30 0, vi y5, vi 5] M (fun x5 M4 => (zCalI l G Y_X9_accountOf 0 0 [vr 30 0, vi y5, vi 5] M4 (fun x7 M6 => zAt l G Y_X9_fairness (zED G Y_X9_fairness Kf) 26 [(0, vr 30 0), (1, vl y1), (3, vl (y3 + (((x5 : Int32).toInt64) * ((x7 : Int32).toInt64)))), (5, vi (y5 + 1))] [] M6 0 0))))))) : zAt l G Y_X9_fairness (zED G Y_X9_fairness Kf) 26 [(0, vr 30 0), (1, vl y1), (3, vl y3), (5, vi y5)] [] M 0 0 := by
  refine Z_iload dX9_fairness_26 3 rfl ?_
  refine Z_aload_n dX9_fairness_28 rfl 0 rfl ?_
  refine Z_getR (s1 := 31) (i1 := 0) zfl_X9_9 rfl (fun q => by first | exact q | decide) dX9_fairness_29 ?_
  refine Z_bipush (v := 11) (by decide) dX9_fairness_32 ?_
  refine Z_ialdK (n := 484) (j := 11) rfl (by decide) (zvin (by decide)) dX9_fairness_34 ?_
  refine Z_icmp_ge (tgt := 64) dX9_fairness_35 (by decide) (fun q => ?_) (fun q => ?_)
  · have h := h.1 q
    refine Z_lload_n dX9_fairness_64 rfl 1 rfl ?_
    refine Z_lload_n dX9_fairness_65 rfl 1 rfl ?_
    refine Z_lmul dX9_fairness_66 ?_
    refine Z_l2d dX9_fairness_67 ?_
    refine Z_aload_n dX9_fairness_68 rfl 0 rfl ?_
    refine Z_getR (s1 := 31) (i1 := 0) zfl_X9_9 rfl (fun q => by first | exact q | decide) dX9_fairness_69 ?_
    refine Z_bipush (v := 11) (by decide) dX9_fairness_72 ?_
    refine Z_ialdK (n := 484) (j := 11) rfl (by decide) (zvin (by decide)) dX9_fairness_74 ?_
    refine Z_i2l dX9_fairness_75 ?_
    refine Z_lload_n dX9_fairness_76 rfl 2 rfl ?_
    refine Z_lmul dX9_fairness_77 ?_
    refine Z_l2d dX9_fairness_78 ?_
    obtain ⟨g3, h⟩ := h
    refine Z_ddiv dX9_fairness_79 g3 ?_
    exact Z_dret rfl dX9_fairness_80 (Nat.le_refl _) (Nat.le_refl _) ⟨_, rfl, h⟩
  · have h := h.2 q
    refine Z_lload_n dX9_fairness_38 rfl 2 rfl ?_
    refine Z_aload_n dX9_fairness_39 rfl 0 rfl ?_
    refine Z_iload dX9_fairness_40 3 rfl ?_
    refine Z_iconst (v := 5) (by decide) dX9_fairness_42 ?_
    refine Z_callVI (as := [vi y5, vi 5]) zRm_M zcv_X9_fairness_X9_accountOf_75 (ci := 13) rfl rfl rfl rfl (zle rfl) dX9_fairness_43 ⟨Nat.le_refl _, Nat.le_refl _⟩ h (fun x5 M4 h => ?_)
    refine Z_i2l dX9_fairness_46 ?_
    refine Z_aload_n dX9_fairness_47 rfl 0 rfl ?_
    refine Z_iload dX9_fairness_48 3 rfl ?_
    refine Z_iconst (v := 5) (by decide) dX9_fairness_50 ?_
    refine Z_callVI (as := [vi y5, vi 5]) zRm_M zcv_X9_fairness_X9_accountOf_75 (ci := 13) rfl rfl rfl rfl (zle rfl) dX9_fairness_51 ⟨Nat.le_refl _, Nat.le_refl _⟩ h (fun x7 M6 h => ?_)
    refine Z_i2l dX9_fairness_54 ?_
    refine Z_lmul dX9_fairness_55 ?_
    refine Z_ladd dX9_fairness_56 ?_
    refine Z_lstore_n (lv2 := [(3, vl (y3 + (((x5 : Int32).toInt64) * ((x7 : Int32).toInt64)))), (0, vr 30 0), (1, vl y1), (5, vi y5)]) dX9_fairness_57 rfl (by decide) rfl ?_
    refine Z_iinc (v := (y5 + 1)) (lv2 := [(5, vi (y5 + 1)), (3, vl (y3 + (((x5 : Int32).toInt64) * ((x7 : Int32).toInt64)))), (0, vr 30 0), (1, vl y1)]) dX9_fairness_58 3 rfl rfl (by decide) rfl ?_
    refine Z_goto (tgt := 26) dX9_fairness_61 (by decide) ?_
    exact Z_pick [2, 3, 1, 0] rfl h
-- X9_feed
set_option maxRecDepth 100000 in
set_option maxHeartbeats 4000000 in
theorem zm_X9_feed {l : Launch} {G : zG} {p1 : Int32} {p2 : Int32} {p3 : Int32} {p4 : Int32} {p5 : Int32} {M : zM} {Kf : Int32 → zM → Prop} (h : (zCalI l G Y_X9_bytesIn 0 0 [vi p1] (zsI M 30 0 7 0) (fun x2 M1 => (zCalI l G Y_X9_bytesIn 0 0 [vi p2] M1 (fun x4 M3 => (zCalI l G Y_X9_bytesIn 0 0 [vi p3] M3 (fun x6 M5 => (zCalI l G Y_X9_bytesIn 0 0 [vi p4] M5 (fun x8 M7 => (zCalI l G Y_X9_bytesIn 0 0 [vi p5] M7 (fun x10 M9 => ((((((((zmI (zsI M 30 0 7 0) 30 0 10) + x2) + x4) + x6) + x8) + x10) ≤ 500 → (zCalV l G Y_X9_feeds 0 0 [vr 30 0, vi p1] M9 (fun M11 => (zCalV l G Y_X9_feeds 0 0 [vr 30 0, vi p2] M11 (fun M12 => (zCalV l G Y_X9_feeds 0 0 [vr 30 0, vi p3] M12 (fun M13 => (zCalV l G Y_X9_feeds 0 0 [vr 30 0, vi p4] M13 (fun M14 => (zCalV l G Y_X9_feeds 0 0 [vr 30 0, vi p5] M14 (fun M15 => (Kf (zmI M15 30 0 10) M15)))))))))))) ∧ (¬ ((((((zmI (zsI M 30 0 7 0) 30 0 10) + x2) + x4) + x6) + x8) + x10) ≤ 500 → (Kf (-1) M9)))))))))))))) : zCalI l G Y_X9_feed 0 0 [vr 30 0, vi p1, vi p2, vi p3, vi p4, vi p5] M Kf := by
  refine zCal_of (lv := [(0, vr 30 0), (1, vi p1), (2, vi p2), (3, vi p3), (4, vi p4), (5, vi p5)]) (by decide) rfl (zle rfl) rfl (fun hv => zlv_args (lv := [(0, vr 30 0), (1, vi p1), (2, vi p2), (3, vi p3), (4, vi p4), (5, vi p5)]) rfl hv) ?_
  refine Z_aload_n dX9_feed_0 rfl 0 rfl ?_
  refine Z_iconst (v := 0) (by decide) dX9_feed_1 ?_
  refine Z_putI zfp_X9_60 rfl rfl dX9_feed_2 ?_
  refine Z_aload_n dX9_feed_5 rfl 0 rfl ?_
  refine Z_getI zfl_X9_179 dX9_feed_6 ?_
  refine Z_iload_n dX9_feed_9 rfl 1 rfl ?_
  refine Z_callSI (as := [vi p1]) zRm_M zcs_X9_feed_X9_bytesIn_182 rfl rfl (zle rfl) dX9_feed_10 ⟨Nat.le_refl _, Nat.le_refl _⟩ h (fun x2 M1 h => ?_)
  refine Z_iadd dX9_feed_13 ?_
  refine Z_iload_n dX9_feed_14 rfl 2 rfl ?_
  refine Z_callSI (as := [vi p2]) zRm_M zcs_X9_feed_X9_bytesIn_182 rfl rfl (zle rfl) dX9_feed_15 ⟨Nat.le_refl _, Nat.le_refl _⟩ h (fun x4 M3 h => ?_)
  refine Z_iadd dX9_feed_18 ?_
  refine Z_iload_n dX9_feed_19 rfl 3 rfl ?_
  refine Z_callSI (as := [vi p3]) zRm_M zcs_X9_feed_X9_bytesIn_182 rfl rfl (zle rfl) dX9_feed_20 ⟨Nat.le_refl _, Nat.le_refl _⟩ h (fun x6 M5 h => ?_)
  refine Z_iadd dX9_feed_23 ?_
  refine Z_iload dX9_feed_24 4 rfl ?_
  refine Z_callSI (as := [vi p4]) zRm_M zcs_X9_feed_X9_bytesIn_182 rfl rfl (zle rfl) dX9_feed_26 ⟨Nat.le_refl _, Nat.le_refl _⟩ h (fun x8 M7 h => ?_)
  refine Z_iadd dX9_feed_29 ?_
  refine Z_iload dX9_feed_30 5 rfl ?_
  refine Z_callSI (as := [vi p5]) zRm_M zcs_X9_feed_X9_bytesIn_182 rfl rfl (zle rfl) dX9_feed_32 ⟨Nat.le_refl _, Nat.le_refl _⟩ h (fun x10 M9 h => ?_)
  refine Z_iadd dX9_feed_35 ?_
  refine Z_sipush (v := 500) (by decide) dX9_feed_36 ?_
  refine Z_icmp_le (tgt := 44) dX9_feed_39 (by decide) (fun q => ?_) (fun q => ?_)
  · have h := h.1 q
    refine Z_aload_n dX9_feed_44 rfl 0 rfl ?_
    refine Z_iload_n dX9_feed_45 rfl 1 rfl ?_
    refine Z_callVV (as := [vi p1]) zRm_M zcv_X9_feed_X9_feeds_185 (ci := 13) rfl rfl rfl rfl (zle rfl) dX9_feed_46 ⟨Nat.le_refl _, Nat.le_refl _⟩ h (fun M11 h => ?_)
    refine Z_aload_n dX9_feed_49 rfl 0 rfl ?_
    refine Z_iload_n dX9_feed_50 rfl 2 rfl ?_
    refine Z_callVV (as := [vi p2]) zRm_M zcv_X9_feed_X9_feeds_185 (ci := 13) rfl rfl rfl rfl (zle rfl) dX9_feed_51 ⟨Nat.le_refl _, Nat.le_refl _⟩ h (fun M12 h => ?_)
    refine Z_aload_n dX9_feed_54 rfl 0 rfl ?_
    refine Z_iload_n dX9_feed_55 rfl 3 rfl ?_
    refine Z_callVV (as := [vi p3]) zRm_M zcv_X9_feed_X9_feeds_185 (ci := 13) rfl rfl rfl rfl (zle rfl) dX9_feed_56 ⟨Nat.le_refl _, Nat.le_refl _⟩ h (fun M13 h => ?_)
    refine Z_aload_n dX9_feed_59 rfl 0 rfl ?_
    refine Z_iload dX9_feed_60 4 rfl ?_
    refine Z_callVV (as := [vi p4]) zRm_M zcv_X9_feed_X9_feeds_185 (ci := 13) rfl rfl rfl rfl (zle rfl) dX9_feed_62 ⟨Nat.le_refl _, Nat.le_refl _⟩ h (fun M14 h => ?_)
    refine Z_aload_n dX9_feed_65 rfl 0 rfl ?_
    refine Z_iload dX9_feed_66 5 rfl ?_
    refine Z_callVV (as := [vi p5]) zRm_M zcv_X9_feed_X9_feeds_185 (ci := 13) rfl rfl rfl rfl (zle rfl) dX9_feed_68 ⟨Nat.le_refl _, Nat.le_refl _⟩ h (fun M15 h => ?_)
    refine Z_aload_n dX9_feed_71 rfl 0 rfl ?_
    refine Z_getI zfl_X9_179 dX9_feed_72 ?_
    exact Z_iret rfl rfl dX9_feed_75 (Nat.le_refl _) (Nat.le_refl _) ⟨_, rfl, h⟩
  · have h := h.2 q
    refine Z_iconst (v := (-1)) (by decide) dX9_feed_42 ?_
    exact Z_iret rfl rfl dX9_feed_43 (Nat.le_refl _) (Nat.le_refl _) ⟨_, rfl, h⟩
-- X9_found
set_option maxRecDepth 100000 in
set_option maxHeartbeats 4000000 in
theorem zm_X9_found {l : Launch} {G : zG} {M : zM} {Kf : Int32 → zM → Prop} (h : zAt l G Y_X9_found (zEI G Y_X9_found Kf) 2 [(0, vr 30 0), (1, vi 0)] [] M 0 0) : zCalI l G Y_X9_found 0 0 [vr 30 0] M Kf := by
  refine zCal_of (lv := [(0, vr 30 0)]) (by decide) rfl (zle rfl) rfl (fun hv => zlv_args (lv := [(0, vr 30 0)]) rfl hv) ?_
  refine Z_iconst (v := 0) (by decide) dX9_found_0 ?_
  refine Z_istore_n (lv2 := [(1, vi 0), (0, vr 30 0)]) dX9_found_1 rfl (by decide) rfl ?_
  exact Z_pick [1, 0] rfl h
set_option maxRecDepth 100000 in
set_option maxHeartbeats 4000000 in
theorem zb_X9_found_2 {l : Launch} {G : zG} {y1 : Int32} {M : zM} {Kf : Int32 → zM → Prop} (h : (((zmI M 31 0 11) ≤ y1 → (Kf (-1) M)) ∧ (¬ (zmI M 31 0 11) ≤ y1 → (zCalI l G Y_X9_isName 0 0 [vr 30 0, vi y1] M (fun x3 M2 => ((x3 = 0 → zAt l G Y_X9_found (zEI G Y_X9_found Kf) 2 [(0, vr 30 0), (1, vi (y1 + 1))] [] M2 0 0) ∧ (¬ x3 = 0 → (Kf y1 M2)))))))) : zAt l G Y_X9_found (zEI G Y_X9_found Kf) 2 [(0, vr 30 0), (1, vi y1)] [] M 0 0 := by
  refine Z_iload_n dX9_found_2 rfl 1 rfl ?_
  refine Z_aload_n dX9_found_3 rfl 0 rfl ?_
  refine Z_getR (s1 := 31) (i1 := 0) zfl_X9_9 rfl (fun q => by first | exact q | decide) dX9_found_4 ?_
  refine Z_bipush (v := 11) (by decide) dX9_found_7 ?_
  refine Z_ialdK (n := 484) (j := 11) rfl (by decide) (zvin (by decide)) dX9_found_9 ?_
  refine Z_icmp_ge (tgt := 29) dX9_found_10 (by decide) (fun q => ?_) (fun q => ?_)
  · have h := h.1 q
    refine Z_iconst (v := (-1)) (by decide) dX9_found_29 ?_
    exact Z_iret rfl rfl dX9_found_30 (Nat.le_refl _) (Nat.le_refl _) ⟨_, rfl, h⟩
  · have h := h.2 q
    refine Z_aload_n dX9_found_13 rfl 0 rfl ?_
    refine Z_iload_n dX9_found_14 rfl 1 rfl ?_
    refine Z_callVI (as := [vi y1]) zRm_M zcv_X9_found_X9_isName_236 (ci := 13) rfl rfl rfl rfl (zle rfl) dX9_found_15 ⟨Nat.le_refl _, Nat.le_refl _⟩ h (fun x3 M2 h => ?_)
    refine Z_if_eq (tgt := 23) dX9_found_18 (by decide) (fun q => ?_) (fun q => ?_)
    · have h := h.1 q
      refine Z_iinc (v := (y1 + 1)) (lv2 := [(1, vi (y1 + 1)), (0, vr 30 0)]) dX9_found_23 1 rfl rfl (by decide) rfl ?_
      refine Z_goto (tgt := 2) dX9_found_26 (by decide) ?_
      exact Z_pick [1, 0] rfl h
    · have h := h.2 q
      refine Z_iload_n dX9_found_21 rfl 1 rfl ?_
      exact Z_iret rfl rfl dX9_found_22 (Nat.le_refl _) (Nat.le_refl _) ⟨_, rfl, h⟩
-- X9_howOf
set_option maxRecDepth 100000 in
set_option maxHeartbeats 4000000 in
theorem zm_X9_howOf {l : Launch} {G : zG} {p1 : Int32} {p2 : Int32} {M : zM} {Kf : Int32 → zM → Prop} (h : ((¬ p2 = (zmI M 31 0 0) → (zCalI l G Y_X9_low 0 0 [vr 30 0] M (fun x3 M2 => ((x3 ≤ p1 → (zCalI l G Y_X9_endOfChance 0 0 [vr 30 0] M2 (fun x5 M4 => ((p1 < x5 → (Kf 3 M4)) ∧ (¬ p1 < x5 → (Kf 2 M4)))))) ∧ (¬ x3 ≤ p1 → (Kf 1 M2)))))) ∧ (p2 = (zmI M 31 0 0) → (Kf 0 M)))) : zCalI l G Y_X9_howOf 0 0 [vr 30 0, vi p1, vi p2] M Kf := by
  refine zCal_of (lv := [(0, vr 30 0), (1, vi p1), (2, vi p2)]) (by decide) rfl (zle rfl) rfl (fun hv => zlv_args (lv := [(0, vr 30 0), (1, vi p1), (2, vi p2)]) rfl hv) ?_
  refine Z_iload_n dX9_howOf_0 rfl 2 rfl ?_
  refine Z_aload_n dX9_howOf_1 rfl 0 rfl ?_
  refine Z_getR (s1 := 31) (i1 := 0) zfl_X9_9 rfl (fun q => by first | exact q | decide) dX9_howOf_2 ?_
  refine Z_iconst (v := 0) (by decide) dX9_howOf_5 ?_
  refine Z_ialdK (n := 484) (j := 0) rfl (by decide) (zvin (by decide)) dX9_howOf_6 ?_
  refine Z_icmp_ne (tgt := 12) dX9_howOf_7 (by decide) (fun q => ?_) (fun q => ?_)
  · have h := h.1 q
    refine Z_iload_n dX9_howOf_12 rfl 1 rfl ?_
    refine Z_aload_n dX9_howOf_13 rfl 0 rfl ?_
    refine Z_callVI (as := []) zRm_M zcv_X9_howOf_X9_low_82 (ci := 13) rfl rfl rfl rfl (zle rfl) dX9_howOf_14 ⟨Nat.le_refl _, Nat.le_refl _⟩ h (fun x3 M2 h => ?_)
    refine Z_icmp_ge (tgt := 24) dX9_howOf_17 (by decide) (fun q => ?_) (fun q => ?_)
    · have h := h.1 q
      refine Z_iload_n dX9_howOf_24 rfl 1 rfl ?_
      refine Z_aload_n dX9_howOf_25 rfl 0 rfl ?_
      refine Z_callVI (as := []) zRm_M zcv_X9_howOf_X9_endOfChance_85 (ci := 13) rfl rfl rfl rfl (zle rfl) dX9_howOf_26 ⟨Nat.le_refl _, Nat.le_refl _⟩ h (fun x5 M4 h => ?_)
      refine Z_icmp_lt (tgt := 36) dX9_howOf_29 (by decide) (fun q => ?_) (fun q => ?_)
      · have h := h.1 q
        refine Z_iconst (v := 3) (by decide) dX9_howOf_36 ?_
        exact Z_iret rfl rfl dX9_howOf_37 (Nat.le_refl _) (Nat.le_refl _) ⟨_, rfl, h⟩
      · have h := h.2 q
        refine Z_iconst (v := 2) (by decide) dX9_howOf_32 ?_
        refine Z_goto (tgt := 37) dX9_howOf_33 (by decide) ?_
        exact Z_iret rfl rfl dX9_howOf_37 (Nat.le_refl _) (Nat.le_refl _) ⟨_, rfl, h⟩
    · have h := h.2 q
      refine Z_iconst (v := 1) (by decide) dX9_howOf_20 ?_
      refine Z_goto (tgt := 37) dX9_howOf_21 (by decide) ?_
      exact Z_iret rfl rfl dX9_howOf_37 (Nat.le_refl _) (Nat.le_refl _) ⟨_, rfl, h⟩
  · have h := h.2 q
    refine Z_iconst (v := 0) (by decide) dX9_howOf_10 ?_
    exact Z_iret rfl rfl dX9_howOf_11 (Nat.le_refl _) (Nat.le_refl _) ⟨_, rfl, h⟩
-- X9_leaves
set_option maxRecDepth 100000 in
set_option maxHeartbeats 4000000 in
theorem zm_X9_leaves {l : Launch} {G : zG} {p1 : Int32} {M : zM} {Kf : zM → Prop} (h : (zCalI l G Y_X9_ofPacket 0 0 [vr 30 0, vi p1, vi 0] M (fun x2 M1 => (zCalV l G Y_X9_counts 0 0 [vr 30 0, vi x2, vi 5, vi 1] M1 (fun M3 => (zCalI l G Y_X9_ofPacket 0 0 [vr 30 0, vi p1, vi 2] M3 (fun x5 M4 => (zCalV l G Y_X9_counts 0 0 [vr 30 0, vi x2, vi 6, vi x5] M4 (fun M6 => (zCalI l G Y_X9_ofPacket 0 0 [vr 30 0, vi p1, vi 1] M6 (fun x9 M8 => (zCalV l G Y_X9_counts 0 0 [vr 30 0, vi x2, vi 7, vi ((zmI M6 31 0 7) - x9)] M8 (fun M10 => (Kf M10)))))))))))))) : zCalV l G Y_X9_leaves 0 0 [vr 30 0, vi p1] M Kf := by
  refine zCal_of (lv := [(0, vr 30 0), (1, vi p1)]) (by decide) rfl (zle rfl) rfl (fun hv => zlv_args (lv := [(0, vr 30 0), (1, vi p1)]) rfl hv) ?_
  refine Z_aload_n dX9_leaves_0 rfl 0 rfl ?_
  refine Z_iload_n dX9_leaves_1 rfl 1 rfl ?_
  refine Z_iconst (v := 0) (by decide) dX9_leaves_2 ?_
  refine Z_callVI (as := [vi p1, vi 0]) zRm_M zcv_X9_leaves_X9_ofPacket_159 (ci := 13) rfl rfl rfl rfl (zle rfl) dX9_leaves_3 ⟨Nat.le_refl _, Nat.le_refl _⟩ h (fun x2 M1 h => ?_)
  refine Z_istore_n (lv2 := [(2, vi x2), (0, vr 30 0), (1, vi p1)]) dX9_leaves_6 rfl (by decide) rfl ?_
  refine Z_aload_n dX9_leaves_7 rfl 1 rfl ?_
  refine Z_iload_n dX9_leaves_8 rfl 0 rfl ?_
  refine Z_iconst (v := 5) (by decide) dX9_leaves_9 ?_
  refine Z_iconst (v := 1) (by decide) dX9_leaves_10 ?_
  refine Z_callVV (as := [vi x2, vi 5, vi 1]) zRm_M zcv_X9_leaves_X9_counts_103 (ci := 13) rfl rfl rfl rfl (zle rfl) dX9_leaves_11 ⟨Nat.le_refl _, Nat.le_refl _⟩ h (fun M3 h => ?_)
  refine Z_aload_n dX9_leaves_14 rfl 1 rfl ?_
  refine Z_iload_n dX9_leaves_15 rfl 0 rfl ?_
  refine Z_bipush (v := 6) (by decide) dX9_leaves_16 ?_
  refine Z_aload_n dX9_leaves_18 rfl 1 rfl ?_
  refine Z_iload_n dX9_leaves_19 rfl 2 rfl ?_
  refine Z_iconst (v := 2) (by decide) dX9_leaves_20 ?_
  refine Z_callVI (as := [vi p1, vi 2]) zRm_M zcv_X9_leaves_X9_ofPacket_159 (ci := 13) rfl rfl rfl rfl (zle rfl) dX9_leaves_21 ⟨Nat.le_refl _, Nat.le_refl _⟩ h (fun x5 M4 h => ?_)
  refine Z_callVV (as := [vi x2, vi 6, vi x5]) zRm_M zcv_X9_leaves_X9_counts_103 (ci := 13) rfl rfl rfl rfl (zle rfl) dX9_leaves_24 ⟨Nat.le_refl _, Nat.le_refl _⟩ h (fun M6 h => ?_)
  refine Z_aload_n dX9_leaves_27 rfl 1 rfl ?_
  refine Z_iload_n dX9_leaves_28 rfl 0 rfl ?_
  refine Z_bipush (v := 7) (by decide) dX9_leaves_29 ?_
  refine Z_aload_n dX9_leaves_31 rfl 1 rfl ?_
  refine Z_getR (s1 := 31) (i1 := 0) zfl_X9_9 rfl (fun q => by first | exact q | decide) dX9_leaves_32 ?_
  refine Z_bipush (v := 7) (by decide) dX9_leaves_35 ?_
  refine Z_ialdK (n := 484) (j := 7) rfl (by decide) (zvin (by decide)) dX9_leaves_37 ?_
  refine Z_aload_n dX9_leaves_38 rfl 1 rfl ?_
  refine Z_iload_n dX9_leaves_39 rfl 2 rfl ?_
  refine Z_iconst (v := 1) (by decide) dX9_leaves_40 ?_
  refine Z_callVI (as := [vi p1, vi 1]) zRm_M zcv_X9_leaves_X9_ofPacket_159 (ci := 13) rfl rfl rfl rfl (zle rfl) dX9_leaves_41 ⟨Nat.le_refl _, Nat.le_refl _⟩ h (fun x9 M8 h => ?_)
  refine Z_isub dX9_leaves_44 ?_
  refine Z_callVV (as := [vi x2, vi 7, vi ((zmI M6 31 0 7) - x9)]) zRm_M zcv_X9_leaves_X9_counts_103 (ci := 13) rfl rfl rfl rfl (zle rfl) dX9_leaves_45 ⟨Nat.le_refl _, Nat.le_refl _⟩ h (fun M10 h => ?_)
  exact Z_vret rfl dX9_leaves_48 (Nat.le_refl _) (Nat.le_refl _) ⟨rfl, h⟩
-- X9_noFlow
set_option maxRecDepth 100000 in
set_option maxHeartbeats 4000000 in
theorem zm_X9_noFlow {l : Launch} {G : zG} {p1 : Int32} {M : zM} {Kf : Int32 → zM → Prop} (h : (zCalI l G Y_X9_isFlow 0 0 [vr 30 0, vi p1] M (fun x2 M1 => ((¬ x2 = 0 → zAt l G Y_X9_noFlow (zEI G Y_X9_noFlow Kf) 14 [] [vi 0, vr 30 0] M1 0 0) ∧ (x2 = 0 → zAt l G Y_X9_noFlow (zEI G Y_X9_noFlow Kf) 14 [] [vi 1, vr 30 0] M1 0 0))))) : zCalI l G Y_X9_noFlow 0 0 [vr 30 0, vi p1] M Kf := by
  refine zCal_of (lv := [(0, vr 30 0), (1, vi p1)]) (by decide) rfl (zle rfl) rfl (fun hv => zlv_args (lv := [(0, vr 30 0), (1, vi p1)]) rfl hv) ?_
  refine Z_aload_n dX9_noFlow_0 rfl 0 rfl ?_
  refine Z_aload_n dX9_noFlow_1 rfl 0 rfl ?_
  refine Z_iload_n dX9_noFlow_2 rfl 1 rfl ?_
  refine Z_callVI (as := [vi p1]) zRm_M zcv_X9_noFlow_X9_isFlow_372 (ci := 13) rfl rfl rfl rfl (zle rfl) dX9_noFlow_3 ⟨Nat.le_refl _, Nat.le_refl _⟩ h (fun x2 M1 h => ?_)
  refine Z_if_ne (tgt := 13) dX9_noFlow_6 (by decide) (fun q => ?_) (fun q => ?_)
  · have h := h.1 q
    refine Z_iconst (v := 0) (by decide) dX9_noFlow_13 ?_
    exact Z_pick [] rfl h
  · have h := h.2 q
    refine Z_iconst (v := 1) (by decide) dX9_noFlow_9 ?_
    refine Z_goto (tgt := 14) dX9_noFlow_10 (by decide) ?_
    exact Z_pick [] rfl h
set_option maxRecDepth 100000 in
set_option maxHeartbeats 4000000 in
theorem zb_X9_noFlow_14 {l : Launch} {G : zG} {s0 : Int32} {M : zM} {Kf : Int32 → zM → Prop} (h : (zCalI l G Y_X9_fails 0 0 [vr 30 0, vi s0, vi 1] M (fun x2 M1 => (zbit x2 ∧ Kf x2 M1)))) : zAt l G Y_X9_noFlow (zEI G Y_X9_noFlow Kf) 14 [] [vi s0, vr 30 0] M 0 0 := by
  refine Z_iconst (v := 1) (by decide) dX9_noFlow_14 ?_
  refine Z_callVI (as := [vi s0, vi 1]) zRm_M zcv_X9_noFlow_X9_fails_366 (ci := 13) rfl rfl rfl rfl (zle rfl) dX9_noFlow_15 ⟨Nat.le_refl _, Nat.le_refl _⟩ h (fun x2 M1 h => ?_)
  obtain ⟨hz, h⟩ := h
  exact Z_iret rfl (zbit_n hz) dX9_noFlow_18 (Nat.le_refl _) (Nat.le_refl _) ⟨_, rfl, h⟩
-- X9_noFlows
set_option maxRecDepth 100000 in
set_option maxHeartbeats 4000000 in
theorem zm_X9_noFlows {l : Launch} {G : zG} {p1 : Int32} {M : zM} {Kf : Int32 → zM → Prop} (h : ((p1 = (-1) → zAt l G Y_X9_noFlows (zEI G Y_X9_noFlows Kf) 18 [] [vr 30 0] M 0 0) ∧ (¬ p1 = (-1) → (zCalI l G Y_X9_isFlow 0 0 [vr 30 0, vi p1] M (fun x2 M1 => ((¬ x2 = 0 → zAt l G Y_X9_noFlows (zEI G Y_X9_noFlows Kf) 18 [] [vr 30 0] M1 0 0) ∧ (x2 = 0 → zAt l G Y_X9_noFlows (zEI G Y_X9_noFlows Kf) 19 [] [vi 1, vr 30 0] M1 0 0))))))) : zCalI l G Y_X9_noFlows 0 0 [vr 30 0, vi p1] M Kf := by
  refine zCal_of (lv := [(0, vr 30 0), (1, vi p1)]) (by decide) rfl (zle rfl) rfl (fun hv => zlv_args (lv := [(0, vr 30 0), (1, vi p1)]) rfl hv) ?_
  refine Z_aload_n dX9_noFlows_0 rfl 0 rfl ?_
  refine Z_iload_n dX9_noFlows_1 rfl 1 rfl ?_
  refine Z_iconst (v := (-1)) (by decide) dX9_noFlows_2 ?_
  refine Z_icmp_eq (tgt := 18) dX9_noFlows_3 (by decide) (fun q => ?_) (fun q => ?_)
  · have h := h.1 q
    exact Z_pick [] rfl h
  · have h := h.2 q
    refine Z_aload_n dX9_noFlows_6 rfl 0 rfl ?_
    refine Z_iload_n dX9_noFlows_7 rfl 1 rfl ?_
    refine Z_callVI (as := [vi p1]) zRm_M zcv_X9_noFlows_X9_isFlow_372 (ci := 13) rfl rfl rfl rfl (zle rfl) dX9_noFlows_8 ⟨Nat.le_refl _, Nat.le_refl _⟩ h (fun x2 M1 h => ?_)
    refine Z_if_ne (tgt := 18) dX9_noFlows_11 (by decide) (fun q => ?_) (fun q => ?_)
    · have h := h.1 q
      exact Z_pick [] rfl h
    · have h := h.2 q
      refine Z_iconst (v := 1) (by decide) dX9_noFlows_14 ?_
      refine Z_goto (tgt := 19) dX9_noFlows_15 (by decide) ?_
      exact Z_pick [] rfl h
set_option maxRecDepth 100000 in
set_option maxHeartbeats 4000000 in
theorem zb_X9_noFlows_18 {l : Launch} {G : zG}  {M : zM} {Kf : Int32 → zM → Prop} (h : zAt l G Y_X9_noFlows (zEI G Y_X9_noFlows Kf) 19 [] [vi 0, vr 30 0] M 0 0) : zAt l G Y_X9_noFlows (zEI G Y_X9_noFlows Kf) 18 [] [vr 30 0] M 0 0 := by
  refine Z_iconst (v := 0) (by decide) dX9_noFlows_18 ?_
  exact h
set_option maxRecDepth 100000 in
set_option maxHeartbeats 4000000 in
theorem zb_X9_noFlows_19 {l : Launch} {G : zG} {s0 : Int32} {M : zM} {Kf : Int32 → zM → Prop} (h : (zCalI l G Y_X9_fails 0 0 [vr 30 0, vi s0, vi 1] M (fun x2 M1 => (zbit x2 ∧ Kf x2 M1)))) : zAt l G Y_X9_noFlows (zEI G Y_X9_noFlows Kf) 19 [] [vi s0, vr 30 0] M 0 0 := by
  refine Z_iconst (v := 1) (by decide) dX9_noFlows_19 ?_
  refine Z_callVI (as := [vi s0, vi 1]) zRm_M zcv_X9_noFlows_X9_fails_366 (ci := 13) rfl rfl rfl rfl (zle rfl) dX9_noFlows_20 ⟨Nat.le_refl _, Nat.le_refl _⟩ h (fun x2 M1 h => ?_)
  obtain ⟨hz, h⟩ := h
  exact Z_iret rfl (zbit_n hz) dX9_noFlows_23 (Nat.le_refl _) (Nat.le_refl _) ⟨_, rfl, h⟩
-- X9_recorded
set_option maxRecDepth 100000 in
set_option maxHeartbeats 4000000 in
theorem zm_X9_recorded {l : Launch} {G : zG} {p1 : Int32} {M : zM} {Kf : Int32 → zM → Prop} (h : ((p1 < 0 → (Kf p1 M)) ∧ (¬ p1 < 0 → (zCalV l G Y_X9_remembers 0 0 [vr 30 0, vr 33 0] M (fun M1 => (Kf p1 M1)))))) : zCalI l G Y_X9_recorded 0 0 [vr 30 0, vi p1] M Kf := by
  refine zCal_of (lv := [(0, vr 30 0), (1, vi p1)]) (by decide) rfl (zle rfl) rfl (fun hv => zlv_args (lv := [(0, vr 30 0), (1, vi p1)]) rfl hv) ?_
  refine Z_iload_n dX9_recorded_0 rfl 1 rfl ?_
  refine Z_if_lt (tgt := 12) dX9_recorded_1 (by decide) (fun q => ?_) (fun q => ?_)
  · have h := h.1 q
    refine Z_iload_n dX9_recorded_12 rfl 1 rfl ?_
    exact Z_iret rfl rfl dX9_recorded_13 (Nat.le_refl _) (Nat.le_refl _) ⟨_, rfl, h⟩
  · have h := h.2 q
    refine Z_aload_n dX9_recorded_4 rfl 0 rfl ?_
    refine Z_aload_n dX9_recorded_5 rfl 0 rfl ?_
    refine Z_getR (s1 := 33) (i1 := 0) zfl_X9_16 rfl (fun q => by first | exact q | decide) dX9_recorded_6 ?_
    refine Z_callVV (as := [vr 33 0]) zRm_M zcv_X9_recorded_X9_remembers_359 (ci := 13) rfl rfl rfl rfl (zle rfl) dX9_recorded_9 ⟨Nat.le_refl _, Nat.le_refl _⟩ h (fun M1 h => ?_)
    refine Z_iload_n dX9_recorded_12 rfl 1 rfl ?_
    exact Z_iret rfl rfl dX9_recorded_13 (Nat.le_refl _) (Nat.le_refl _) ⟨_, rfl, h⟩
-- X9_restore
set_option maxRecDepth 100000 in
set_option maxHeartbeats 4000000 in
theorem zm_X9_restore {l : Launch} {G : zG} {p1 : Int32} {M : zM} {Kf : Int32 → zM → Prop} (h : (zCalI l G Y_X9_noSlot 0 0 [vr 30 0, vi p1] (zsI M 30 0 7 0) (fun x2 M1 => ((x2 = 0 → (vp_in p1 2 ∧ ((¬ (zmI M1 36 0 p1.toNatClampNeg) = 0 → (zCalV l G Y_X9_lays 0 0 [vr 35 0, vi (484 * p1), vr 31 0, vi 0] M1 (fun M4 => (Kf (zmI (zsI M4 30 0 6 0) 31 0 7) (zsI M4 30 0 6 0))))) ∧ ((zmI M1 36 0 p1.toNatClampNeg) = 0 → (Kf (-1) M1))))) ∧ (¬ x2 = 0 → (Kf 0 M1)))))) : zCalI l G Y_X9_restore 0 0 [vr 30 0, vi p1] M Kf := by
  refine zCal_of (lv := [(0, vr 30 0), (1, vi p1)]) (by decide) rfl (zle rfl) rfl (fun hv => zlv_args (lv := [(0, vr 30 0), (1, vi p1)]) rfl hv) ?_
  refine Z_aload_n dX9_restore_0 rfl 0 rfl ?_
  refine Z_iconst (v := 0) (by decide) dX9_restore_1 ?_
  refine Z_putI zfp_X9_60 rfl rfl dX9_restore_2 ?_
  refine Z_aload_n dX9_restore_5 rfl 0 rfl ?_
  refine Z_iload_n dX9_restore_6 rfl 1 rfl ?_
  refine Z_callVI (as := [vi p1]) zRm_M zcv_X9_restore_X9_noSlot_444 (ci := 13) rfl rfl rfl rfl (zle rfl) dX9_restore_7 ⟨Nat.le_refl _, Nat.le_refl _⟩ h (fun x2 M1 h => ?_)
  refine Z_if_eq (tgt := 15) dX9_restore_10 (by decide) (fun q => ?_) (fun q => ?_)
  · have h := h.1 q
    refine Z_aload_n dX9_restore_15 rfl 0 rfl ?_
    refine Z_getR (s1 := 36) (i1 := 0) zfl_X9_25 rfl (fun q => by first | exact q | decide) dX9_restore_16 ?_
    refine Z_iload_n dX9_restore_19 rfl 1 rfl ?_
    obtain ⟨g3, h⟩ := h
    refine Z_zald (n := 2) rfl g3 dX9_restore_20 ?_
    refine Z_if_ne (tgt := 26) dX9_restore_21 (by decide) (fun q => ?_) (fun q => ?_)
    · have h := h.1 q
      refine Z_aload_n dX9_restore_26 rfl 0 rfl ?_
      refine Z_getR (s1 := 35) (i1 := 0) zfl_X9_22 rfl (fun q => by first | exact q | decide) dX9_restore_27 ?_
      refine Z_sipush (v := 484) (by decide) dX9_restore_30 ?_
      refine Z_iload_n dX9_restore_33 rfl 1 rfl ?_
      refine Z_imul dX9_restore_34 ?_
      refine Z_aload_n dX9_restore_35 rfl 0 rfl ?_
      refine Z_getR (s1 := 31) (i1 := 0) zfl_X9_9 rfl (fun q => by first | exact q | decide) dX9_restore_36 ?_
      refine Z_iconst (v := 0) (by decide) dX9_restore_39 ?_
      refine Z_callSV (as := [vr 35 0, vi (484 * p1), vr 31 0, vi 0]) zRm_M zcs_X9_restore_X9_lays_175 rfl rfl (zle rfl) dX9_restore_40 ⟨Nat.le_refl _, Nat.le_refl _⟩ h (fun M4 h => ?_)
      refine Z_aload_n dX9_restore_43 rfl 0 rfl ?_
      refine Z_iconst (v := 0) (by decide) dX9_restore_44 ?_
      refine Z_putI zfp_X9_298 rfl rfl dX9_restore_45 ?_
      refine Z_aload_n dX9_restore_48 rfl 0 rfl ?_
      refine Z_getR (s1 := 31) (i1 := 0) zfl_X9_9 rfl (fun q => by first | exact q | decide) dX9_restore_49 ?_
      refine Z_bipush (v := 7) (by decide) dX9_restore_52 ?_
      refine Z_ialdK (n := 484) (j := 7) rfl (by decide) (zvin (by decide)) dX9_restore_54 ?_
      exact Z_iret rfl rfl dX9_restore_55 (Nat.le_refl _) (Nat.le_refl _) ⟨_, rfl, h⟩
    · have h := h.2 q
      refine Z_iconst (v := (-1)) (by decide) dX9_restore_24 ?_
      exact Z_iret rfl rfl dX9_restore_25 (Nat.le_refl _) (Nat.le_refl _) ⟨_, rfl, h⟩
  · have h := h.2 q
    refine Z_iconst (v := 0) (by decide) dX9_restore_13 ?_
    exact Z_iret rfl rfl dX9_restore_14 (Nat.le_refl _) (Nat.le_refl _) ⟨_, rfl, h⟩
-- X9_save
set_option maxRecDepth 100000 in
set_option maxHeartbeats 4000000 in
theorem zm_X9_save {l : Launch} {G : zG} {p1 : Int32} {M : zM} {Kf : Int32 → zM → Prop} (h : (zCalI l G Y_X9_noSlot 0 0 [vr 30 0, vi p1] (zsI M 30 0 7 0) (fun x2 M1 => ((x2 = 0 → (zCalV l G Y_X9_lays 0 0 [vr 31 0, vi 0, vr 35 0, vi (484 * p1)] M1 (fun M3 => (vp_in p1 2 ∧ (Kf (zmI (zsI M3 36 0 p1.toNatClampNeg 1) 31 0 7) (zsI M3 36 0 p1.toNatClampNeg 1)))))) ∧ (¬ x2 = 0 → (Kf 0 M1)))))) : zCalI l G Y_X9_save 0 0 [vr 30 0, vi p1] M Kf := by
  refine zCal_of (lv := [(0, vr 30 0), (1, vi p1)]) (by decide) rfl (zle rfl) rfl (fun hv => zlv_args (lv := [(0, vr 30 0), (1, vi p1)]) rfl hv) ?_
  refine Z_aload_n dX9_save_0 rfl 0 rfl ?_
  refine Z_iconst (v := 0) (by decide) dX9_save_1 ?_
  refine Z_putI zfp_X9_60 rfl rfl dX9_save_2 ?_
  refine Z_aload_n dX9_save_5 rfl 0 rfl ?_
  refine Z_iload_n dX9_save_6 rfl 1 rfl ?_
  refine Z_callVI (as := [vi p1]) zRm_M zcv_X9_save_X9_noSlot_444 (ci := 13) rfl rfl rfl rfl (zle rfl) dX9_save_7 ⟨Nat.le_refl _, Nat.le_refl _⟩ h (fun x2 M1 h => ?_)
  refine Z_if_eq (tgt := 15) dX9_save_10 (by decide) (fun q => ?_) (fun q => ?_)
  · have h := h.1 q
    refine Z_aload_n dX9_save_15 rfl 0 rfl ?_
    refine Z_getR (s1 := 31) (i1 := 0) zfl_X9_9 rfl (fun q => by first | exact q | decide) dX9_save_16 ?_
    refine Z_iconst (v := 0) (by decide) dX9_save_19 ?_
    refine Z_aload_n dX9_save_20 rfl 0 rfl ?_
    refine Z_getR (s1 := 35) (i1 := 0) zfl_X9_22 rfl (fun q => by first | exact q | decide) dX9_save_21 ?_
    refine Z_sipush (v := 484) (by decide) dX9_save_24 ?_
    refine Z_iload_n dX9_save_27 rfl 1 rfl ?_
    refine Z_imul dX9_save_28 ?_
    refine Z_callSV (as := [vr 31 0, vi 0, vr 35 0, vi (484 * p1)]) zRm_M zcs_X9_save_X9_lays_175 rfl rfl (zle rfl) dX9_save_29 ⟨Nat.le_refl _, Nat.le_refl _⟩ h (fun M3 h => ?_)
    refine Z_aload_n dX9_save_32 rfl 0 rfl ?_
    refine Z_getR (s1 := 36) (i1 := 0) zfl_X9_25 rfl (fun q => by first | exact q | decide) dX9_save_33 ?_
    refine Z_iload_n dX9_save_36 rfl 1 rfl ?_
    refine Z_iconst (v := 1) (by decide) dX9_save_37 ?_
    obtain ⟨g4, h⟩ := h
    refine Z_zast (n := 2) rfl g4 (by decide) dX9_save_38 ?_
    refine Z_aload_n dX9_save_39 rfl 0 rfl ?_
    refine Z_getR (s1 := 31) (i1 := 0) zfl_X9_9 rfl (fun q => by first | exact q | decide) dX9_save_40 ?_
    refine Z_bipush (v := 7) (by decide) dX9_save_43 ?_
    refine Z_ialdK (n := 484) (j := 7) rfl (by decide) (zvin (by decide)) dX9_save_45 ?_
    exact Z_iret rfl rfl dX9_save_46 (Nat.le_refl _) (Nat.le_refl _) ⟨_, rfl, h⟩
  · have h := h.2 q
    refine Z_iconst (v := 0) (by decide) dX9_save_13 ?_
    exact Z_iret rfl rfl dX9_save_14 (Nat.le_refl _) (Nat.le_refl _) ⟨_, rfl, h⟩
-- X9_sendsNow
set_option maxRecDepth 100000 in
set_option maxHeartbeats 4000000 in
theorem zm_X9_sendsNow {l : Launch} {G : zG} {p1 : Int32} {M : zM} {Kf : Int32 → zM → Prop} (h : (zCalI l G Y_X9_isOn 0 0 [vr 30 0, vi p1] M (fun x2 M1 => ((x2 = 0 → (Kf 0 M1)) ∧ (¬ x2 = 0 → (zCalI l G Y_X9_ofFlow 0 0 [vr 30 0, vi p1, vi 0] M1 (fun x5 M4 => (((zmI M1 31 0 7) < x5 → (Kf 0 M4)) ∧ (¬ (zmI M1 31 0 7) < x5 → (zCalI l G Y_X9_ofFlow 0 0 [vr 30 0, vi p1, vi 0] M4 (fun x8 M7 => (zCalI l G Y_X9_ofFlow 0 0 [vr 30 0, vi p1, vi 1] M7 (fun x10 M9 => (¬ x10 = 0 ∧ ((¬ (((zmI M4 31 0 7) - x8) - ((zmI M4 31 0 7) - x8) / x10 * x10) = 0 → (Kf 0 M9)) ∧ ((((zmI M4 31 0 7) - x8) - ((zmI M4 31 0 7) - x8) / x10 * x10) = 0 → (Kf 1 M9))))))))))))))))) : zCalI l G Y_X9_sendsNow 0 0 [vr 30 0, vi p1] M Kf := by
  refine zCal_of (lv := [(0, vr 30 0), (1, vi p1)]) (by decide) rfl (zle rfl) rfl (fun hv => zlv_args (lv := [(0, vr 30 0), (1, vi p1)]) rfl hv) ?_
  refine Z_aload_n dX9_sendsNow_0 rfl 0 rfl ?_
  refine Z_iload_n dX9_sendsNow_1 rfl 1 rfl ?_
  refine Z_callVI (as := [vi p1]) zRm_M zcv_X9_sendsNow_X9_isOn_147 (ci := 13) rfl rfl rfl rfl (zle rfl) dX9_sendsNow_2 ⟨Nat.le_refl _, Nat.le_refl _⟩ h (fun x2 M1 h => ?_)
  refine Z_if_eq (tgt := 52) dX9_sendsNow_5 (by decide) (fun q => ?_) (fun q => ?_)
  · have h := h.1 q
    refine Z_iconst (v := 0) (by decide) dX9_sendsNow_52 ?_
    exact Z_iret rfl (by decide) dX9_sendsNow_53 (Nat.le_refl _) (Nat.le_refl _) ⟨_, rfl, h⟩
  · have h := h.2 q
    refine Z_aload_n dX9_sendsNow_8 rfl 0 rfl ?_
    refine Z_getR (s1 := 31) (i1 := 0) zfl_X9_9 rfl (fun q => by first | exact q | decide) dX9_sendsNow_9 ?_
    refine Z_bipush (v := 7) (by decide) dX9_sendsNow_12 ?_
    refine Z_ialdK (n := 484) (j := 7) rfl (by decide) (zvin (by decide)) dX9_sendsNow_14 ?_
    refine Z_aload_n dX9_sendsNow_15 rfl 0 rfl ?_
    refine Z_iload_n dX9_sendsNow_16 rfl 1 rfl ?_
    refine Z_iconst (v := 0) (by decide) dX9_sendsNow_17 ?_
    refine Z_callVI (as := [vi p1, vi 0]) zRm_M zcv_X9_sendsNow_X9_ofFlow_67 (ci := 13) rfl rfl rfl rfl (zle rfl) dX9_sendsNow_18 ⟨Nat.le_refl _, Nat.le_refl _⟩ h (fun x5 M4 h => ?_)
    refine Z_icmp_lt (tgt := 52) dX9_sendsNow_21 (by decide) (fun q => ?_) (fun q => ?_)
    · have h := h.1 q
      refine Z_iconst (v := 0) (by decide) dX9_sendsNow_52 ?_
      exact Z_iret rfl (by decide) dX9_sendsNow_53 (Nat.le_refl _) (Nat.le_refl _) ⟨_, rfl, h⟩
    · have h := h.2 q
      refine Z_aload_n dX9_sendsNow_24 rfl 0 rfl ?_
      refine Z_getR (s1 := 31) (i1 := 0) zfl_X9_9 rfl (fun q => by first | exact q | decide) dX9_sendsNow_25 ?_
      refine Z_bipush (v := 7) (by decide) dX9_sendsNow_28 ?_
      refine Z_ialdK (n := 484) (j := 7) rfl (by decide) (zvin (by decide)) dX9_sendsNow_30 ?_
      refine Z_aload_n dX9_sendsNow_31 rfl 0 rfl ?_
      refine Z_iload_n dX9_sendsNow_32 rfl 1 rfl ?_
      refine Z_iconst (v := 0) (by decide) dX9_sendsNow_33 ?_
      refine Z_callVI (as := [vi p1, vi 0]) zRm_M zcv_X9_sendsNow_X9_ofFlow_67 (ci := 13) rfl rfl rfl rfl (zle rfl) dX9_sendsNow_34 ⟨Nat.le_refl _, Nat.le_refl _⟩ h (fun x8 M7 h => ?_)
      refine Z_isub dX9_sendsNow_37 ?_
      refine Z_aload_n dX9_sendsNow_38 rfl 0 rfl ?_
      refine Z_iload_n dX9_sendsNow_39 rfl 1 rfl ?_
      refine Z_iconst (v := 1) (by decide) dX9_sendsNow_40 ?_
      refine Z_callVI (as := [vi p1, vi 1]) zRm_M zcv_X9_sendsNow_X9_ofFlow_67 (ci := 13) rfl rfl rfl rfl (zle rfl) dX9_sendsNow_41 ⟨Nat.le_refl _, Nat.le_refl _⟩ h (fun x10 M9 h => ?_)
      obtain ⟨g11, h⟩ := h
      refine Z_irem dX9_sendsNow_44 g11 ?_
      refine Z_if_ne (tgt := 52) dX9_sendsNow_45 (by decide) (fun q => ?_) (fun q => ?_)
      · have h := h.1 q
        refine Z_iconst (v := 0) (by decide) dX9_sendsNow_52 ?_
        exact Z_iret rfl (by decide) dX9_sendsNow_53 (Nat.le_refl _) (Nat.le_refl _) ⟨_, rfl, h⟩
      · have h := h.2 q
        refine Z_iconst (v := 1) (by decide) dX9_sendsNow_48 ?_
        refine Z_goto (tgt := 53) dX9_sendsNow_49 (by decide) ?_
        exact Z_iret rfl (by decide) dX9_sendsNow_53 (Nat.le_refl _) (Nat.le_refl _) ⟨_, rfl, h⟩
-- X9_size
set_option maxRecDepth 100000 in
set_option maxHeartbeats 4000000 in
theorem zm_X9_size {l : Launch} {G : zG} {p1 : Int32} {M : zM} {Kf : Int32 → zM → Prop} (h : (zCalI l G Y_X9_in 0 0 [vi p1, vi 0, vi 14] (zsI M 30 0 7 0) (fun x2 M1 => ((¬ x2 = 0 → zAt l G Y_X9_size (zEI G Y_X9_size Kf) 21 [(0, vr 30 0), (1, vi p1)] [vi 0, vr 30 0] M1 0 0) ∧ (x2 = 0 → zAt l G Y_X9_size (zEI G Y_X9_size Kf) 21 [(0, vr 30 0), (1, vi p1)] [vi 1, vr 30 0] M1 0 0))))) : zCalI l G Y_X9_size 0 0 [vr 30 0, vi p1] M Kf := by
  refine zCal_of (lv := [(0, vr 30 0), (1, vi p1)]) (by decide) rfl (zle rfl) rfl (fun hv => zlv_args (lv := [(0, vr 30 0), (1, vi p1)]) rfl hv) ?_
  refine Z_aload_n dX9_size_0 rfl 0 rfl ?_
  refine Z_iconst (v := 0) (by decide) dX9_size_1 ?_
  refine Z_putI zfp_X9_60 rfl rfl dX9_size_2 ?_
  refine Z_aload_n dX9_size_5 rfl 0 rfl ?_
  refine Z_iload_n dX9_size_6 rfl 1 rfl ?_
  refine Z_iconst (v := 0) (by decide) dX9_size_7 ?_
  refine Z_bipush (v := 14) (by decide) dX9_size_8 ?_
  refine Z_callSI (as := [vi p1, vi 0, vi 14]) zRm_M zcs_X9_size_X9_in_63 rfl rfl (zle rfl) dX9_size_10 ⟨Nat.le_refl _, Nat.le_refl _⟩ h (fun x2 M1 h => ?_)
  refine Z_if_ne (tgt := 20) dX9_size_13 (by decide) (fun q => ?_) (fun q => ?_)
  · have h := h.1 q
    refine Z_iconst (v := 0) (by decide) dX9_size_20 ?_
    exact h
  · have h := h.2 q
    refine Z_iconst (v := 1) (by decide) dX9_size_16 ?_
    refine Z_goto (tgt := 21) dX9_size_17 (by decide) ?_
    exact h
set_option maxRecDepth 100000 in
set_option maxHeartbeats 4000000 in
theorem zb_X9_size_21 {l : Launch} {G : zG} {y1 : Int32} {s0 : Int32} {M : zM} {Kf : Int32 → zM → Prop} (h : (zCalI l G Y_X9_fails 0 0 [vr 30 0, vi s0, vi 1] M (fun x2 M1 => ((x2 = 0 → ((¬ y1 = 12 → ((¬ y1 = 13 → ((¬ y1 = 14 → (vp_in y1 484 ∧ (Kf (zmI M1 31 0 y1.toNatClampNeg) M1))) ∧ (y1 = 14 → (Kf (zmI M1 30 0 6) M1)))) ∧ (y1 = 13 → (Kf (zmI M1 31 0 12) M1)))) ∧ (y1 = 12 → (zCalI l G Y_X9_onMany 0 0 [vr 30 0] M1 (fun x6 M5 => (Kf x6 M5)))))) ∧ (¬ x2 = 0 → (Kf 0 M1)))))) : zAt l G Y_X9_size (zEI G Y_X9_size Kf) 21 [(0, vr 30 0), (1, vi y1)] [vi s0, vr 30 0] M 0 0 := by
  refine Z_iconst (v := 1) (by decide) dX9_size_21 ?_
  refine Z_callVI (as := [vi s0, vi 1]) zRm_M zcv_X9_size_X9_fails_366 (ci := 13) rfl rfl rfl rfl (zle rfl) dX9_size_22 ⟨Nat.le_refl _, Nat.le_refl _⟩ h (fun x2 M1 h => ?_)
  refine Z_if_eq (tgt := 30) dX9_size_25 (by decide) (fun q => ?_) (fun q => ?_)
  · have h := h.1 q
    refine Z_iload_n dX9_size_30 rfl 1 rfl ?_
    refine Z_bipush (v := 12) (by decide) dX9_size_31 ?_
    refine Z_icmp_ne (tgt := 43) dX9_size_33 (by decide) (fun q => ?_) (fun q => ?_)
    · have h := h.1 q
      refine Z_iload_n dX9_size_43 rfl 1 rfl ?_
      refine Z_bipush (v := 13) (by decide) dX9_size_44 ?_
      refine Z_icmp_ne (tgt := 59) dX9_size_46 (by decide) (fun q => ?_) (fun q => ?_)
      · have h := h.1 q
        refine Z_iload_n dX9_size_59 rfl 1 rfl ?_
        refine Z_bipush (v := 14) (by decide) dX9_size_60 ?_
        refine Z_icmp_ne (tgt := 72) dX9_size_62 (by decide) (fun q => ?_) (fun q => ?_)
        · have h := h.1 q
          refine Z_aload_n dX9_size_72 rfl 0 rfl ?_
          refine Z_getR (s1 := 31) (i1 := 0) zfl_X9_9 rfl (fun q => by first | exact q | decide) dX9_size_73 ?_
          refine Z_iload_n dX9_size_76 rfl 1 rfl ?_
          obtain ⟨g3, h⟩ := h
          refine Z_iald (n := 484) rfl g3 dX9_size_77 ?_
          exact Z_iret rfl rfl dX9_size_78 (Nat.le_refl _) (Nat.le_refl _) ⟨_, rfl, h⟩
        · have h := h.2 q
          refine Z_aload_n dX9_size_65 rfl 0 rfl ?_
          refine Z_getI zfl_X9_298 dX9_size_66 ?_
          refine Z_goto (tgt := 78) dX9_size_69 (by decide) ?_
          exact Z_iret rfl rfl dX9_size_78 (Nat.le_refl _) (Nat.le_refl _) ⟨_, rfl, h⟩
      · have h := h.2 q
        refine Z_aload_n dX9_size_49 rfl 0 rfl ?_
        refine Z_getR (s1 := 31) (i1 := 0) zfl_X9_9 rfl (fun q => by first | exact q | decide) dX9_size_50 ?_
        refine Z_bipush (v := 12) (by decide) dX9_size_53 ?_
        refine Z_ialdK (n := 484) (j := 12) rfl (by decide) (zvin (by decide)) dX9_size_55 ?_
        refine Z_goto (tgt := 78) dX9_size_56 (by decide) ?_
        exact Z_iret rfl rfl dX9_size_78 (Nat.le_refl _) (Nat.le_refl _) ⟨_, rfl, h⟩
    · have h := h.2 q
      refine Z_aload_n dX9_size_36 rfl 0 rfl ?_
      refine Z_callVI (as := []) zRm_M zcv_X9_size_X9_onMany_369 (ci := 13) rfl rfl rfl rfl (zle rfl) dX9_size_37 ⟨Nat.le_refl _, Nat.le_refl _⟩ h (fun x6 M5 h => ?_)
      refine Z_goto (tgt := 78) dX9_size_40 (by decide) ?_
      exact Z_iret rfl rfl dX9_size_78 (Nat.le_refl _) (Nat.le_refl _) ⟨_, rfl, h⟩
  · have h := h.2 q
    refine Z_iconst (v := 0) (by decide) dX9_size_28 ?_
    exact Z_iret rfl rfl dX9_size_29 (Nat.le_refl _) (Nat.le_refl _) ⟨_, rfl, h⟩
-- X9_turnNow
set_option maxRecDepth 100000 in
set_option maxHeartbeats 4000000 in
theorem zm_X9_turnNow {l : Launch} {G : zG} {p1 : Int32} {p2 : Int32} {M : zM} {Kf : Int32 → zM → Prop} (h : (zCalI l G Y_X9_ofFlow 0 0 [vr 30 0, vi p1, vi 5] M (fun x2 M1 => ((¬ x2 = p2 → (zCalV l G Y_X9_putsFlow 0 0 [vr 30 0, vi p1, vi 5, vi p2] M1 (fun M3 => (zCalI l G Y_X9_onMany 0 0 [vr 30 0] M3 (fun x5 M4 => (Kf x5 M4)))))) ∧ (x2 = p2 → (Kf (-3) M1)))))) : zCalI l G Y_X9_turnNow 0 0 [vr 30 0, vi p1, vi p2] M Kf := by
  refine zCal_of (lv := [(0, vr 30 0), (1, vi p1), (2, vi p2)]) (by decide) rfl (zle rfl) rfl (fun hv => zlv_args (lv := [(0, vr 30 0), (1, vi p1), (2, vi p2)]) rfl hv) ?_
  refine Z_aload_n dX9_turnNow_0 rfl 0 rfl ?_
  refine Z_iload_n dX9_turnNow_1 rfl 1 rfl ?_
  refine Z_iconst (v := 5) (by decide) dX9_turnNow_2 ?_
  refine Z_callVI (as := [vi p1, vi 5]) zRm_M zcv_X9_turnNow_X9_ofFlow_67 (ci := 13) rfl rfl rfl rfl (zle rfl) dX9_turnNow_3 ⟨Nat.le_refl _, Nat.le_refl _⟩ h (fun x2 M1 h => ?_)
  refine Z_iload_n dX9_turnNow_6 rfl 2 rfl ?_
  refine Z_icmp_ne (tgt := 13) dX9_turnNow_7 (by decide) (fun q => ?_) (fun q => ?_)
  · have h := h.1 q
    refine Z_aload_n dX9_turnNow_13 rfl 0 rfl ?_
    refine Z_iload_n dX9_turnNow_14 rfl 1 rfl ?_
    refine Z_iconst (v := 5) (by decide) dX9_turnNow_15 ?_
    refine Z_iload_n dX9_turnNow_16 rfl 2 rfl ?_
    refine Z_callVV (as := [vi p1, vi 5, vi p2]) zRm_M zcv_X9_turnNow_X9_putsFlow_71 (ci := 13) rfl rfl rfl rfl (zle rfl) dX9_turnNow_17 ⟨Nat.le_refl _, Nat.le_refl _⟩ h (fun M3 h => ?_)
    refine Z_aload_n dX9_turnNow_20 rfl 0 rfl ?_
    refine Z_callVI (as := []) zRm_M zcv_X9_turnNow_X9_onMany_369 (ci := 13) rfl rfl rfl rfl (zle rfl) dX9_turnNow_21 ⟨Nat.le_refl _, Nat.le_refl _⟩ h (fun x5 M4 h => ?_)
    exact Z_iret rfl rfl dX9_turnNow_24 (Nat.le_refl _) (Nat.le_refl _) ⟨_, rfl, h⟩
  · have h := h.2 q
    refine Z_bipush (v := (-3)) (by decide) dX9_turnNow_10 ?_
    exact Z_iret rfl rfl dX9_turnNow_12 (Nat.le_refl _) (Nat.le_refl _) ⟨_, rfl, h⟩
-- X9_writesFlow
set_option maxRecDepth 100000 in
set_option maxHeartbeats 4000000 in
theorem zm_X9_writesFlow {l : Launch} {G : zG} {p1 : Int32} {M : zM} {Kf : zM → Prop} (h : zAt l G Y_X9_writesFlow (zEV G Y_X9_writesFlow Kf) 2 [(0, vr 30 0), (1, vi p1), (2, vi 0)] [] M 0 0) : zCalV l G Y_X9_writesFlow 0 0 [vr 30 0, vi p1] M Kf := by
  refine zCal_of (lv := [(0, vr 30 0), (1, vi p1)]) (by decide) rfl (zle rfl) rfl (fun hv => zlv_args (lv := [(0, vr 30 0), (1, vi p1)]) rfl hv) ?_
  refine Z_iconst (v := 0) (by decide) dX9_writesFlow_0 ?_
  refine Z_istore_n (lv2 := [(2, vi 0), (0, vr 30 0), (1, vi p1)]) dX9_writesFlow_1 rfl (by decide) rfl ?_
  exact Z_pick [1, 2, 0] rfl h
set_option maxRecDepth 100000 in
set_option maxHeartbeats 4000000 in
theorem zb_X9_writesFlow_2 {l : Launch} {G : zG} {y1 : Int32} {y2 : Int32} {M : zM} {Kf : zM → Prop} (h : (zCalI l G Y_X9_ofFlow 0 0 [vr 30 0, vi y1, vi 9] M (fun x2 M1 => ((x2 ≤ y2 → (zCalV l G Y_X9_writes 0 0 [vr 30 0, vi 58] M1 (fun M3 => (zCalI l G Y_X9_accountOf 0 0 [vr 30 0, vi y1, vi 0] M3 (fun x5 M4 => (zCalV l G Y_X9_writesNumber 0 0 [vr 30 0, vi x5] M4 (fun M6 => (zCalV l G Y_X9_writes 0 0 [vr 30 0, vi 47] M6 (fun M7 => (zCalI l G Y_X9_accountOf 0 0 [vr 30 0, vi y1, vi 5] M7 (fun x9 M8 => (zCalV l G Y_X9_writesNumber 0 0 [vr 30 0, vi x9] M8 (fun M10 => (zCalI l G Y_X9_ofFlow 0 0 [vr 30 0, vi y1, vi 7] M10 (fun x12 M11 => ((¬ x12 = 1 → zAt l G Y_X9_writesFlow (zEV G Y_X9_writesFlow Kf) 81 [(0, vr 30 0)] [] M11 0 0) ∧ (x12 = 1 → (zCalV l G Y_X9_writes 0 0 [vr 30 0, vi 33] M11 (fun M13 => zAt l G Y_X9_writesFlow (zEV G Y_X9_writesFlow Kf) 81 [(0, vr 30 0)] [] M13 0 0))))))))))))))))))) ∧ (¬ x2 ≤ y2 → (zCalI l G Y_X9_ofFlow 0 0 [vr 30 0, vi y1, vi (10 + y2)] M1 (fun x15 M14 => (zCalV l G Y_X9_writes 0 0 [vr 30 0, vi x15] M14 (fun M16 => zAt l G Y_X9_writesFlow (zEV G Y_X9_writesFlow Kf) 2 [(0, vr 30 0), (1, vi y1), (2, vi (y2 + 1))] [] M16 0 0))))))))) : zAt l G Y_X9_writesFlow (zEV G Y_X9_writesFlow Kf) 2 [(0, vr 30 0), (1, vi y1), (2, vi y2)] [] M 0 0 := by
  refine Z_iload_n dX9_writesFlow_2 rfl 2 rfl ?_
  refine Z_aload_n dX9_writesFlow_3 rfl 0 rfl ?_
  refine Z_iload_n dX9_writesFlow_4 rfl 1 rfl ?_
  refine Z_bipush (v := 9) (by decide) dX9_writesFlow_5 ?_
  refine Z_callVI (as := [vi y1, vi 9]) zRm_M zcv_X9_writesFlow_X9_ofFlow_67 (ci := 13) rfl rfl rfl rfl (zle rfl) dX9_writesFlow_7 ⟨Nat.le_refl _, Nat.le_refl _⟩ h (fun x2 M1 h => ?_)
  refine Z_icmp_ge (tgt := 32) dX9_writesFlow_10 (by decide) (fun q => ?_) (fun q => ?_)
  · have h := h.1 q
    refine Z_aload_n dX9_writesFlow_32 rfl 0 rfl ?_
    refine Z_bipush (v := 58) (by decide) dX9_writesFlow_33 ?_
    refine Z_callVV (as := [vi 58]) zRm_M zcv_X9_writesFlow_X9_writes_435 (ci := 13) rfl rfl rfl rfl (zle rfl) dX9_writesFlow_35 ⟨Nat.le_refl _, Nat.le_refl _⟩ h (fun M3 h => ?_)
    refine Z_aload_n dX9_writesFlow_38 rfl 0 rfl ?_
    refine Z_aload_n dX9_writesFlow_39 rfl 0 rfl ?_
    refine Z_iload_n dX9_writesFlow_40 rfl 1 rfl ?_
    refine Z_iconst (v := 0) (by decide) dX9_writesFlow_41 ?_
    refine Z_callVI (as := [vi y1, vi 0]) zRm_M zcv_X9_writesFlow_X9_accountOf_75 (ci := 13) rfl rfl rfl rfl (zle rfl) dX9_writesFlow_42 ⟨Nat.le_refl _, Nat.le_refl _⟩ h (fun x5 M4 h => ?_)
    refine Z_callVV (as := [vi x5]) zRm_M zcv_X9_writesFlow_X9_writesNumber_438 (ci := 13) rfl rfl rfl rfl (zle rfl) dX9_writesFlow_45 ⟨Nat.le_refl _, Nat.le_refl _⟩ h (fun M6 h => ?_)
    refine Z_aload_n dX9_writesFlow_48 rfl 0 rfl ?_
    refine Z_bipush (v := 47) (by decide) dX9_writesFlow_49 ?_
    refine Z_callVV (as := [vi 47]) zRm_M zcv_X9_writesFlow_X9_writes_435 (ci := 13) rfl rfl rfl rfl (zle rfl) dX9_writesFlow_51 ⟨Nat.le_refl _, Nat.le_refl _⟩ h (fun M7 h => ?_)
    refine Z_aload_n dX9_writesFlow_54 rfl 0 rfl ?_
    refine Z_aload_n dX9_writesFlow_55 rfl 0 rfl ?_
    refine Z_iload_n dX9_writesFlow_56 rfl 1 rfl ?_
    refine Z_iconst (v := 5) (by decide) dX9_writesFlow_57 ?_
    refine Z_callVI (as := [vi y1, vi 5]) zRm_M zcv_X9_writesFlow_X9_accountOf_75 (ci := 13) rfl rfl rfl rfl (zle rfl) dX9_writesFlow_58 ⟨Nat.le_refl _, Nat.le_refl _⟩ h (fun x9 M8 h => ?_)
    refine Z_callVV (as := [vi x9]) zRm_M zcv_X9_writesFlow_X9_writesNumber_438 (ci := 13) rfl rfl rfl rfl (zle rfl) dX9_writesFlow_61 ⟨Nat.le_refl _, Nat.le_refl _⟩ h (fun M10 h => ?_)
    refine Z_aload_n dX9_writesFlow_64 rfl 0 rfl ?_
    refine Z_iload_n dX9_writesFlow_65 rfl 1 rfl ?_
    refine Z_bipush (v := 7) (by decide) dX9_writesFlow_66 ?_
    refine Z_callVI (as := [vi y1, vi 7]) zRm_M zcv_X9_writesFlow_X9_ofFlow_67 (ci := 13) rfl rfl rfl rfl (zle rfl) dX9_writesFlow_68 ⟨Nat.le_refl _, Nat.le_refl _⟩ h (fun x12 M11 h => ?_)
    refine Z_iconst (v := 1) (by decide) dX9_writesFlow_71 ?_
    refine Z_icmp_ne (tgt := 81) dX9_writesFlow_72 (by decide) (fun q => ?_) (fun q => ?_)
    · have h := h.1 q
      exact Z_pick [0] rfl h
    · have h := h.2 q
      refine Z_aload_n dX9_writesFlow_75 rfl 0 rfl ?_
      refine Z_bipush (v := 33) (by decide) dX9_writesFlow_76 ?_
      refine Z_callVV (as := [vi 33]) zRm_M zcv_X9_writesFlow_X9_writes_435 (ci := 13) rfl rfl rfl rfl (zle rfl) dX9_writesFlow_78 ⟨Nat.le_refl _, Nat.le_refl _⟩ h (fun M13 h => ?_)
      exact Z_pick [0] rfl h
  · have h := h.2 q
    refine Z_aload_n dX9_writesFlow_13 rfl 0 rfl ?_
    refine Z_aload_n dX9_writesFlow_14 rfl 0 rfl ?_
    refine Z_iload_n dX9_writesFlow_15 rfl 1 rfl ?_
    refine Z_bipush (v := 10) (by decide) dX9_writesFlow_16 ?_
    refine Z_iload_n dX9_writesFlow_18 rfl 2 rfl ?_
    refine Z_iadd dX9_writesFlow_19 ?_
    refine Z_callVI (as := [vi y1, vi (10 + y2)]) zRm_M zcv_X9_writesFlow_X9_ofFlow_67 (ci := 13) rfl rfl rfl rfl (zle rfl) dX9_writesFlow_20 ⟨Nat.le_refl _, Nat.le_refl _⟩ h (fun x15 M14 h => ?_)
    refine Z_callVV (as := [vi x15]) zRm_M zcv_X9_writesFlow_X9_writes_435 (ci := 13) rfl rfl rfl rfl (zle rfl) dX9_writesFlow_23 ⟨Nat.le_refl _, Nat.le_refl _⟩ h (fun M16 h => ?_)
    refine Z_iinc (v := (y2 + 1)) (lv2 := [(2, vi (y2 + 1)), (0, vr 30 0), (1, vi y1)]) dX9_writesFlow_26 2 rfl rfl (by decide) rfl ?_
    refine Z_goto (tgt := 2) dX9_writesFlow_29 (by decide) ?_
    exact Z_pick [1, 2, 0] rfl h
set_option maxRecDepth 100000 in
set_option maxHeartbeats 4000000 in
theorem zb_X9_writesFlow_81 {l : Launch} {G : zG}  {M : zM} {Kf : zM → Prop} (h : (zCalV l G Y_X9_writes 0 0 [vr 30 0, vi 32] M (fun M1 => (Kf M1)))) : zAt l G Y_X9_writesFlow (zEV G Y_X9_writesFlow Kf) 81 [(0, vr 30 0)] [] M 0 0 := by
  refine Z_aload_n dX9_writesFlow_81 rfl 0 rfl ?_
  refine Z_bipush (v := 32) (by decide) dX9_writesFlow_82 ?_
  refine Z_callVV (as := [vi 32]) zRm_M zcv_X9_writesFlow_X9_writes_435 (ci := 13) rfl rfl rfl rfl (zle rfl) dX9_writesFlow_84 ⟨Nat.le_refl _, Nat.le_refl _⟩ h (fun M1 h => ?_)
  exact Z_vret rfl dX9_writesFlow_87 (Nat.le_refl _) (Nat.le_refl _) ⟨rfl, h⟩
-- X9_account
set_option maxRecDepth 100000 in
set_option maxHeartbeats 4000000 in
theorem zm_X9_account {l : Launch} {G : zG} {p1 : Int32} {p2 : Int32} {M : zM} {Kf : Int64 → zM → Prop} (h : (zCalI l G Y_X9_noFlows 0 0 [vr 30 0, vi p1] (zsI M 30 0 7 0) (fun x2 M1 => ((¬ x2 = 0 → (Kf 0 M1)) ∧ (x2 = 0 → (zCalI l G Y_X9_noAccount 0 0 [vr 30 0, vi p2] M1 (fun x4 M3 => ((x4 = 0 → (zCalI l G Y_X9_accountOf 0 0 [vr 30 0, vi p1, vi p2] M3 (fun x6 M5 => (Kf ((x6 : Int32).toInt64) M5)))) ∧ (¬ x4 = 0 → (Kf 0 M3)))))))))) : zCalL l G Y_X9_account 0 0 [vr 30 0, vi p1, vi p2] M Kf := by
  refine zCal_of (lv := [(0, vr 30 0), (1, vi p1), (2, vi p2)]) (by decide) rfl (zle rfl) rfl (fun hv => zlv_args (lv := [(0, vr 30 0), (1, vi p1), (2, vi p2)]) rfl hv) ?_
  refine Z_aload_n dX9_account_0 rfl 0 rfl ?_
  refine Z_iconst (v := 0) (by decide) dX9_account_1 ?_
  refine Z_putI zfp_X9_60 rfl rfl dX9_account_2 ?_
  refine Z_aload_n dX9_account_5 rfl 0 rfl ?_
  refine Z_iload_n dX9_account_6 rfl 1 rfl ?_
  refine Z_callVI (as := [vi p1]) zRm_M zcv_X9_account_X9_noFlows_384 (ci := 13) rfl rfl rfl rfl (zle rfl) dX9_account_7 ⟨Nat.le_refl _, Nat.le_refl _⟩ h (fun x2 M1 h => ?_)
  refine Z_if_ne (tgt := 21) dX9_account_10 (by decide) (fun q => ?_) (fun q => ?_)
  · have h := h.1 q
    refine Z_lconst (v := 0) (by decide) dX9_account_21 ?_
    refine Z_goto (tgt := 32) dX9_account_22 (by decide) ?_
    exact Z_lret rfl dX9_account_32 (Nat.le_refl _) (Nat.le_refl _) ⟨_, rfl, h⟩
  · have h := h.2 q
    refine Z_aload_n dX9_account_13 rfl 0 rfl ?_
    refine Z_iload_n dX9_account_14 rfl 2 rfl ?_
    refine Z_callVI (as := [vi p2]) zRm_M zcv_X9_account_X9_noAccount_387 (ci := 13) rfl rfl rfl rfl (zle rfl) dX9_account_15 ⟨Nat.le_refl _, Nat.le_refl _⟩ h (fun x4 M3 h => ?_)
    refine Z_if_eq (tgt := 25) dX9_account_18 (by decide) (fun q => ?_) (fun q => ?_)
    · have h := h.1 q
      refine Z_aload_n dX9_account_25 rfl 0 rfl ?_
      refine Z_iload_n dX9_account_26 rfl 1 rfl ?_
      refine Z_iload_n dX9_account_27 rfl 2 rfl ?_
      refine Z_callVI (as := [vi p1, vi p2]) zRm_M zcv_X9_account_X9_accountOf_75 (ci := 13) rfl rfl rfl rfl (zle rfl) dX9_account_28 ⟨Nat.le_refl _, Nat.le_refl _⟩ h (fun x6 M5 h => ?_)
      refine Z_i2l dX9_account_31 ?_
      exact Z_lret rfl dX9_account_32 (Nat.le_refl _) (Nat.le_refl _) ⟨_, rfl, h⟩
    · have h := h.2 q
      refine Z_lconst (v := 0) (by decide) dX9_account_21 ?_
      refine Z_goto (tgt := 32) dX9_account_22 (by decide) ?_
      exact Z_lret rfl dX9_account_32 (Nat.le_refl _) (Nat.le_refl _) ⟨_, rfl, h⟩
-- X9_base
set_option maxRecDepth 100000 in
set_option maxHeartbeats 4000000 in
theorem zm_X9_base {l : Launch} {G : zG} {p1 : Int32} {M : zM} {Kf : Int32 → zM → Prop} (h : (zCalI l G Y_X9_in 0 0 [vi p1, vi 0, vi 99999] (zsI M 30 0 7 0) (fun x2 M1 => ((¬ x2 = 0 → zAt l G Y_X9_base (zEI G Y_X9_base Kf) 22 [(0, vr 30 0), (1, vi p1)] [vi 0, vr 30 0] M1 0 0) ∧ (x2 = 0 → zAt l G Y_X9_base (zEI G Y_X9_base Kf) 22 [(0, vr 30 0), (1, vi p1)] [vi 1, vr 30 0] M1 0 0))))) : zCalI l G Y_X9_base 0 0 [vr 30 0, vi p1] M Kf := by
  refine zCal_of (lv := [(0, vr 30 0), (1, vi p1)]) (by decide) rfl (zle rfl) rfl (fun hv => zlv_args (lv := [(0, vr 30 0), (1, vi p1)]) rfl hv) ?_
  refine Z_aload_n dX9_base_0 rfl 0 rfl ?_
  refine Z_iconst (v := 0) (by decide) dX9_base_1 ?_
  refine Z_putI zfp_X9_60 rfl rfl dX9_base_2 ?_
  refine Z_aload_n dX9_base_5 rfl 0 rfl ?_
  refine Z_iload_n dX9_base_6 rfl 1 rfl ?_
  refine Z_iconst (v := 0) (by decide) dX9_base_7 ?_
  refine Z_ldcw (v := 99999) zw_2078 dX9_base_8 ?_
  refine Z_callSI (as := [vi p1, vi 0, vi 99999]) zRm_M zcs_X9_base_X9_in_63 rfl rfl (zle rfl) dX9_base_11 ⟨Nat.le_refl _, Nat.le_refl _⟩ h (fun x2 M1 h => ?_)
  refine Z_if_ne (tgt := 21) dX9_base_14 (by decide) (fun q => ?_) (fun q => ?_)
  · have h := h.1 q
    refine Z_iconst (v := 0) (by decide) dX9_base_21 ?_
    exact h
  · have h := h.2 q
    refine Z_iconst (v := 1) (by decide) dX9_base_17 ?_
    refine Z_goto (tgt := 22) dX9_base_18 (by decide) ?_
    exact h
set_option maxRecDepth 100000 in
set_option maxHeartbeats 4000000 in
theorem zb_X9_base_22 {l : Launch} {G : zG} {y1 : Int32} {s0 : Int32} {M : zM} {Kf : Int32 → zM → Prop} (h : (zCalI l G Y_X9_fails 0 0 [vr 30 0, vi s0, vi 1] M (fun x2 M1 => ((x2 = 0 → (zCalL l G Y_X9_baseOf 0 0 [vr 30 0, vi y1] M1 (fun x4 M3 => (Kf ((x4 : Int64).toInt32) M3)))) ∧ (¬ x2 = 0 → (Kf 0 M1)))))) : zAt l G Y_X9_base (zEI G Y_X9_base Kf) 22 [(0, vr 30 0), (1, vi y1)] [vi s0, vr 30 0] M 0 0 := by
  refine Z_iconst (v := 1) (by decide) dX9_base_22 ?_
  refine Z_callVI (as := [vi s0, vi 1]) zRm_M zcv_X9_base_X9_fails_366 (ci := 13) rfl rfl rfl rfl (zle rfl) dX9_base_23 ⟨Nat.le_refl _, Nat.le_refl _⟩ h (fun x2 M1 h => ?_)
  refine Z_if_eq (tgt := 33) dX9_base_26 (by decide) (fun q => ?_) (fun q => ?_)
  · have h := h.1 q
    refine Z_aload_n dX9_base_33 rfl 0 rfl ?_
    refine Z_iload_n dX9_base_34 rfl 1 rfl ?_
    refine Z_callVL (as := [vi y1]) zRm_M zcv_X9_base_X9_baseOf_128 (ci := 13) rfl rfl rfl rfl (zle rfl) dX9_base_35 ⟨Nat.le_refl _, Nat.le_refl _⟩ h (fun x4 M3 h => ?_)
    refine Z_l2i dX9_base_38 ?_
    exact Z_iret rfl rfl dX9_base_39 (Nat.le_refl _) (Nat.le_refl _) ⟨_, rfl, h⟩
  · have h := h.2 q
    refine Z_iconst (v := 0) (by decide) dX9_base_29 ?_
    refine Z_goto (tgt := 39) dX9_base_30 (by decide) ?_
    exact Z_iret rfl rfl dX9_base_39 (Nat.le_refl _) (Nat.le_refl _) ⟨_, rfl, h⟩
-- X9_flow
set_option maxRecDepth 100000 in
set_option maxHeartbeats 4000000 in
theorem zm_X9_flow {l : Launch} {G : zG} {p1 : Int32} {p2 : Int32} {M : zM} {Kf : Int32 → zM → Prop} (h : (zCalI l G Y_X9_noFlow 0 0 [vr 30 0, vi p1] (zsI M 30 0 7 0) (fun x2 M1 => ((¬ x2 = 0 → (Kf 0 M1)) ∧ (x2 = 0 → (zCalI l G Y_X9_in 0 0 [vi p2, vi 0, vi 10] M1 (fun x4 M3 => ((¬ x4 = 0 → zAt l G Y_X9_flow (zEI G Y_X9_flow Kf) 29 [(0, vr 30 0), (1, vi p1), (2, vi p2)] [vi 0, vr 30 0] M3 0 0) ∧ (x4 = 0 → zAt l G Y_X9_flow (zEI G Y_X9_flow Kf) 29 [(0, vr 30 0), (1, vi p1), (2, vi p2)] [vi 1, vr 30 0] M3 0 0))))))))) : zCalI l G Y_X9_flow 0 0 [vr 30 0, vi p1, vi p2] M Kf := by
  refine zCal_of (lv := [(0, vr 30 0), (1, vi p1), (2, vi p2)]) (by decide) rfl (zle rfl) rfl (fun hv => zlv_args (lv := [(0, vr 30 0), (1, vi p1), (2, vi p2)]) rfl hv) ?_
  refine Z_aload_n dX9_flow_0 rfl 0 rfl ?_
  refine Z_iconst (v := 0) (by decide) dX9_flow_1 ?_
  refine Z_putI zfp_X9_60 rfl rfl dX9_flow_2 ?_
  refine Z_aload_n dX9_flow_5 rfl 0 rfl ?_
  refine Z_iload_n dX9_flow_6 rfl 1 rfl ?_
  refine Z_callVI (as := [vi p1]) zRm_M zcv_X9_flow_X9_noFlow_375 (ci := 13) rfl rfl rfl rfl (zle rfl) dX9_flow_7 ⟨Nat.le_refl _, Nat.le_refl _⟩ h (fun x2 M1 h => ?_)
  refine Z_if_ne (tgt := 36) dX9_flow_10 (by decide) (fun q => ?_) (fun q => ?_)
  · have h := h.1 q
    refine Z_iconst (v := 0) (by decide) dX9_flow_36 ?_
    exact Z_iret rfl rfl dX9_flow_37 (Nat.le_refl _) (Nat.le_refl _) ⟨_, rfl, h⟩
  · have h := h.2 q
    refine Z_aload_n dX9_flow_13 rfl 0 rfl ?_
    refine Z_iload_n dX9_flow_14 rfl 2 rfl ?_
    refine Z_iconst (v := 0) (by decide) dX9_flow_15 ?_
    refine Z_bipush (v := 10) (by decide) dX9_flow_16 ?_
    refine Z_callSI (as := [vi p2, vi 0, vi 10]) zRm_M zcs_X9_flow_X9_in_63 rfl rfl (zle rfl) dX9_flow_18 ⟨Nat.le_refl _, Nat.le_refl _⟩ h (fun x4 M3 h => ?_)
    refine Z_if_ne (tgt := 28) dX9_flow_21 (by decide) (fun q => ?_) (fun q => ?_)
    · have h := h.1 q
      refine Z_iconst (v := 0) (by decide) dX9_flow_28 ?_
      exact h
    · have h := h.2 q
      refine Z_iconst (v := 1) (by decide) dX9_flow_24 ?_
      refine Z_goto (tgt := 29) dX9_flow_25 (by decide) ?_
      exact h
set_option maxRecDepth 100000 in
set_option maxHeartbeats 4000000 in
theorem zb_X9_flow_29 {l : Launch} {G : zG} {y1 : Int32} {y2 : Int32} {s0 : Int32} {M : zM} {Kf : Int32 → zM → Prop} (h : (zCalI l G Y_X9_fails 0 0 [vr 30 0, vi s0, vi 2] M (fun x2 M1 => ((x2 = 0 → ((¬ y2 = 8 → ((¬ y2 = 9 → ((¬ y2 = 10 → (zCalI l G Y_X9_ofFlow 0 0 [vr 30 0, vi y1, vi y2] M1 (fun x4 M3 => (Kf x4 M3)))) ∧ (y2 = 10 → (zCalI l G Y_X9_ofFlow 0 0 [vr 30 0, vi y1, vi 8] M1 (fun x6 M5 => (Kf x6 M5)))))) ∧ (y2 = 9 → (zCalI l G Y_X9_untilSending 0 0 [vr 30 0, vi y1] M1 (fun x8 M7 => (Kf x8 M7)))))) ∧ (y2 = 8 → (zCalI l G Y_X9_queuedOf 0 0 [vr 30 0, vi y1] M1 (fun x10 M9 => (Kf x10 M9)))))) ∧ (¬ x2 = 0 → (Kf 0 M1)))))) : zAt l G Y_X9_flow (zEI G Y_X9_flow Kf) 29 [(0, vr 30 0), (1, vi y1), (2, vi y2)] [vi s0, vr 30 0] M 0 0 := by
  refine Z_iconst (v := 2) (by decide) dX9_flow_29 ?_
  refine Z_callVI (as := [vi s0, vi 2]) zRm_M zcv_X9_flow_X9_fails_366 (ci := 13) rfl rfl rfl rfl (zle rfl) dX9_flow_30 ⟨Nat.le_refl _, Nat.le_refl _⟩ h (fun x2 M1 h => ?_)
  refine Z_if_eq (tgt := 38) dX9_flow_33 (by decide) (fun q => ?_) (fun q => ?_)
  · have h := h.1 q
    refine Z_iload_n dX9_flow_38 rfl 2 rfl ?_
    refine Z_bipush (v := 8) (by decide) dX9_flow_39 ?_
    refine Z_icmp_ne (tgt := 52) dX9_flow_41 (by decide) (fun q => ?_) (fun q => ?_)
    · have h := h.1 q
      refine Z_iload_n dX9_flow_52 rfl 2 rfl ?_
      refine Z_bipush (v := 9) (by decide) dX9_flow_53 ?_
      refine Z_icmp_ne (tgt := 66) dX9_flow_55 (by decide) (fun q => ?_) (fun q => ?_)
      · have h := h.1 q
        refine Z_iload_n dX9_flow_66 rfl 2 rfl ?_
        refine Z_bipush (v := 10) (by decide) dX9_flow_67 ?_
        refine Z_icmp_ne (tgt := 82) dX9_flow_69 (by decide) (fun q => ?_) (fun q => ?_)
        · have h := h.1 q
          refine Z_aload_n dX9_flow_82 rfl 0 rfl ?_
          refine Z_iload_n dX9_flow_83 rfl 1 rfl ?_
          refine Z_iload_n dX9_flow_84 rfl 2 rfl ?_
          refine Z_callVI (as := [vi y1, vi y2]) zRm_M zcv_X9_flow_X9_ofFlow_67 (ci := 13) rfl rfl rfl rfl (zle rfl) dX9_flow_85 ⟨Nat.le_refl _, Nat.le_refl _⟩ h (fun x4 M3 h => ?_)
          exact Z_iret rfl rfl dX9_flow_88 (Nat.le_refl _) (Nat.le_refl _) ⟨_, rfl, h⟩
        · have h := h.2 q
          refine Z_aload_n dX9_flow_72 rfl 0 rfl ?_
          refine Z_iload_n dX9_flow_73 rfl 1 rfl ?_
          refine Z_bipush (v := 8) (by decide) dX9_flow_74 ?_
          refine Z_callVI (as := [vi y1, vi 8]) zRm_M zcv_X9_flow_X9_ofFlow_67 (ci := 13) rfl rfl rfl rfl (zle rfl) dX9_flow_76 ⟨Nat.le_refl _, Nat.le_refl _⟩ h (fun x6 M5 h => ?_)
          refine Z_goto (tgt := 88) dX9_flow_79 (by decide) ?_
          exact Z_iret rfl rfl dX9_flow_88 (Nat.le_refl _) (Nat.le_refl _) ⟨_, rfl, h⟩
      · have h := h.2 q
        refine Z_aload_n dX9_flow_58 rfl 0 rfl ?_
        refine Z_iload_n dX9_flow_59 rfl 1 rfl ?_
        refine Z_callVI (as := [vi y1]) zRm_M zcv_X9_flow_X9_untilSending_381 (ci := 13) rfl rfl rfl rfl (zle rfl) dX9_flow_60 ⟨Nat.le_refl _, Nat.le_refl _⟩ h (fun x8 M7 h => ?_)
        refine Z_goto (tgt := 88) dX9_flow_63 (by decide) ?_
        exact Z_iret rfl rfl dX9_flow_88 (Nat.le_refl _) (Nat.le_refl _) ⟨_, rfl, h⟩
    · have h := h.2 q
      refine Z_aload_n dX9_flow_44 rfl 0 rfl ?_
      refine Z_iload_n dX9_flow_45 rfl 1 rfl ?_
      refine Z_callVI (as := [vi y1]) zRm_M zcv_X9_flow_X9_queuedOf_378 (ci := 13) rfl rfl rfl rfl (zle rfl) dX9_flow_46 ⟨Nat.le_refl _, Nat.le_refl _⟩ h (fun x10 M9 h => ?_)
      refine Z_goto (tgt := 88) dX9_flow_49 (by decide) ?_
      exact Z_iret rfl rfl dX9_flow_88 (Nat.le_refl _) (Nat.le_refl _) ⟨_, rfl, h⟩
  · have h := h.2 q
    refine Z_iconst (v := 0) (by decide) dX9_flow_36 ?_
    exact Z_iret rfl rfl dX9_flow_37 (Nat.le_refl _) (Nat.le_refl _) ⟨_, rfl, h⟩
-- X9_letter
set_option maxRecDepth 100000 in
set_option maxHeartbeats 4000000 in
theorem zm_X9_letter {l : Launch} {G : zG} {p1 : Int32} {p2 : Int32} {M : zM} {Kf : Int32 → zM → Prop} (h : (zCalI l G Y_X9_noFlow 0 0 [vr 30 0, vi p1] (zsI M 30 0 7 0) (fun x2 M1 => ((x2 = 0 → (zCalI l G Y_X9_ofFlow 0 0 [vr 30 0, vi p1, vi 9] M1 (fun x4 M3 => (zCalI l G Y_X9_in 0 0 [vi p2, vi 0, vi (x4 - 1)] M3 (fun x6 M5 => ((x6 = 0 → (Kf (-1) M5)) ∧ (¬ x6 = 0 → (zCalI l G Y_X9_ofFlow 0 0 [vr 30 0, vi p1, vi (10 + p2)] M5 (fun x8 M7 => (Kf x8 M7)))))))))) ∧ (¬ x2 = 0 → (Kf 0 M1)))))) : zCalI l G Y_X9_letter 0 0 [vr 30 0, vi p1, vi p2] M Kf := by
  refine zCal_of (lv := [(0, vr 30 0), (1, vi p1), (2, vi p2)]) (by decide) rfl (zle rfl) rfl (fun hv => zlv_args (lv := [(0, vr 30 0), (1, vi p1), (2, vi p2)]) rfl hv) ?_
  refine Z_aload_n dX9_letter_0 rfl 0 rfl ?_
  refine Z_iconst (v := 0) (by decide) dX9_letter_1 ?_
  refine Z_putI zfp_X9_60 rfl rfl dX9_letter_2 ?_
  refine Z_aload_n dX9_letter_5 rfl 0 rfl ?_
  refine Z_iload_n dX9_letter_6 rfl 1 rfl ?_
  refine Z_callVI (as := [vi p1]) zRm_M zcv_X9_letter_X9_noFlow_375 (ci := 13) rfl rfl rfl rfl (zle rfl) dX9_letter_7 ⟨Nat.le_refl _, Nat.le_refl _⟩ h (fun x2 M1 h => ?_)
  refine Z_if_eq (tgt := 15) dX9_letter_10 (by decide) (fun q => ?_) (fun q => ?_)
  · have h := h.1 q
    refine Z_iload_n dX9_letter_15 rfl 2 rfl ?_
    refine Z_iconst (v := 0) (by decide) dX9_letter_16 ?_
    refine Z_aload_n dX9_letter_17 rfl 0 rfl ?_
    refine Z_iload_n dX9_letter_18 rfl 1 rfl ?_
    refine Z_bipush (v := 9) (by decide) dX9_letter_19 ?_
    refine Z_callVI (as := [vi p1, vi 9]) zRm_M zcv_X9_letter_X9_ofFlow_67 (ci := 13) rfl rfl rfl rfl (zle rfl) dX9_letter_21 ⟨Nat.le_refl _, Nat.le_refl _⟩ h (fun x4 M3 h => ?_)
    refine Z_iconst (v := 1) (by decide) dX9_letter_24 ?_
    refine Z_isub dX9_letter_25 ?_
    refine Z_callSI (as := [vi p2, vi 0, vi (x4 - 1)]) zRm_M zcs_X9_letter_X9_in_63 rfl rfl (zle rfl) dX9_letter_26 ⟨Nat.le_refl _, Nat.le_refl _⟩ h (fun x6 M5 h => ?_)
    refine Z_if_eq (tgt := 44) dX9_letter_29 (by decide) (fun q => ?_) (fun q => ?_)
    · have h := h.1 q
      refine Z_iconst (v := (-1)) (by decide) dX9_letter_44 ?_
      exact Z_iret rfl rfl dX9_letter_45 (Nat.le_refl _) (Nat.le_refl _) ⟨_, rfl, h⟩
    · have h := h.2 q
      refine Z_aload_n dX9_letter_32 rfl 0 rfl ?_
      refine Z_iload_n dX9_letter_33 rfl 1 rfl ?_
      refine Z_bipush (v := 10) (by decide) dX9_letter_34 ?_
      refine Z_iload_n dX9_letter_36 rfl 2 rfl ?_
      refine Z_iadd dX9_letter_37 ?_
      refine Z_callVI (as := [vi p1, vi (10 + p2)]) zRm_M zcv_X9_letter_X9_ofFlow_67 (ci := 13) rfl rfl rfl rfl (zle rfl) dX9_letter_38 ⟨Nat.le_refl _, Nat.le_refl _⟩ h (fun x8 M7 h => ?_)
      refine Z_goto (tgt := 45) dX9_letter_41 (by decide) ?_
      exact Z_iret rfl rfl dX9_letter_45 (Nat.le_refl _) (Nat.le_refl _) ⟨_, rfl, h⟩
  · have h := h.2 q
    refine Z_iconst (v := 0) (by decide) dX9_letter_13 ?_
    exact Z_iret rfl rfl dX9_letter_14 (Nat.le_refl _) (Nat.le_refl _) ⟨_, rfl, h⟩
-- X9_lossShare
set_option maxRecDepth 100000 in
set_option maxHeartbeats 4000000 in
theorem zm_X9_lossShare {l : Launch} {G : zG} {M : zM} {Kf : UInt32 → zM → Prop} (h : (zCalI l G Y_X9_accountOf 0 0 [vr 30 0, vi (-1), vi 0] (zsI M 30 0 7 0) (fun x2 M1 => ((¬ x2 = 0 → (zCalI l G Y_X9_dropped 0 0 [vr 30 0] M1 (fun x4 M3 => (vf_n32 (FP.fdiv (FP.i2f x4) (FP.i2f x2)) ∧ (Kf (FP.fdiv (FP.i2f x4) (FP.i2f x2)) M3))))) ∧ (x2 = 0 → (Kf FP.fconst0 M1)))))) : zCalF l G Y_X9_lossShare 0 0 [vr 30 0] M Kf := by
  refine zCal_of (lv := [(0, vr 30 0)]) (by decide) rfl (zle rfl) rfl (fun hv => zlv_args (lv := [(0, vr 30 0)]) rfl hv) ?_
  refine Z_aload_n dX9_lossShare_0 rfl 0 rfl ?_
  refine Z_iconst (v := 0) (by decide) dX9_lossShare_1 ?_
  refine Z_putI zfp_X9_60 rfl rfl dX9_lossShare_2 ?_
  refine Z_aload_n dX9_lossShare_5 rfl 0 rfl ?_
  refine Z_iconst (v := (-1)) (by decide) dX9_lossShare_6 ?_
  refine Z_iconst (v := 0) (by decide) dX9_lossShare_7 ?_
  refine Z_callVI (as := [vi (-1), vi 0]) zRm_M zcv_X9_lossShare_X9_accountOf_75 (ci := 13) rfl rfl rfl rfl (zle rfl) dX9_lossShare_8 ⟨Nat.le_refl _, Nat.le_refl _⟩ h (fun x2 M1 h => ?_)
  refine Z_istore_n (lv2 := [(1, vi x2), (0, vr 30 0)]) dX9_lossShare_11 rfl (by decide) rfl ?_
  refine Z_iload_n dX9_lossShare_12 rfl 0 rfl ?_
  refine Z_if_ne (tgt := 20) dX9_lossShare_13 (by decide) (fun q => ?_) (fun q => ?_)
  · have h := h.1 q
    refine Z_aload_n dX9_lossShare_20 rfl 1 rfl ?_
    refine Z_callVI (as := []) zRm_M zcv_X9_lossShare_X9_dropped_395 (ci := 13) rfl rfl rfl rfl (zle rfl) dX9_lossShare_21 ⟨Nat.le_refl _, Nat.le_refl _⟩ h (fun x4 M3 h => ?_)
    refine Z_i2f dX9_lossShare_24 ?_
    refine Z_iload_n dX9_lossShare_25 rfl 0 rfl ?_
    refine Z_i2f dX9_lossShare_26 ?_
    obtain ⟨g5, h⟩ := h
    refine Z_fdiv dX9_lossShare_27 g5 ?_
    exact Z_fret rfl dX9_lossShare_28 (Nat.le_refl _) (Nat.le_refl _) ⟨_, rfl, h⟩
  · have h := h.2 q
    refine Z_fconst0 dX9_lossShare_16 ?_
    refine Z_goto (tgt := 28) dX9_lossShare_17 (by decide) ?_
    exact Z_fret rfl dX9_lossShare_28 (Nat.le_refl _) (Nat.le_refl _) ⟨_, rfl, h⟩
-- X9_meanWait
set_option maxRecDepth 100000 in
set_option maxHeartbeats 4000000 in
theorem zm_X9_meanWait {l : Launch} {G : zG} {p1 : Int32} {M : zM} {Kf : UInt64 → zM → Prop} (h : (zCalI l G Y_X9_noFlows 0 0 [vr 30 0, vi p1] (zsI M 30 0 7 0) (fun x2 M1 => ((¬ x2 = 0 → (Kf FP.dconst0 M1)) ∧ (x2 = 0 → (zCalI l G Y_X9_accountOf 0 0 [vr 30 0, vi p1, vi 5] M1 (fun x4 M3 => ((¬ x4 = 0 → (zCalI l G Y_X9_accountOf 0 0 [vr 30 0, vi p1, vi 7] M3 (fun x6 M5 => (zCalI l G Y_X9_accountOf 0 0 [vr 30 0, vi p1, vi 5] M5 (fun x8 M7 => (vf_n64 (FP.ddiv (FP.i2d x6) (FP.i2d x8)) ∧ (Kf (FP.ddiv (FP.i2d x6) (FP.i2d x8)) M7))))))) ∧ (x4 = 0 → (Kf FP.dconst0 M3)))))))))) : zCalD l G Y_X9_meanWait 0 0 [vr 30 0, vi p1] M Kf := by
  refine zCal_of (lv := [(0, vr 30 0), (1, vi p1)]) (by decide) rfl (zle rfl) rfl (fun hv => zlv_args (lv := [(0, vr 30 0), (1, vi p1)]) rfl hv) ?_
  refine Z_aload_n dX9_meanWait_0 rfl 0 rfl ?_
  refine Z_iconst (v := 0) (by decide) dX9_meanWait_1 ?_
  refine Z_putI zfp_X9_60 rfl rfl dX9_meanWait_2 ?_
  refine Z_aload_n dX9_meanWait_5 rfl 0 rfl ?_
  refine Z_iload_n dX9_meanWait_6 rfl 1 rfl ?_
  refine Z_callVI (as := [vi p1]) zRm_M zcv_X9_meanWait_X9_noFlows_384 (ci := 13) rfl rfl rfl rfl (zle rfl) dX9_meanWait_7 ⟨Nat.le_refl _, Nat.le_refl _⟩ h (fun x2 M1 h => ?_)
  refine Z_if_ne (tgt := 22) dX9_meanWait_10 (by decide) (fun q => ?_) (fun q => ?_)
  · have h := h.1 q
    refine Z_dconst0 dX9_meanWait_22 ?_
    exact Z_dret rfl dX9_meanWait_23 (Nat.le_refl _) (Nat.le_refl _) ⟨_, rfl, h⟩
  · have h := h.2 q
    refine Z_aload_n dX9_meanWait_13 rfl 0 rfl ?_
    refine Z_iload_n dX9_meanWait_14 rfl 1 rfl ?_
    refine Z_iconst (v := 5) (by decide) dX9_meanWait_15 ?_
    refine Z_callVI (as := [vi p1, vi 5]) zRm_M zcv_X9_meanWait_X9_accountOf_75 (ci := 13) rfl rfl rfl rfl (zle rfl) dX9_meanWait_16 ⟨Nat.le_refl _, Nat.le_refl _⟩ h (fun x4 M3 h => ?_)
    refine Z_if_ne (tgt := 24) dX9_meanWait_19 (by decide) (fun q => ?_) (fun q => ?_)
    · have h := h.1 q
      refine Z_aload_n dX9_meanWait_24 rfl 0 rfl ?_
      refine Z_iload_n dX9_meanWait_25 rfl 1 rfl ?_
      refine Z_bipush (v := 7) (by decide) dX9_meanWait_26 ?_
      refine Z_callVI (as := [vi p1, vi 7]) zRm_M zcv_X9_meanWait_X9_accountOf_75 (ci := 13) rfl rfl rfl rfl (zle rfl) dX9_meanWait_28 ⟨Nat.le_refl _, Nat.le_refl _⟩ h (fun x6 M5 h => ?_)
      refine Z_i2d dX9_meanWait_31 ?_
      refine Z_aload_n dX9_meanWait_32 rfl 0 rfl ?_
      refine Z_iload_n dX9_meanWait_33 rfl 1 rfl ?_
      refine Z_iconst (v := 5) (by decide) dX9_meanWait_34 ?_
      refine Z_callVI (as := [vi p1, vi 5]) zRm_M zcv_X9_meanWait_X9_accountOf_75 (ci := 13) rfl rfl rfl rfl (zle rfl) dX9_meanWait_35 ⟨Nat.le_refl _, Nat.le_refl _⟩ h (fun x8 M7 h => ?_)
      refine Z_i2d dX9_meanWait_38 ?_
      obtain ⟨g9, h⟩ := h
      refine Z_ddiv dX9_meanWait_39 g9 ?_
      exact Z_dret rfl dX9_meanWait_40 (Nat.le_refl _) (Nat.le_refl _) ⟨_, rfl, h⟩
    · have h := h.2 q
      refine Z_dconst0 dX9_meanWait_22 ?_
      exact Z_dret rfl dX9_meanWait_23 (Nat.le_refl _) (Nat.le_refl _) ⟨_, rfl, h⟩
