/-! printed by wip/whole/drive.py -/
abbrev Y_X9_named : zY := (yX9_named, cX9_named, 2, (some .int), 5, [])
theorem zw_1788 : Cond.methodLink RX9 239 yX9_noName ∈ zAll := zin 1788 (by decide +kernel) (by decide +kernel)
theorem zw_1791 : Cond.code yX9_noName cX9_noName 1 (some .boolean) ∈ zAll := zin 1791 (by decide +kernel) (by decide +kernel)
theorem zw_1790 : Cond.instanceMethod yX9_noName ∈ zAll := zin 1790 (by decide +kernel) (by decide +kernel)
theorem zw_44 : Cond.selects RX9 yX9_noName yX9_noName ∈ zAll := zin 44 (by decide +kernel) (by decide +kernel)
theorem zcv_X9_named_X9_noName_239 : zLV Y_X9_named 239 Y_X9_noName 0 RX9 := ⟨zw_1788, zw_1790, zw_44, zw_124, zw_1791, by decide +kernel, by decide, by decide⟩
theorem zw_1792 : Cond.methodLink RX9 243 yX9_found ∈ zAll := zin 1792 (by decide +kernel) (by decide +kernel)
theorem zw_1795 : Cond.code yX9_found cX9_found 2 (some .int) ∈ zAll := zin 1795 (by decide +kernel) (by decide +kernel)
theorem zw_1794 : Cond.instanceMethod yX9_found ∈ zAll := zin 1794 (by decide +kernel) (by decide +kernel)
theorem zw_45 : Cond.selects RX9 yX9_found yX9_found ∈ zAll := zin 45 (by decide +kernel) (by decide +kernel)
theorem zcv_X9_named_X9_found_243 : zLV Y_X9_named 243 Y_X9_found 0 RX9 := ⟨zw_1792, zw_1794, zw_45, zw_124, zw_1795, by decide +kernel, by decide, by decide⟩
theorem zcv_X9_named_X9_wrong_229 : zLV Y_X9_named 229 Y_X9_wrong 2 RX9 := ⟨zw_1749, zw_1751, zw_36, zw_124, zw_1752, by decide +kernel, by decide, by decide⟩
theorem zw_1718 : Cond.methodLink RX9 233 yX9_advance ∈ zAll := zin 1718 (by decide +kernel) (by decide +kernel)
theorem zw_1721 : Cond.code yX9_advance cX9_advance 2 none ∈ zAll := zin 1721 (by decide +kernel) (by decide +kernel)
theorem zw_1720 : Cond.instanceMethod yX9_advance ∈ zAll := zin 1720 (by decide +kernel) (by decide +kernel)
theorem zw_30 : Cond.selects RX9 yX9_advance yX9_advance ∈ zAll := zin 30 (by decide +kernel) (by decide +kernel)
theorem zcv_X9_named_X9_advance_233 : zLV Y_X9_named 233 Y_X9_advance 0 RX9 := ⟨zw_1718, zw_1720, zw_30, zw_124, zw_1721, by decide +kernel, by decide, by decide⟩
abbrev Y_X9_next : zY := (yX9_next, cX9_next, 1, (some .int), 5, [])
theorem zw_1912 : Cond.methodLink RX9 106 yX9_moved ∈ zAll := zin 1912 (by decide +kernel) (by decide +kernel)
theorem zw_1915 : Cond.code yX9_moved cX9_moved 3 (some .int) ∈ zAll := zin 1915 (by decide +kernel) (by decide +kernel)
theorem zw_1914 : Cond.instanceMethod yX9_moved ∈ zAll := zin 1914 (by decide +kernel) (by decide +kernel)
theorem zw_71 : Cond.selects RX9 yX9_moved yX9_moved ∈ zAll := zin 71 (by decide +kernel) (by decide +kernel)
theorem zcv_X9_next_X9_moved_106 : zLV Y_X9_next 106 Y_X9_moved 2 RX9 := ⟨zw_1912, zw_1914, zw_71, zw_124, zw_1915, by decide +kernel, by decide, by decide⟩
theorem zw_1916 : Cond.methodLink RX9 109 yX9_howOf ∈ zAll := zin 1916 (by decide +kernel) (by decide +kernel)
theorem zw_1919 : Cond.code yX9_howOf cX9_howOf 3 (some .int) ∈ zAll := zin 1919 (by decide +kernel) (by decide +kernel)
theorem zw_1918 : Cond.instanceMethod yX9_howOf ∈ zAll := zin 1918 (by decide +kernel) (by decide +kernel)
theorem zw_72 : Cond.selects RX9 yX9_howOf yX9_howOf ∈ zAll := zin 72 (by decide +kernel) (by decide +kernel)
theorem zcv_X9_next_X9_howOf_109 : zLV Y_X9_next 109 Y_X9_howOf 2 RX9 := ⟨zw_1916, zw_1918, zw_72, zw_124, zw_1919, by decide +kernel, by decide, by decide⟩
abbrev Y_X9_number : zY := (yX9_number, cX9_number, 4, (some .int), 5, [])
theorem zcv_X9_number_X9_wrong_229 : zLV Y_X9_number 229 Y_X9_wrong 2 RX9 := ⟨zw_1749, zw_1751, zw_36, zw_124, zw_1752, by decide +kernel, by decide, by decide⟩
theorem zcs_X9_number_X9_in_63 : zLS Y_X9_number 63 Y_X9_in 3 := ⟨zw_1730, zw_1731, zw_124, zw_1732, by decide +kernel, by decide, by decide⟩
theorem zcv_X9_number_X9_advance_233 : zLV Y_X9_number 233 Y_X9_advance 0 RX9 := ⟨zw_1718, zw_1720, zw_30, zw_124, zw_1721, by decide +kernel, by decide, by decide⟩
abbrev Y_X9_once : zY := (yX9_once, cX9_once, 2, none, 5, [])
theorem zw_1612 : Cond.fieldLink RX9 255 "EarlyDropsModel" "toldOnce" "I" ∈ zAll := zin 1612 (by decide +kernel) (by decide +kernel)
theorem zfl_X9_255 : zFL RX9 255 30 18 0 := ⟨13, RX9, TX9, 30, rfl, rfl, by decide, rfl, zw_1612, zws_X9⟩
theorem zcv_X9_once_X9_wrong_229 : zLV Y_X9_once 229 Y_X9_wrong 2 RX9 := ⟨zw_1749, zw_1751, zw_36, zw_124, zw_1752, by decide +kernel, by decide, by decide⟩
theorem zfp_X9_255 : zFP RX9 255 30 18 0 .int := ⟨13, RX9, TX9, 30, tyX9, ⟨rfl, rfl, by decide, rfl, zw_1612, zws_X9⟩, tyX9_ok, nmX9, rfl, by decide +kernel⟩
theorem zcv_X9_once_X9_advance_233 : zLV Y_X9_once 233 Y_X9_advance 0 RX9 := ⟨zw_1718, zw_1720, zw_30, zw_124, zw_1721, by decide +kernel, by decide, by decide⟩
abbrev Y_X9_report : zY := (yX9_report, cX9_report, 2, (some .int), 5, [])
theorem zcv_X9_report_X9_writes_435 : zLV Y_X9_report 435 Y_X9_writes 1 RX9 := ⟨zw_2205, zw_2207, zw_107, zw_124, zw_2208, by decide +kernel, by decide, by decide⟩
theorem zw_2201 : Cond.methodLink RX9 441 yX9_writesFlow ∈ zAll := zin 2201 (by decide +kernel) (by decide +kernel)
theorem zw_2204 : Cond.code yX9_writesFlow cX9_writesFlow 3 none ∈ zAll := zin 2204 (by decide +kernel) (by decide +kernel)
theorem zw_2203 : Cond.instanceMethod yX9_writesFlow ∈ zAll := zin 2203 (by decide +kernel) (by decide +kernel)
theorem zw_106 : Cond.selects RX9 yX9_writesFlow yX9_writesFlow ∈ zAll := zin 106 (by decide +kernel) (by decide +kernel)
theorem zcv_X9_report_X9_writesFlow_441 : zLV Y_X9_report 441 Y_X9_writesFlow 1 RX9 := ⟨zw_2201, zw_2203, zw_106, zw_124, zw_2204, by decide +kernel, by decide, by decide⟩
theorem zcv_X9_report_X9_ofPacket_159 : zLV Y_X9_report 159 Y_X9_ofPacket 2 RX9 := ⟨zw_1969, zw_1971, zw_83, zw_124, zw_1972, by decide +kernel, by decide, by decide⟩
theorem zcv_X9_report_X9_writesNumber_438 : zLV Y_X9_report 438 Y_X9_writesNumber 1 RX9 := ⟨zw_2209, zw_2211, zw_108, zw_124, zw_2212, by decide +kernel, by decide, by decide⟩
abbrev Y_X9_setLimits : zY := (yX9_setLimits, cX9_setLimits, 3, (some .int), 5, [])
theorem zcs_X9_setLimits_X9_in_63 : zLS Y_X9_setLimits 63 Y_X9_in 3 := ⟨zw_1730, zw_1731, zw_124, zw_1732, by decide +kernel, by decide, by decide⟩
theorem zcv_X9_setLimits_X9_fails_366 : zLV Y_X9_setLimits 366 Y_X9_fails 2 RX9 := ⟨zw_1993, zw_1995, zw_88, zw_124, zw_1996, by decide +kernel, by decide, by decide⟩
theorem zw_2161 : Cond.methodLink RX9 423 yX9_starts ∈ zAll := zin 2161 (by decide +kernel) (by decide +kernel)
theorem zw_2164 : Cond.code yX9_starts cX9_starts 1 none ∈ zAll := zin 2164 (by decide +kernel) (by decide +kernel)
theorem zw_2163 : Cond.instanceMethod yX9_starts ∈ zAll := zin 2163 (by decide +kernel) (by decide +kernel)
theorem zw_103 : Cond.selects RX9 yX9_starts yX9_starts ∈ zAll := zin 103 (by decide +kernel) (by decide +kernel)
theorem zcv_X9_setLimits_X9_starts_423 : zLV Y_X9_setLimits 423 Y_X9_starts 0 RX9 := ⟨zw_2161, zw_2163, zw_103, zw_124, zw_2164, by decide +kernel, by decide, by decide⟩
theorem zw_1973 : Cond.methodLink RX9 344 yX9_limitsNow ∈ zAll := zin 1973 (by decide +kernel) (by decide +kernel)
theorem zw_1976 : Cond.code yX9_limitsNow cX9_limitsNow 4 (some .int) ∈ zAll := zin 1976 (by decide +kernel) (by decide +kernel)
theorem zw_1975 : Cond.instanceMethod yX9_limitsNow ∈ zAll := zin 1975 (by decide +kernel) (by decide +kernel)
theorem zw_84 : Cond.selects RX9 yX9_limitsNow yX9_limitsNow ∈ zAll := zin 84 (by decide +kernel) (by decide +kernel)
theorem zcv_X9_setLimits_X9_limitsNow_344 : zLV Y_X9_setLimits 344 Y_X9_limitsNow 2 RX9 := ⟨zw_1973, zw_1975, zw_84, zw_124, zw_1976, by decide +kernel, by decide, by decide⟩
theorem zw_2165 : Cond.methodLink RX9 426 yX9_recorded ∈ zAll := zin 2165 (by decide +kernel) (by decide +kernel)
theorem zw_2168 : Cond.code yX9_recorded cX9_recorded 2 (some .int) ∈ zAll := zin 2168 (by decide +kernel) (by decide +kernel)
theorem zw_2167 : Cond.instanceMethod yX9_recorded ∈ zAll := zin 2167 (by decide +kernel) (by decide +kernel)
theorem zw_104 : Cond.selects RX9 yX9_recorded yX9_recorded ∈ zAll := zin 104 (by decide +kernel) (by decide +kernel)
theorem zcv_X9_setLimits_X9_recorded_426 : zLV Y_X9_setLimits 426 Y_X9_recorded 1 RX9 := ⟨zw_2165, zw_2167, zw_104, zw_124, zw_2168, by decide +kernel, by decide, by decide⟩
abbrev Y_X9_setOn : zY := (yX9_setOn, cX9_setOn, 3, (some .int), 5, [])
theorem zcv_X9_setOn_X9_noFlow_375 : zLV Y_X9_setOn 375 Y_X9_noFlow 1 RX9 := ⟨zw_2001, zw_2003, zw_89, zw_124, zw_2004, by decide +kernel, by decide, by decide⟩
theorem zcv_X9_setOn_X9_starts_423 : zLV Y_X9_setOn 423 Y_X9_starts 0 RX9 := ⟨zw_2161, zw_2163, zw_103, zw_124, zw_2164, by decide +kernel, by decide, by decide⟩
theorem zcs_X9_setOn_X9_one_99 : zLS Y_X9_setOn 99 Y_X9_one 1 := ⟨zw_1696, zw_1697, zw_124, zw_1698, by decide +kernel, by decide, by decide⟩
theorem zw_1981 : Cond.methodLink RX9 350 yX9_turnNow ∈ zAll := zin 1981 (by decide +kernel) (by decide +kernel)
theorem zw_1984 : Cond.code yX9_turnNow cX9_turnNow 3 (some .int) ∈ zAll := zin 1984 (by decide +kernel) (by decide +kernel)
theorem zw_1983 : Cond.instanceMethod yX9_turnNow ∈ zAll := zin 1983 (by decide +kernel) (by decide +kernel)
theorem zw_86 : Cond.selects RX9 yX9_turnNow yX9_turnNow ∈ zAll := zin 86 (by decide +kernel) (by decide +kernel)
theorem zcv_X9_setOn_X9_turnNow_350 : zLV Y_X9_setOn 350 Y_X9_turnNow 2 RX9 := ⟨zw_1981, zw_1983, zw_86, zw_124, zw_1984, by decide +kernel, by decide, by decide⟩
theorem zcv_X9_setOn_X9_recorded_426 : zLV Y_X9_setOn 426 Y_X9_recorded 1 RX9 := ⟨zw_2165, zw_2167, zw_104, zw_124, zw_2168, by decide +kernel, by decide, by decide⟩
abbrev Y_X9_sets : zY := (yX9_sets, cX9_sets, 4, (some .int), 5, [])
theorem zcs_X9_sets_X9_in_63 : zLS Y_X9_sets 63 Y_X9_in 3 := ⟨zw_1730, zw_1731, zw_124, zw_1732, by decide +kernel, by decide, by decide⟩
theorem zcv_X9_sets_X9_fails_366 : zLV Y_X9_sets 366 Y_X9_fails 2 RX9 := ⟨zw_1993, zw_1995, zw_88, zw_124, zw_1996, by decide +kernel, by decide, by decide⟩
theorem zcv_X9_sets_X9_starts_423 : zLV Y_X9_sets 423 Y_X9_starts 0 RX9 := ⟨zw_2161, zw_2163, zw_103, zw_124, zw_2164, by decide +kernel, by decide, by decide⟩
theorem zw_1977 : Cond.methodLink RX9 347 yX9_setNow ∈ zAll := zin 1977 (by decide +kernel) (by decide +kernel)
theorem zw_1980 : Cond.code yX9_setNow cX9_setNow 4 (some .int) ∈ zAll := zin 1980 (by decide +kernel) (by decide +kernel)
theorem zw_1979 : Cond.instanceMethod yX9_setNow ∈ zAll := zin 1979 (by decide +kernel) (by decide +kernel)
theorem zw_85 : Cond.selects RX9 yX9_setNow yX9_setNow ∈ zAll := zin 85 (by decide +kernel) (by decide +kernel)
theorem zcv_X9_sets_X9_setNow_347 : zLV Y_X9_sets 347 Y_X9_setNow 2 RX9 := ⟨zw_1977, zw_1979, zw_85, zw_124, zw_1980, by decide +kernel, by decide, by decide⟩
theorem zcv_X9_sets_X9_recorded_426 : zLV Y_X9_sets 426 Y_X9_recorded 1 RX9 := ⟨zw_2165, zw_2167, zw_104, zw_124, zw_2168, by decide +kernel, by decide, by decide⟩
abbrev Y_X9_takesSign : zY := (yX9_takesSign, cX9_takesSign, 2, none, 5, [])
theorem zw_1757 : Cond.methodLink RX9 226 yX9_isSign ∈ zAll := zin 1757 (by decide +kernel) (by decide +kernel)
theorem zw_1760 : Cond.code yX9_isSign cX9_isSign 2 (some .boolean) ∈ zAll := zin 1760 (by decide +kernel) (by decide +kernel)
theorem zw_1759 : Cond.instanceMethod yX9_isSign ∈ zAll := zin 1759 (by decide +kernel) (by decide +kernel)
theorem zw_38 : Cond.selects RX9 yX9_isSign yX9_isSign ∈ zAll := zin 38 (by decide +kernel) (by decide +kernel)
theorem zcv_X9_takesSign_X9_isSign_226 : zLV Y_X9_takesSign 226 Y_X9_isSign 1 RX9 := ⟨zw_1757, zw_1759, zw_38, zw_124, zw_1760, by decide +kernel, by decide, by decide⟩
theorem zcv_X9_takesSign_X9_wrong_229 : zLV Y_X9_takesSign 229 Y_X9_wrong 2 RX9 := ⟨zw_1749, zw_1751, zw_36, zw_124, zw_1752, by decide +kernel, by decide, by decide⟩
theorem zcv_X9_takesSign_X9_advance_233 : zLV Y_X9_takesSign 233 Y_X9_advance 0 RX9 := ⟨zw_1718, zw_1720, zw_30, zw_124, zw_1721, by decide +kernel, by decide, by decide⟩
abbrev Y_X9_closes : zY := (yX9_closes, cX9_closes, 1, none, 6, [])
theorem zw_1621 : Cond.fieldLink RX9 332 "EarlyDropsModel" "opened" "I" ∈ zAll := zin 1621 (by decide +kernel) (by decide +kernel)
theorem zfl_X9_332 : zFL RX9 332 30 27 0 := ⟨13, RX9, TX9, 30, rfl, rfl, by decide, rfl, zw_1621, zws_X9⟩
theorem zcv_X9_closes_X9_isSign_226 : zLV Y_X9_closes 226 Y_X9_isSign 1 RX9 := ⟨zw_1757, zw_1759, zw_38, zw_124, zw_1760, by decide +kernel, by decide, by decide⟩
theorem zfp_X9_332 : zFP RX9 332 30 27 0 .int := ⟨13, RX9, TX9, 30, tyX9, ⟨rfl, rfl, by decide, rfl, zw_1621, zws_X9⟩, tyX9_ok, nmX9, rfl, by decide +kernel⟩
theorem zw_1616 : Cond.fieldLink RX9 45 "EarlyDropsModel" "ends" "[I" ∈ zAll := zin 1616 (by decide +kernel) (by decide +kernel)
theorem zfl_X9_45 : zFL RX9 45 30 22 1 := ⟨13, RX9, TX9, 30, rfl, rfl, by decide, rfl, zw_1616, zws_X9⟩
theorem zw_1617 : Cond.fieldLink RX9 48 "EarlyDropsModel" "begun" "[I" ∈ zAll := zin 1617 (by decide +kernel) (by decide +kernel)
theorem zfl_X9_48 : zFL RX9 48 30 23 1 := ⟨13, RX9, TX9, 30, rfl, rfl, by decide, rfl, zw_1617, zws_X9⟩
theorem zw_1619 : Cond.fieldLink RX9 320 "EarlyDropsModel" "lines" "I" ∈ zAll := zin 1619 (by decide +kernel) (by decide +kernel)
theorem zfl_X9_320 : zFL RX9 320 30 25 0 := ⟨13, RX9, TX9, 30, rfl, rfl, by decide, rfl, zw_1619, zws_X9⟩
theorem zw_1613 : Cond.fieldLink RX9 36 "EarlyDropsModel" "orders" "[I" ∈ zAll := zin 1613 (by decide +kernel) (by decide +kernel)
theorem zfl_X9_36 : zFL RX9 36 30 19 1 := ⟨13, RX9, TX9, 30, rfl, rfl, by decide, rfl, zw_1613, zws_X9⟩
theorem zfp_X9_320 : zFP RX9 320 30 25 0 .int := ⟨13, RX9, TX9, 30, tyX9, ⟨rfl, rfl, by decide, rfl, zw_1619, zws_X9⟩, tyX9_ok, nmX9, rfl, by decide +kernel⟩
theorem zcv_X9_closes_X9_advance_233 : zLV Y_X9_closes 233 Y_X9_advance 0 RX9 := ⟨zw_1718, zw_1720, zw_30, zw_124, zw_1721, by decide +kernel, by decide, by decide⟩
theorem zw_1846 : Cond.methodLink RX9 329 yX9_takesSign ∈ zAll := zin 1846 (by decide +kernel) (by decide +kernel)
theorem zw_1849 : Cond.code yX9_takesSign cX9_takesSign 2 none ∈ zAll := zin 1849 (by decide +kernel) (by decide +kernel)
theorem zw_1848 : Cond.instanceMethod yX9_takesSign ∈ zAll := zin 1848 (by decide +kernel) (by decide +kernel)
theorem zw_55 : Cond.selects RX9 yX9_takesSign yX9_takesSign ∈ zAll := zin 55 (by decide +kernel) (by decide +kernel)
theorem zcv_X9_closes_X9_takesSign_329 : zLV Y_X9_closes 329 Y_X9_takesSign 1 RX9 := ⟨zw_1846, zw_1848, zw_55, zw_124, zw_1849, by decide +kernel, by decide, by decide⟩
abbrev Y_X9_firstHere : zY := (yX9_firstHere, cX9_firstHere, 2, (some .int), 6, [])
theorem zw_1753 : Cond.methodLink RX9 246 yX9_number ∈ zAll := zin 1753 (by decide +kernel) (by decide +kernel)
theorem zw_1756 : Cond.code yX9_number cX9_number 4 (some .int) ∈ zAll := zin 1756 (by decide +kernel) (by decide +kernel)
theorem zw_1755 : Cond.instanceMethod yX9_number ∈ zAll := zin 1755 (by decide +kernel) (by decide +kernel)
theorem zw_37 : Cond.selects RX9 yX9_number yX9_number ∈ zAll := zin 37 (by decide +kernel) (by decide +kernel)
theorem zcv_X9_firstHere_X9_number_246 : zLV Y_X9_firstHere 246 Y_X9_number 2 RX9 := ⟨zw_1753, zw_1755, zw_37, zw_124, zw_1756, by decide +kernel, by decide, by decide⟩
theorem zw_1838 : Cond.methodLink RX9 311 yX9_named ∈ zAll := zin 1838 (by decide +kernel) (by decide +kernel)
theorem zw_1841 : Cond.code yX9_named cX9_named 2 (some .int) ∈ zAll := zin 1841 (by decide +kernel) (by decide +kernel)
theorem zw_1840 : Cond.instanceMethod yX9_named ∈ zAll := zin 1840 (by decide +kernel) (by decide +kernel)
theorem zw_53 : Cond.selects RX9 yX9_named yX9_named ∈ zAll := zin 53 (by decide +kernel) (by decide +kernel)
theorem zcv_X9_firstHere_X9_named_311 : zLV Y_X9_firstHere 311 Y_X9_named 0 RX9 := ⟨zw_1838, zw_1840, zw_53, zw_124, zw_1841, by decide +kernel, by decide, by decide⟩
abbrev Y_X9_limits : zY := (yX9_limits, cX9_limits, 1, none, 6, [])
theorem zw_1770 : Cond.methodLink RX9 258 yX9_once ∈ zAll := zin 1770 (by decide +kernel) (by decide +kernel)
theorem zw_1773 : Cond.code yX9_once cX9_once 2 none ∈ zAll := zin 1773 (by decide +kernel) (by decide +kernel)
theorem zw_1772 : Cond.instanceMethod yX9_once ∈ zAll := zin 1772 (by decide +kernel) (by decide +kernel)
theorem zw_41 : Cond.selects RX9 yX9_once yX9_once ∈ zAll := zin 41 (by decide +kernel) (by decide +kernel)
theorem zcv_X9_limits_X9_once_258 : zLV Y_X9_limits 258 Y_X9_once 1 RX9 := ⟨zw_1770, zw_1772, zw_41, zw_124, zw_1773, by decide +kernel, by decide, by decide⟩
theorem zcv_X9_limits_X9_number_246 : zLV Y_X9_limits 246 Y_X9_number 2 RX9 := ⟨zw_1753, zw_1755, zw_37, zw_124, zw_1756, by decide +kernel, by decide, by decide⟩
abbrev Y_X9_secondHere : zY := (yX9_secondHere, cX9_secondHere, 3, (some .int), 6, [])
theorem zcv_X9_secondHere_X9_number_246 : zLV Y_X9_secondHere 246 Y_X9_number 2 RX9 := ⟨zw_1753, zw_1755, zw_37, zw_124, zw_1756, by decide +kernel, by decide, by decide⟩
abbrev Y_X9_setGentle : zY := (yX9_setGentle, cX9_setGentle, 2, (some .int), 6, [])
theorem zw_2181 : Cond.methodLink RX9 429 yX9_sets ∈ zAll := zin 2181 (by decide +kernel) (by decide +kernel)
theorem zw_2184 : Cond.code yX9_sets cX9_sets 4 (some .int) ∈ zAll := zin 2184 (by decide +kernel) (by decide +kernel)
theorem zw_2183 : Cond.instanceMethod yX9_sets ∈ zAll := zin 2183 (by decide +kernel) (by decide +kernel)
theorem zw_105 : Cond.selects RX9 yX9_sets yX9_sets ∈ zAll := zin 105 (by decide +kernel) (by decide +kernel)
theorem zcv_X9_setGentle_X9_sets_429 : zLV Y_X9_setGentle 429 Y_X9_sets 3 RX9 := ⟨zw_2181, zw_2183, zw_105, zw_124, zw_2184, by decide +kernel, by decide, by decide⟩
abbrev Y_X9_setTop : zY := (yX9_setTop, cX9_setTop, 2, (some .int), 6, [])
theorem zcv_X9_setTop_X9_sets_429 : zLV Y_X9_setTop 429 Y_X9_sets 3 RX9 := ⟨zw_2181, zw_2183, zw_105, zw_124, zw_2184, by decide +kernel, by decide, by decide⟩
abbrev Y_X9_setWeight : zY := (yX9_setWeight, cX9_setWeight, 2, (some .int), 6, [])
theorem zcv_X9_setWeight_X9_sets_429 : zLV Y_X9_setWeight 429 Y_X9_sets 3 RX9 := ⟨zw_2181, zw_2183, zw_105, zw_124, zw_2184, by decide +kernel, by decide, by decide⟩
abbrev Y_X9_setting : zY := (yX9_setting, cX9_setting, 4, none, 6, [])
theorem zcv_X9_setting_X9_once_258 : zLV Y_X9_setting 258 Y_X9_once 1 RX9 := ⟨zw_1770, zw_1772, zw_41, zw_124, zw_1773, by decide +kernel, by decide, by decide⟩
theorem zcv_X9_setting_X9_number_246 : zLV Y_X9_setting 246 Y_X9_number 2 RX9 := ⟨zw_1753, zw_1755, zw_37, zw_124, zw_1756, by decide +kernel, by decide, by decide⟩
abbrev Y_X9_isKey : zY := (yX9_isKey, cX9_isKey, 3, (some .boolean), 9, [])
theorem zcv_X9_isKey_X9_length_216 : zLV Y_X9_isKey 216 Y_X9_length 0 RX9 := ⟨zw_1743, zw_1745, zw_35, zw_124, zw_1746, by decide +kernel, by decide, by decide⟩
abbrev Y_J0_length_8abf5 : zY := (yJ0_length_8abf5, cJ0_length_8abf5, 1, (some .int), 5, [])
theorem zw_1747 : Cond.methodLink RX9 219 yJ0_length_8abf5 ∈ zAll := zin 1747 (by decide +kernel) (by decide +kernel)
theorem zw_556 : Cond.code yJ0_length_8abf5 cJ0_length_8abf5 1 (some .int) ∈ zAll := zin 556 (by decide +kernel) (by decide +kernel)
theorem zw_554 : Cond.instanceMethod yJ0_length_8abf5 ∈ zAll := zin 554 (by decide +kernel) (by decide +kernel)
theorem zw_555 : Cond.selects RJ0 yJ0_length_8abf5 yJ0_length_8abf5 ∈ zAll := zin 555 (by decide +kernel) (by decide +kernel)
theorem zw_122 : Cond.initialized RJ0 ∈ zAll := zin 122 (by decide +kernel) (by decide +kernel)
theorem zcv_X9_isKey_J0_length_8abf5_219 : zLV Y_X9_isKey 219 Y_J0_length_8abf5 0 RJ0 := ⟨zw_1747, zw_554, zw_555, zw_122, zw_556, by decide +kernel, by decide, by decide⟩
abbrev Y_J0_charAt_5068e : zY := (yJ0_charAt_5068e, cJ0_charAt_5068e, 2, (some .char), 8, [])
theorem zw_1748 : Cond.methodLink RX9 222 yJ0_charAt_5068e ∈ zAll := zin 1748 (by decide +kernel) (by decide +kernel)
theorem zw_565 : Cond.code yJ0_charAt_5068e cJ0_charAt_5068e 2 (some .char) ∈ zAll := zin 565 (by decide +kernel) (by decide +kernel)
theorem zw_563 : Cond.instanceMethod yJ0_charAt_5068e ∈ zAll := zin 563 (by decide +kernel) (by decide +kernel)
theorem zw_564 : Cond.selects RJ0 yJ0_charAt_5068e yJ0_charAt_5068e ∈ zAll := zin 564 (by decide +kernel) (by decide +kernel)
theorem zcv_X9_isKey_J0_charAt_5068e_222 : zLV Y_X9_isKey 222 Y_J0_charAt_5068e 1 RJ0 := ⟨zw_1748, zw_563, zw_564, zw_122, zw_565, by decide +kernel, by decide, by decide⟩
abbrev Y_X9_newFlow : zY := (yX9_newFlow, cX9_newFlow, 4, none, 10, [])
theorem zcv_X9_newFlow_X9_wrong_229 : zLV Y_X9_newFlow 229 Y_X9_wrong 2 RX9 := ⟨zw_1749, zw_1751, zw_36, zw_124, zw_1752, by decide +kernel, by decide, by decide⟩
theorem zcv_X9_newFlow_X9_advance_233 : zLV Y_X9_newFlow 233 Y_X9_advance 0 RX9 := ⟨zw_1718, zw_1720, zw_30, zw_124, zw_1721, by decide +kernel, by decide, by decide⟩
theorem zcv_X9_newFlow_X9_noName_239 : zLV Y_X9_newFlow 239 Y_X9_noName 0 RX9 := ⟨zw_1788, zw_1790, zw_44, zw_124, zw_1791, by decide +kernel, by decide, by decide⟩
theorem zcv_X9_newFlow_X9_found_243 : zLV Y_X9_newFlow 243 Y_X9_found 0 RX9 := ⟨zw_1792, zw_1794, zw_45, zw_124, zw_1795, by decide +kernel, by decide, by decide⟩
theorem zcv_X9_newFlow_X9_length_216 : zLV Y_X9_newFlow 216 Y_X9_length 0 RX9 := ⟨zw_1743, zw_1745, zw_35, zw_124, zw_1746, by decide +kernel, by decide, by decide⟩
theorem zcv_X9_newFlow_X9_number_246 : zLV Y_X9_newFlow 246 Y_X9_number 2 RX9 := ⟨zw_1753, zw_1755, zw_37, zw_124, zw_1756, by decide +kernel, by decide, by decide⟩
theorem zw_1739 : Cond.methodLink RX9 251 yX9_isKey ∈ zAll := zin 1739 (by decide +kernel) (by decide +kernel)
theorem zw_1742 : Cond.code yX9_isKey cX9_isKey 3 (some .boolean) ∈ zAll := zin 1742 (by decide +kernel) (by decide +kernel)
theorem zw_1741 : Cond.instanceMethod yX9_isKey ∈ zAll := zin 1741 (by decide +kernel) (by decide +kernel)
theorem zw_34 : Cond.selects RX9 yX9_isKey yX9_isKey ∈ zAll := zin 34 (by decide +kernel) (by decide +kernel)
theorem zcv_X9_newFlow_X9_isKey_251 : zLV Y_X9_newFlow 251 Y_X9_isKey 1 RX9 := ⟨zw_1739, zw_1741, zw_34, zw_124, zw_1742, by decide +kernel, by decide, by decide⟩
theorem zcs_X9_newFlow_X9_one_99 : zLS Y_X9_newFlow 99 Y_X9_one 1 := ⟨zw_1696, zw_1697, zw_124, zw_1698, by decide +kernel, by decide, by decide⟩
abbrev Y_X9_orderHere : zY := (yX9_orderHere, cX9_orderHere, 1, (some .int), 10, [])
theorem zcv_X9_orderHere_X9_isKey_251 : zLV Y_X9_orderHere 251 Y_X9_isKey 1 RX9 := ⟨zw_1739, zw_1741, zw_34, zw_124, zw_1742, by decide +kernel, by decide, by decide⟩
abbrev Y_X9_statement : zY := (yX9_statement, cX9_statement, 1, none, 11, [])
theorem zcv_X9_statement_X9_isKey_251 : zLV Y_X9_statement 251 Y_X9_isKey 1 RX9 := ⟨zw_1739, zw_1741, zw_34, zw_124, zw_1742, by decide +kernel, by decide, by decide⟩
theorem zcv_X9_statement_X9_wrong_229 : zLV Y_X9_statement 229 Y_X9_wrong 2 RX9 := ⟨zw_1749, zw_1751, zw_36, zw_124, zw_1752, by decide +kernel, by decide, by decide⟩
theorem zw_1784 : Cond.methodLink RX9 278 yX9_newFlow ∈ zAll := zin 1784 (by decide +kernel) (by decide +kernel)
theorem zw_1787 : Cond.code yX9_newFlow cX9_newFlow 4 none ∈ zAll := zin 1787 (by decide +kernel) (by decide +kernel)
theorem zw_1786 : Cond.instanceMethod yX9_newFlow ∈ zAll := zin 1786 (by decide +kernel) (by decide +kernel)
theorem zw_43 : Cond.selects RX9 yX9_newFlow yX9_newFlow ∈ zAll := zin 43 (by decide +kernel) (by decide +kernel)
theorem zcv_X9_statement_X9_newFlow_278 : zLV Y_X9_statement 278 Y_X9_newFlow 0 RX9 := ⟨zw_1784, zw_1786, zw_43, zw_124, zw_1787, by decide +kernel, by decide, by decide⟩
theorem zw_1776 : Cond.methodLink RX9 267 yX9_setting ∈ zAll := zin 1776 (by decide +kernel) (by decide +kernel)
theorem zw_1779 : Cond.code yX9_setting cX9_setting 4 none ∈ zAll := zin 1779 (by decide +kernel) (by decide +kernel)
theorem zw_1778 : Cond.instanceMethod yX9_setting ∈ zAll := zin 1778 (by decide +kernel) (by decide +kernel)
theorem zw_42 : Cond.selects RX9 yX9_setting yX9_setting ∈ zAll := zin 42 (by decide +kernel) (by decide +kernel)
theorem zcv_X9_statement_X9_setting_267 : zLV Y_X9_statement 267 Y_X9_setting 3 RX9 := ⟨zw_1776, zw_1778, zw_42, zw_124, zw_1779, by decide +kernel, by decide, by decide⟩
theorem zw_1766 : Cond.methodLink RX9 263 yX9_limits ∈ zAll := zin 1766 (by decide +kernel) (by decide +kernel)
theorem zw_1769 : Cond.code yX9_limits cX9_limits 1 none ∈ zAll := zin 1769 (by decide +kernel) (by decide +kernel)
theorem zw_1768 : Cond.instanceMethod yX9_limits ∈ zAll := zin 1768 (by decide +kernel) (by decide +kernel)
theorem zw_40 : Cond.selects RX9 yX9_limits yX9_limits ∈ zAll := zin 40 (by decide +kernel) (by decide +kernel)
theorem zcv_X9_statement_X9_limits_263 : zLV Y_X9_statement 263 Y_X9_limits 0 RX9 := ⟨zw_1766, zw_1768, zw_40, zw_124, zw_1769, by decide +kernel, by decide, by decide⟩
abbrev Y_X9_setup : zY := (yX9_setup, cX9_setup, 2, none, 12, [])
theorem zcv_X9_setup_X9_advance_233 : zLV Y_X9_setup 233 Y_X9_advance 0 RX9 := ⟨zw_1718, zw_1720, zw_30, zw_124, zw_1721, by decide +kernel, by decide, by decide⟩
theorem zw_1590 : Cond.methodLink RX9 57 yX9_begins ∈ zAll := zin 1590 (by decide +kernel) (by decide +kernel)
theorem zw_1593 : Cond.code yX9_begins cX9_begins 2 none ∈ zAll := zin 1593 (by decide +kernel) (by decide +kernel)
theorem zw_1592 : Cond.instanceMethod yX9_begins ∈ zAll := zin 1592 (by decide +kernel) (by decide +kernel)
theorem zw_26 : Cond.selects RX9 yX9_begins yX9_begins ∈ zAll := zin 26 (by decide +kernel) (by decide +kernel)
theorem zcv_X9_setup_X9_begins_57 : zLV Y_X9_setup 57 Y_X9_begins 0 RX9 := ⟨zw_1590, zw_1592, zw_26, zw_124, zw_1593, by decide +kernel, by decide, by decide⟩
theorem zcv_X9_setup_X9_isKey_251 : zLV Y_X9_setup 251 Y_X9_isKey 1 RX9 := ⟨zw_1739, zw_1741, zw_34, zw_124, zw_1742, by decide +kernel, by decide, by decide⟩
theorem zcv_X9_setup_X9_wrong_229 : zLV Y_X9_setup 229 Y_X9_wrong 2 RX9 := ⟨zw_1749, zw_1751, zw_36, zw_124, zw_1752, by decide +kernel, by decide, by decide⟩
theorem zcv_X9_setup_X9_number_246 : zLV Y_X9_setup 246 Y_X9_number 2 RX9 := ⟨zw_1753, zw_1755, zw_37, zw_124, zw_1756, by decide +kernel, by decide, by decide⟩
theorem zcv_X9_setup_X9_isSign_226 : zLV Y_X9_setup 226 Y_X9_isSign 1 RX9 := ⟨zw_1757, zw_1759, zw_38, zw_124, zw_1760, by decide +kernel, by decide, by decide⟩
theorem zw_1761 : Cond.methodLink RX9 283 yX9_statement ∈ zAll := zin 1761 (by decide +kernel) (by decide +kernel)
theorem zw_1764 : Cond.code yX9_statement cX9_statement 1 none ∈ zAll := zin 1764 (by decide +kernel) (by decide +kernel)
theorem zw_1763 : Cond.instanceMethod yX9_statement ∈ zAll := zin 1763 (by decide +kernel) (by decide +kernel)
theorem zw_39 : Cond.selects RX9 yX9_statement yX9_statement ∈ zAll := zin 39 (by decide +kernel) (by decide +kernel)
theorem zcv_X9_setup_X9_statement_283 : zLV Y_X9_setup 283 Y_X9_statement 0 RX9 := ⟨zw_1761, zw_1763, zw_39, zw_124, zw_1764, by decide +kernel, by decide, by decide⟩
abbrev Y_X9_load : zY := (yX9_load, cX9_load, 2, (some .int), 13, [])
theorem zw_1707 : Cond.methodLink RX9 286 yX9_aside ∈ zAll := zin 1707 (by decide +kernel) (by decide +kernel)
theorem zw_1710 : Cond.code yX9_aside cX9_aside 1 none ∈ zAll := zin 1710 (by decide +kernel) (by decide +kernel)
theorem zw_1709 : Cond.instanceMethod yX9_aside ∈ zAll := zin 1709 (by decide +kernel) (by decide +kernel)
theorem zw_28 : Cond.selects RX9 yX9_aside yX9_aside ∈ zAll := zin 28 (by decide +kernel) (by decide +kernel)
theorem zcv_X9_load_X9_aside_286 : zLV Y_X9_load 286 Y_X9_aside 0 RX9 := ⟨zw_1707, zw_1709, zw_28, zw_124, zw_1710, by decide +kernel, by decide, by decide⟩
theorem zw_1714 : Cond.methodLink RX9 289 yX9_setup ∈ zAll := zin 1714 (by decide +kernel) (by decide +kernel)
theorem zw_1717 : Cond.code yX9_setup cX9_setup 2 none ∈ zAll := zin 1717 (by decide +kernel) (by decide +kernel)
theorem zw_1716 : Cond.instanceMethod yX9_setup ∈ zAll := zin 1716 (by decide +kernel) (by decide +kernel)
theorem zw_29 : Cond.selects RX9 yX9_setup yX9_setup ∈ zAll := zin 29 (by decide +kernel) (by decide +kernel)
theorem zcv_X9_load_X9_setup_289 : zLV Y_X9_load 289 Y_X9_setup 0 RX9 := ⟨zw_1714, zw_1716, zw_29, zw_124, zw_1717, by decide +kernel, by decide, by decide⟩
theorem zw_1801 : Cond.methodLink RX9 292 yX9_ended ∈ zAll := zin 1801 (by decide +kernel) (by decide +kernel)
theorem zw_1804 : Cond.code yX9_ended cX9_ended 1 (some .int) ∈ zAll := zin 1804 (by decide +kernel) (by decide +kernel)
theorem zw_1803 : Cond.instanceMethod yX9_ended ∈ zAll := zin 1803 (by decide +kernel) (by decide +kernel)
theorem zw_47 : Cond.selects RX9 yX9_ended yX9_ended ∈ zAll := zin 47 (by decide +kernel) (by decide +kernel)
theorem zcv_X9_load_X9_ended_292 : zLV Y_X9_load 292 Y_X9_ended 0 RX9 := ⟨zw_1801, zw_1803, zw_47, zw_124, zw_1804, by decide +kernel, by decide, by decide⟩
theorem zw_1805 : Cond.methodLink RX9 295 yX9_back ∈ zAll := zin 1805 (by decide +kernel) (by decide +kernel)
theorem zw_1808 : Cond.code yX9_back cX9_back 2 (some .int) ∈ zAll := zin 1808 (by decide +kernel) (by decide +kernel)
theorem zw_1807 : Cond.instanceMethod yX9_back ∈ zAll := zin 1807 (by decide +kernel) (by decide +kernel)
theorem zw_48 : Cond.selects RX9 yX9_back yX9_back ∈ zAll := zin 48 (by decide +kernel) (by decide +kernel)
theorem zcv_X9_load_X9_back_295 : zLV Y_X9_load 295 Y_X9_back 1 RX9 := ⟨zw_1805, zw_1807, zw_48, zw_124, zw_1808, by decide +kernel, by decide, by decide⟩
abbrev Y_X9_chanceOf : zY := (yX9_chanceOf, cX9_chanceOf, 5, (some .int), 17, [])
theorem zw_1952 : Cond.methodLink RX9 91 Lib.MathLoose.min_long.x ∈ zAll := zin 1952 (by decide +kernel) (by decide +kernel)
theorem zw_1953 : Cond.static Lib.MathLoose.min_long.x ∈ zAll := zin 1953 (by decide +kernel) (by decide +kernel)
theorem zw_129 : Cond.initialized "java/lang/Math" ∈ zAll := zin 129 (by decide +kernel) (by decide +kernel)
theorem zw_1954 : Cond.code Lib.MathLoose.min_long.x Lib.MathLoose.min_long.code 4 (some .long) ∈ zAll := zin 1954 (by decide +kernel) (by decide +kernel)
abbrev Y_X9_readsOrder : zY := (yX9_readsOrder, cX9_readsOrder, 2, none, 17, [])
theorem zw_1825 : Cond.methodLink RX9 314 yX9_orderHere ∈ zAll := zin 1825 (by decide +kernel) (by decide +kernel)
theorem zw_1828 : Cond.code yX9_orderHere cX9_orderHere 1 (some .int) ∈ zAll := zin 1828 (by decide +kernel) (by decide +kernel)
theorem zw_1827 : Cond.instanceMethod yX9_orderHere ∈ zAll := zin 1827 (by decide +kernel) (by decide +kernel)
theorem zw_51 : Cond.selects RX9 yX9_orderHere yX9_orderHere ∈ zAll := zin 51 (by decide +kernel) (by decide +kernel)
theorem zcv_X9_readsOrder_X9_orderHere_314 : zLV Y_X9_readsOrder 314 Y_X9_orderHere 0 RX9 := ⟨zw_1825, zw_1827, zw_51, zw_124, zw_1828, by decide +kernel, by decide, by decide⟩
theorem zcv_X9_readsOrder_X9_wrong_229 : zLV Y_X9_readsOrder 229 Y_X9_wrong 2 RX9 := ⟨zw_1749, zw_1751, zw_36, zw_124, zw_1752, by decide +kernel, by decide, by decide⟩
theorem zw_1620 : Cond.fieldLink RX9 317 "EarlyDropsModel" "told" "I" ∈ zAll := zin 1620 (by decide +kernel) (by decide +kernel)
theorem zfl_X9_317 : zFL RX9 317 30 26 0 := ⟨13, RX9, TX9, 30, rfl, rfl, by decide, rfl, zw_1620, zws_X9⟩
theorem zfp_X9_317 : zFP RX9 317 30 26 0 .int := ⟨13, RX9, TX9, 30, tyX9, ⟨rfl, rfl, by decide, rfl, zw_1620, zws_X9⟩, tyX9_ok, nmX9, rfl, by decide +kernel⟩
theorem zcv_X9_readsOrder_X9_advance_233 : zLV Y_X9_readsOrder 233 Y_X9_advance 0 RX9 := ⟨zw_1718, zw_1720, zw_30, zw_124, zw_1721, by decide +kernel, by decide, by decide⟩
theorem zw_1614 : Cond.fieldLink RX9 39 "EarlyDropsModel" "first" "[I" ∈ zAll := zin 1614 (by decide +kernel) (by decide +kernel)
theorem zfl_X9_39 : zFL RX9 39 30 20 1 := ⟨13, RX9, TX9, 30, rfl, rfl, by decide, rfl, zw_1614, zws_X9⟩
theorem zw_1834 : Cond.methodLink RX9 323 yX9_firstHere ∈ zAll := zin 1834 (by decide +kernel) (by decide +kernel)
theorem zw_1837 : Cond.code yX9_firstHere cX9_firstHere 2 (some .int) ∈ zAll := zin 1837 (by decide +kernel) (by decide +kernel)
theorem zw_1836 : Cond.instanceMethod yX9_firstHere ∈ zAll := zin 1836 (by decide +kernel) (by decide +kernel)
theorem zw_52 : Cond.selects RX9 yX9_firstHere yX9_firstHere ∈ zAll := zin 52 (by decide +kernel) (by decide +kernel)
theorem zcv_X9_readsOrder_X9_firstHere_323 : zLV Y_X9_readsOrder 323 Y_X9_firstHere 1 RX9 := ⟨zw_1834, zw_1836, zw_52, zw_124, zw_1837, by decide +kernel, by decide, by decide⟩
theorem zw_1615 : Cond.fieldLink RX9 42 "EarlyDropsModel" "second" "[I" ∈ zAll := zin 1615 (by decide +kernel) (by decide +kernel)
theorem zfl_X9_42 : zFL RX9 42 30 21 1 := ⟨13, RX9, TX9, 30, rfl, rfl, by decide, rfl, zw_1615, zws_X9⟩
theorem zw_1842 : Cond.methodLink RX9 326 yX9_secondHere ∈ zAll := zin 1842 (by decide +kernel) (by decide +kernel)
theorem zw_1845 : Cond.code yX9_secondHere cX9_secondHere 3 (some .int) ∈ zAll := zin 1845 (by decide +kernel) (by decide +kernel)
theorem zw_1844 : Cond.instanceMethod yX9_secondHere ∈ zAll := zin 1844 (by decide +kernel) (by decide +kernel)
theorem zw_54 : Cond.selects RX9 yX9_secondHere yX9_secondHere ∈ zAll := zin 54 (by decide +kernel) (by decide +kernel)
theorem zcv_X9_readsOrder_X9_secondHere_326 : zLV Y_X9_readsOrder 326 Y_X9_secondHere 2 RX9 := ⟨zw_1842, zw_1844, zw_54, zw_124, zw_1845, by decide +kernel, by decide, by decide⟩
theorem zcv_X9_readsOrder_X9_isSign_226 : zLV Y_X9_readsOrder 226 Y_X9_isSign 1 RX9 := ⟨zw_1757, zw_1759, zw_38, zw_124, zw_1760, by decide +kernel, by decide, by decide⟩
theorem zcv_X9_readsOrder_X9_takesSign_329 : zLV Y_X9_readsOrder 329 Y_X9_takesSign 1 RX9 := ⟨zw_1846, zw_1848, zw_55, zw_124, zw_1849, by decide +kernel, by decide, by decide⟩
theorem zw_1850 : Cond.methodLink RX9 154 Lib.Math.min.name ∈ zAll := zin 1850 (by decide +kernel) (by decide +kernel)
theorem zw_797 : Cond.static Lib.Math.min.name ∈ zAll := zin 797 (by decide +kernel) (by decide +kernel)
theorem zw_798 : Cond.code Lib.Math.min.name Lib.Math.min.code 2 (some .int) ∈ zAll := zin 798 (by decide +kernel) (by decide +kernel)
abbrev Y_X9_arrives : zY := (yX9_arrives, cX9_arrives, 7, (some .int), 18, [])
theorem zcv_X9_arrives_X9_counts_103 : zLV Y_X9_arrives 103 Y_X9_counts 3 RX9 := ⟨zw_1908, zw_1910, zw_70, zw_124, zw_1911, by decide +kernel, by decide, by decide⟩
theorem zcv_X9_arrives_X9_moved_106 : zLV Y_X9_arrives 106 Y_X9_moved 2 RX9 := ⟨zw_1912, zw_1914, zw_71, zw_124, zw_1915, by decide +kernel, by decide, by decide⟩
theorem zcv_X9_arrives_X9_howOf_109 : zLV Y_X9_arrives 109 Y_X9_howOf 2 RX9 := ⟨zw_1916, zw_1918, zw_72, zw_124, zw_1919, by decide +kernel, by decide, by decide⟩
theorem zw_1602 : Cond.fieldLink RX9 112 "EarlyDropsModel" "isPlain" "Z" ∈ zAll := zin 1602 (by decide +kernel) (by decide +kernel)
theorem zfl_X9_112 : zFL RX9 112 30 8 0 := ⟨13, RX9, TX9, 30, rfl, rfl, by decide, rfl, zw_1602, zws_X9⟩
theorem zw_1932 : Cond.methodLink RX9 116 yX9_letsIn ∈ zAll := zin 1932 (by decide +kernel) (by decide +kernel)
theorem zw_1935 : Cond.code yX9_letsIn cX9_letsIn 4 none ∈ zAll := zin 1935 (by decide +kernel) (by decide +kernel)
theorem zw_1934 : Cond.instanceMethod yX9_letsIn ∈ zAll := zin 1934 (by decide +kernel) (by decide +kernel)
theorem zw_76 : Cond.selects RX9 yX9_letsIn yX9_letsIn ∈ zAll := zin 76 (by decide +kernel) (by decide +kernel)
theorem zcv_X9_arrives_X9_letsIn_116 : zLV Y_X9_arrives 116 Y_X9_letsIn 2 RX9 := ⟨zw_1932, zw_1934, zw_76, zw_124, zw_1935, by decide +kernel, by decide, by decide⟩
theorem zcv_X9_arrives_X9_baseOf_128 : zLV Y_X9_arrives 128 Y_X9_baseOf 1 RX9 := ⟨zw_1944, zw_1946, zw_79, zw_124, zw_1947, by decide +kernel, by decide, by decide⟩
theorem zw_1949 : Cond.methodLink RX9 132 yX9_chanceOf ∈ zAll := zin 1949 (by decide +kernel) (by decide +kernel)
theorem zw_1951 : Cond.code yX9_chanceOf cX9_chanceOf 5 (some .int) ∈ zAll := zin 1951 (by decide +kernel) (by decide +kernel)
theorem zw_1950 : Cond.static yX9_chanceOf ∈ zAll := zin 1950 (by decide +kernel) (by decide +kernel)
theorem zcs_X9_arrives_X9_chanceOf_132 : zLS Y_X9_arrives 132 Y_X9_chanceOf 2 := ⟨zw_1949, zw_1950, zw_124, zw_1951, by decide +kernel, by decide, by decide⟩
theorem zw_1955 : Cond.methodLink RX9 136 yX9_draws ∈ zAll := zin 1955 (by decide +kernel) (by decide +kernel)
theorem zw_1958 : Cond.code yX9_draws cX9_draws 1 (some .int) ∈ zAll := zin 1958 (by decide +kernel) (by decide +kernel)
theorem zw_1957 : Cond.instanceMethod yX9_draws ∈ zAll := zin 1957 (by decide +kernel) (by decide +kernel)
theorem zw_80 : Cond.selects RX9 yX9_draws yX9_draws ∈ zAll := zin 80 (by decide +kernel) (by decide +kernel)
theorem zcv_X9_arrives_X9_draws_136 : zLV Y_X9_arrives 136 Y_X9_draws 0 RX9 := ⟨zw_1955, zw_1957, zw_80, zw_124, zw_1958, by decide +kernel, by decide, by decide⟩
theorem zw_1961 : Cond.methodLink RX9 139 yX9_between ∈ zAll := zin 1961 (by decide +kernel) (by decide +kernel)
theorem zw_1964 : Cond.code yX9_between cX9_between 4 (some .int) ∈ zAll := zin 1964 (by decide +kernel) (by decide +kernel)
theorem zw_1963 : Cond.instanceMethod yX9_between ∈ zAll := zin 1963 (by decide +kernel) (by decide +kernel)
theorem zw_81 : Cond.selects RX9 yX9_between yX9_between ∈ zAll := zin 81 (by decide +kernel) (by decide +kernel)
theorem zcv_X9_arrives_X9_between_139 : zLV Y_X9_arrives 139 Y_X9_between 3 RX9 := ⟨zw_1961, zw_1963, zw_81, zw_124, zw_1964, by decide +kernel, by decide, by decide⟩
theorem zw_1936 : Cond.methodLink RX9 120 yX9_keeps ∈ zAll := zin 1936 (by decide +kernel) (by decide +kernel)
theorem zw_1939 : Cond.code yX9_keeps cX9_keeps 8 none ∈ zAll := zin 1939 (by decide +kernel) (by decide +kernel)
theorem zw_1938 : Cond.instanceMethod yX9_keeps ∈ zAll := zin 1938 (by decide +kernel) (by decide +kernel)
theorem zw_77 : Cond.selects RX9 yX9_keeps yX9_keeps ∈ zAll := zin 77 (by decide +kernel) (by decide +kernel)
theorem zcv_X9_arrives_X9_keeps_120 : zLV Y_X9_arrives 120 Y_X9_keeps 6 RX9 := ⟨zw_1936, zw_1938, zw_77, zw_124, zw_1939, by decide +kernel, by decide, by decide⟩
theorem zw_1940 : Cond.methodLink RX9 124 yX9_drops ∈ zAll := zin 1940 (by decide +kernel) (by decide +kernel)
theorem zw_1943 : Cond.code yX9_drops cX9_drops 3 none ∈ zAll := zin 1943 (by decide +kernel) (by decide +kernel)
theorem zw_1942 : Cond.instanceMethod yX9_drops ∈ zAll := zin 1942 (by decide +kernel) (by decide +kernel)
theorem zw_78 : Cond.selects RX9 yX9_drops yX9_drops ∈ zAll := zin 78 (by decide +kernel) (by decide +kernel)
theorem zcv_X9_arrives_X9_drops_124 : zLV Y_X9_arrives 124 Y_X9_drops 2 RX9 := ⟨zw_1940, zw_1942, zw_78, zw_124, zw_1943, by decide +kernel, by decide, by decide⟩
theorem dX9_chanceOf_0 : decode cX9_chanceOf 0 = .ok (.ldc2_w 88, 3) := by decide +kernel
theorem dX9_chanceOf_3 : decode cX9_chanceOf 3 = .ok (.iload_n 2, 1) := by decide +kernel
theorem dX9_chanceOf_4 : decode cX9_chanceOf 4 = .ok (.i2l, 1) := by decide +kernel
theorem dX9_chanceOf_5 : decode cX9_chanceOf 5 = .ok (.lload_n 0, 1) := by decide +kernel
theorem dX9_chanceOf_6 : decode cX9_chanceOf 6 = .ok (.lmul, 1) := by decide +kernel
theorem dX9_chanceOf_7 : decode cX9_chanceOf 7 = .ok (.lsub, 1) := by decide +kernel
theorem dX9_chanceOf_8 : decode cX9_chanceOf 8 = .ok (.lstore_n 3, 1) := by decide +kernel
theorem dX9_chanceOf_9 : decode cX9_chanceOf 9 = .ok (.lload_n 3, 1) := by decide +kernel
theorem dX9_chanceOf_10 : decode cX9_chanceOf 10 = .ok (.lconst 0, 1) := by decide +kernel
theorem dX9_chanceOf_11 : decode cX9_chanceOf 11 = .ok (.lcmp, 1) := by decide +kernel
theorem dX9_chanceOf_12 : decode cX9_chanceOf 12 = .ok (.ifCond .gt 8, 3) := by decide +kernel
theorem dX9_chanceOf_15 : decode cX9_chanceOf 15 = .ok (.ldc 90, 2) := by decide +kernel
theorem dX9_chanceOf_17 : decode cX9_chanceOf 17 = .ok (.goto 17, 3) := by decide +kernel
theorem dX9_chanceOf_20 : decode cX9_chanceOf 20 = .ok (.ldc2_w 88, 3) := by decide +kernel
theorem dX9_chanceOf_23 : decode cX9_chanceOf 23 = .ok (.ldc2_w 88, 3) := by decide +kernel
theorem dX9_chanceOf_26 : decode cX9_chanceOf 26 = .ok (.lload_n 0, 1) := by decide +kernel
theorem dX9_chanceOf_27 : decode cX9_chanceOf 27 = .ok (.lmul, 1) := by decide +kernel
theorem dX9_chanceOf_28 : decode cX9_chanceOf 28 = .ok (.lload_n 3, 1) := by decide +kernel
theorem dX9_chanceOf_29 : decode cX9_chanceOf 29 = .ok (.ldiv, 1) := by decide +kernel
theorem dX9_chanceOf_30 : decode cX9_chanceOf 30 = .ok (.invokestatic 91, 3) := by decide +kernel
theorem dX9_chanceOf_33 : decode cX9_chanceOf 33 = .ok (.l2i, 1) := by decide +kernel
theorem dX9_chanceOf_34 : decode cX9_chanceOf 34 = .ok (.ireturn, 1) := by decide +kernel
theorem dX9_arrives_0 : decode cX9_arrives 0 = .ok (.aload_n 0, 1) := by decide +kernel
theorem dX9_arrives_1 : decode cX9_arrives 1 = .ok (.iload_n 1, 1) := by decide +kernel
theorem dX9_arrives_2 : decode cX9_arrives 2 = .ok (.iconst 0, 1) := by decide +kernel
theorem dX9_arrives_3 : decode cX9_arrives 3 = .ok (.iconst 1, 1) := by decide +kernel
theorem dX9_arrives_4 : decode cX9_arrives 4 = .ok (.invokevirtual 103, 3) := by decide +kernel
theorem dX9_arrives_7 : decode cX9_arrives 7 = .ok (.aload_n 0, 1) := by decide +kernel
theorem dX9_arrives_8 : decode cX9_arrives 8 = .ok (.getfield 9, 3) := by decide +kernel
theorem dX9_arrives_11 : decode cX9_arrives 11 = .ok (.bipush 9, 2) := by decide +kernel
theorem dX9_arrives_13 : decode cX9_arrives 13 = .ok (.aload_n 0, 1) := by decide +kernel
theorem dX9_arrives_14 : decode cX9_arrives 14 = .ok (.aload_n 0, 1) := by decide +kernel
theorem dX9_arrives_15 : decode cX9_arrives 15 = .ok (.getfield 9, 3) := by decide +kernel
theorem dX9_arrives_18 : decode cX9_arrives 18 = .ok (.bipush 9, 2) := by decide +kernel
theorem dX9_arrives_20 : decode cX9_arrives 20 = .ok (.iaload, 1) := by decide +kernel
theorem dX9_arrives_21 : decode cX9_arrives 21 = .ok (.aload_n 0, 1) := by decide +kernel
theorem dX9_arrives_22 : decode cX9_arrives 22 = .ok (.getfield 9, 3) := by decide +kernel
theorem dX9_arrives_25 : decode cX9_arrives 25 = .ok (.bipush 8, 2) := by decide +kernel
theorem dX9_arrives_27 : decode cX9_arrives 27 = .ok (.iaload, 1) := by decide +kernel
theorem dX9_arrives_28 : decode cX9_arrives 28 = .ok (.invokevirtual 106, 3) := by decide +kernel
theorem dX9_arrives_31 : decode cX9_arrives 31 = .ok (.iastore, 1) := by decide +kernel
theorem dX9_arrives_32 : decode cX9_arrives 32 = .ok (.aload_n 0, 1) := by decide +kernel
theorem dX9_arrives_33 : decode cX9_arrives 33 = .ok (.aload_n 0, 1) := by decide +kernel
theorem dX9_arrives_34 : decode cX9_arrives 34 = .ok (.getfield 9, 3) := by decide +kernel
theorem dX9_arrives_37 : decode cX9_arrives 37 = .ok (.bipush 9, 2) := by decide +kernel
theorem dX9_arrives_39 : decode cX9_arrives 39 = .ok (.iaload, 1) := by decide +kernel
theorem dX9_arrives_40 : decode cX9_arrives 40 = .ok (.aload_n 0, 1) := by decide +kernel
theorem dX9_arrives_41 : decode cX9_arrives 41 = .ok (.getfield 9, 3) := by decide +kernel
theorem dX9_arrives_44 : decode cX9_arrives 44 = .ok (.bipush 8, 2) := by decide +kernel
theorem dX9_arrives_46 : decode cX9_arrives 46 = .ok (.iaload, 1) := by decide +kernel
theorem dX9_arrives_47 : decode cX9_arrives 47 = .ok (.invokevirtual 109, 3) := by decide +kernel
theorem dX9_arrives_50 : decode cX9_arrives 50 = .ok (.istore_n 2, 1) := by decide +kernel
theorem dX9_arrives_51 : decode cX9_arrives 51 = .ok (.aload_n 0, 1) := by decide +kernel
theorem dX9_arrives_52 : decode cX9_arrives 52 = .ok (.getfield 112, 3) := by decide +kernel
theorem dX9_arrives_55 : decode cX9_arrives 55 = .ok (.ifCond .eq 15, 3) := by decide +kernel
theorem dX9_arrives_58 : decode cX9_arrives 58 = .ok (.iload_n 2, 1) := by decide +kernel
theorem dX9_arrives_59 : decode cX9_arrives 59 = .ok (.ifCond .eq 11, 3) := by decide +kernel
theorem dX9_arrives_62 : decode cX9_arrives 62 = .ok (.aload_n 0, 1) := by decide +kernel
theorem dX9_arrives_63 : decode cX9_arrives 63 = .ok (.iload_n 1, 1) := by decide +kernel
theorem dX9_arrives_64 : decode cX9_arrives 64 = .ok (.iconst 0, 1) := by decide +kernel
theorem dX9_arrives_65 : decode cX9_arrives 65 = .ok (.invokevirtual 116, 3) := by decide +kernel
theorem dX9_arrives_68 : decode cX9_arrives 68 = .ok (.iconst 0, 1) := by decide +kernel
theorem dX9_arrives_69 : decode cX9_arrives 69 = .ok (.ireturn, 1) := by decide +kernel
theorem dX9_arrives_70 : decode cX9_arrives 70 = .ok (.iload_n 2, 1) := by decide +kernel
theorem dX9_arrives_71 : decode cX9_arrives 71 = .ok (.iconst 3, 1) := by decide +kernel
theorem dX9_arrives_72 : decode cX9_arrives 72 = .ok (.if_icmp .eq 81, 3) := by decide +kernel
theorem dX9_arrives_75 : decode cX9_arrives 75 = .ok (.aload_n 0, 1) := by decide +kernel
theorem dX9_arrives_76 : decode cX9_arrives 76 = .ok (.getfield 9, 3) := by decide +kernel
theorem dX9_arrives_79 : decode cX9_arrives 79 = .ok (.bipush 10, 2) := by decide +kernel
theorem dX9_arrives_81 : decode cX9_arrives 81 = .ok (.iload_n 2, 1) := by decide +kernel
theorem dX9_arrives_82 : decode cX9_arrives 82 = .ok (.iconst 1, 1) := by decide +kernel
theorem dX9_arrives_83 : decode cX9_arrives 83 = .ok (.if_icmp .ne 7, 3) := by decide +kernel
theorem dX9_arrives_86 : decode cX9_arrives 86 = .ok (.iconst (-1), 1) := by decide +kernel
theorem dX9_arrives_87 : decode cX9_arrives 87 = .ok (.goto 4, 3) := by decide +kernel
theorem dX9_arrives_90 : decode cX9_arrives 90 = .ok (.iconst 0, 1) := by decide +kernel
theorem dX9_arrives_91 : decode cX9_arrives 91 = .ok (.iastore, 1) := by decide +kernel
theorem dX9_arrives_92 : decode cX9_arrives 92 = .ok (.iload_n 2, 1) := by decide +kernel
theorem dX9_arrives_93 : decode cX9_arrives 93 = .ok (.iconst 1, 1) := by decide +kernel
theorem dX9_arrives_94 : decode cX9_arrives 94 = .ok (.if_icmp .ne 7, 3) := by decide +kernel
theorem dX9_arrives_97 : decode cX9_arrives 97 = .ok (.iconst 0, 1) := by decide +kernel
theorem dX9_arrives_98 : decode cX9_arrives 98 = .ok (.goto 4, 3) := by decide +kernel
theorem dX9_arrives_101 : decode cX9_arrives 101 = .ok (.iconst 2, 1) := by decide +kernel
theorem dX9_arrives_102 : decode cX9_arrives 102 = .ok (.istore_n 3, 1) := by decide +kernel
theorem dX9_arrives_103 : decode cX9_arrives 103 = .ok (.aload_n 0, 1) := by decide +kernel
theorem dX9_arrives_104 : decode cX9_arrives 104 = .ok (.iload_n 1, 1) := by decide +kernel
theorem dX9_arrives_105 : decode cX9_arrives 105 = .ok (.iload_n 2, 1) := by decide +kernel
theorem dX9_arrives_106 : decode cX9_arrives 106 = .ok (.iconst 0, 1) := by decide +kernel
theorem dX9_arrives_107 : decode cX9_arrives 107 = .ok (.iload_n 2, 1) := by decide +kernel
theorem dX9_arrives_108 : decode cX9_arrives 108 = .ok (.iconst 1, 1) := by decide +kernel
theorem dX9_arrives_109 : decode cX9_arrives 109 = .ok (.if_icmp .ne 7, 3) := by decide +kernel
theorem dX9_arrives_112 : decode cX9_arrives 112 = .ok (.iconst 0, 1) := by decide +kernel
theorem dX9_arrives_113 : decode cX9_arrives 113 = .ok (.goto 5, 3) := by decide +kernel
theorem dX9_arrives_116 : decode cX9_arrives 116 = .ok (.ldc 90, 2) := by decide +kernel
theorem dX9_arrives_118 : decode cX9_arrives 118 = .ok (.iconst (-1), 1) := by decide +kernel
theorem dX9_arrives_119 : decode cX9_arrives 119 = .ok (.iload_n 3, 1) := by decide +kernel
theorem dX9_arrives_120 : decode cX9_arrives 120 = .ok (.invokevirtual 120, 3) := by decide +kernel
theorem dX9_arrives_123 : decode cX9_arrives 123 = .ok (.iload_n 2, 1) := by decide +kernel
theorem dX9_arrives_124 : decode cX9_arrives 124 = .ok (.iconst 1, 1) := by decide +kernel
theorem dX9_arrives_125 : decode cX9_arrives 125 = .ok (.if_icmp .ne 12, 3) := by decide +kernel
theorem dX9_arrives_128 : decode cX9_arrives 128 = .ok (.aload_n 0, 1) := by decide +kernel
theorem dX9_arrives_129 : decode cX9_arrives 129 = .ok (.iload_n 1, 1) := by decide +kernel
theorem dX9_arrives_130 : decode cX9_arrives 130 = .ok (.iconst 0, 1) := by decide +kernel
theorem dX9_arrives_131 : decode cX9_arrives 131 = .ok (.invokevirtual 116, 3) := by decide +kernel
theorem dX9_arrives_134 : decode cX9_arrives 134 = .ok (.goto 17, 3) := by decide +kernel
theorem dX9_arrives_137 : decode cX9_arrives 137 = .ok (.aload_n 0, 1) := by decide +kernel
theorem dX9_arrives_138 : decode cX9_arrives 138 = .ok (.iload_n 1, 1) := by decide +kernel
theorem dX9_arrives_139 : decode cX9_arrives 139 = .ok (.iload_n 2, 1) := by decide +kernel
theorem dX9_arrives_140 : decode cX9_arrives 140 = .ok (.ifCond .ne 7, 3) := by decide +kernel
theorem dX9_arrives_143 : decode cX9_arrives 143 = .ok (.iconst 4, 1) := by decide +kernel
theorem dX9_arrives_144 : decode cX9_arrives 144 = .ok (.goto 4, 3) := by decide +kernel
theorem dX9_arrives_147 : decode cX9_arrives 147 = .ok (.iconst 3, 1) := by decide +kernel
theorem dX9_arrives_148 : decode cX9_arrives 148 = .ok (.invokevirtual 124, 3) := by decide +kernel
theorem dX9_arrives_151 : decode cX9_arrives 151 = .ok (.iload_n 3, 1) := by decide +kernel
theorem dX9_arrives_152 : decode cX9_arrives 152 = .ok (.ireturn, 1) := by decide +kernel
theorem dX9_arrives_153 : decode cX9_arrives 153 = .ok (.aload_n 0, 1) := by decide +kernel
theorem dX9_arrives_154 : decode cX9_arrives 154 = .ok (.getfield 9, 3) := by decide +kernel
theorem dX9_arrives_157 : decode cX9_arrives 157 = .ok (.bipush 10, 2) := by decide +kernel
theorem dX9_arrives_159 : decode cX9_arrives 159 = .ok (.dup2, 1) := by decide +kernel
theorem dX9_arrives_160 : decode cX9_arrives 160 = .ok (.iaload, 1) := by decide +kernel
theorem dX9_arrives_161 : decode cX9_arrives 161 = .ok (.iconst 1, 1) := by decide +kernel
theorem dX9_arrives_162 : decode cX9_arrives 162 = .ok (.iadd, 1) := by decide +kernel
theorem dX9_arrives_163 : decode cX9_arrives 163 = .ok (.iastore, 1) := by decide +kernel
theorem dX9_arrives_164 : decode cX9_arrives 164 = .ok (.aload_n 0, 1) := by decide +kernel
theorem dX9_arrives_165 : decode cX9_arrives 165 = .ok (.getfield 9, 3) := by decide +kernel
theorem dX9_arrives_168 : decode cX9_arrives 168 = .ok (.bipush 10, 2) := by decide +kernel
theorem dX9_arrives_170 : decode cX9_arrives 170 = .ok (.iaload, 1) := by decide +kernel
theorem dX9_arrives_171 : decode cX9_arrives 171 = .ok (.istore_n 3, 1) := by decide +kernel
theorem dX9_arrives_172 : decode cX9_arrives 172 = .ok (.aload_n 0, 1) := by decide +kernel
theorem dX9_arrives_173 : decode cX9_arrives 173 = .ok (.aload_n 0, 1) := by decide +kernel
theorem dX9_arrives_174 : decode cX9_arrives 174 = .ok (.getfield 9, 3) := by decide +kernel
theorem dX9_arrives_177 : decode cX9_arrives 177 = .ok (.bipush 9, 2) := by decide +kernel
theorem dX9_arrives_179 : decode cX9_arrives 179 = .ok (.iaload, 1) := by decide +kernel
theorem dX9_arrives_180 : decode cX9_arrives 180 = .ok (.invokevirtual 128, 3) := by decide +kernel
theorem dX9_arrives_183 : decode cX9_arrives 183 = .ok (.iload_n 3, 1) := by decide +kernel
theorem dX9_arrives_184 : decode cX9_arrives 184 = .ok (.invokestatic 132, 3) := by decide +kernel
theorem dX9_arrives_187 : decode cX9_arrives 187 = .ok (.istore 4, 2) := by decide +kernel
theorem dX9_arrives_189 : decode cX9_arrives 189 = .ok (.aload_n 0, 1) := by decide +kernel
theorem dX9_arrives_190 : decode cX9_arrives 190 = .ok (.invokevirtual 136, 3) := by decide +kernel
theorem dX9_arrives_193 : decode cX9_arrives 193 = .ok (.istore 5, 2) := by decide +kernel
theorem dX9_arrives_195 : decode cX9_arrives 195 = .ok (.aload_n 0, 1) := by decide +kernel
theorem dX9_arrives_196 : decode cX9_arrives 196 = .ok (.iload_n 1, 1) := by decide +kernel
theorem dX9_arrives_197 : decode cX9_arrives 197 = .ok (.iload 4, 2) := by decide +kernel
theorem dX9_arrives_199 : decode cX9_arrives 199 = .ok (.iload 5, 2) := by decide +kernel
theorem dX9_arrives_201 : decode cX9_arrives 201 = .ok (.invokevirtual 139, 3) := by decide +kernel
theorem dX9_arrives_204 : decode cX9_arrives 204 = .ok (.istore 6, 2) := by decide +kernel
theorem dX9_arrives_206 : decode cX9_arrives 206 = .ok (.aload_n 0, 1) := by decide +kernel
theorem dX9_arrives_207 : decode cX9_arrives 207 = .ok (.iload_n 1, 1) := by decide +kernel
theorem dX9_arrives_208 : decode cX9_arrives 208 = .ok (.iload_n 2, 1) := by decide +kernel
theorem dX9_arrives_209 : decode cX9_arrives 209 = .ok (.iload_n 3, 1) := by decide +kernel
theorem dX9_arrives_210 : decode cX9_arrives 210 = .ok (.iload 4, 2) := by decide +kernel
theorem dX9_arrives_212 : decode cX9_arrives 212 = .ok (.iload 5, 2) := by decide +kernel
theorem dX9_arrives_214 : decode cX9_arrives 214 = .ok (.iload 6, 2) := by decide +kernel
theorem dX9_arrives_216 : decode cX9_arrives 216 = .ok (.invokevirtual 120, 3) := by decide +kernel
theorem dX9_arrives_219 : decode cX9_arrives 219 = .ok (.iload 6, 2) := by decide +kernel
theorem dX9_arrives_221 : decode cX9_arrives 221 = .ok (.iconst 2, 1) := by decide +kernel
theorem dX9_arrives_222 : decode cX9_arrives 222 = .ok (.if_icmp .ne 12, 3) := by decide +kernel
theorem dX9_arrives_225 : decode cX9_arrives 225 = .ok (.aload_n 0, 1) := by decide +kernel
theorem dX9_arrives_226 : decode cX9_arrives 226 = .ok (.iload_n 1, 1) := by decide +kernel
theorem dX9_arrives_227 : decode cX9_arrives 227 = .ok (.iconst 2, 1) := by decide +kernel
theorem dX9_arrives_228 : decode cX9_arrives 228 = .ok (.invokevirtual 124, 3) := by decide +kernel
theorem dX9_arrives_231 : decode cX9_arrives 231 = .ok (.iload 6, 2) := by decide +kernel
theorem dX9_arrives_233 : decode cX9_arrives 233 = .ok (.ireturn, 1) := by decide +kernel
theorem dX9_arrives_234 : decode cX9_arrives 234 = .ok (.iload 6, 2) := by decide +kernel
theorem dX9_arrives_236 : decode cX9_arrives 236 = .ok (.iconst 1, 1) := by decide +kernel
theorem dX9_arrives_237 : decode cX9_arrives 237 = .ok (.if_icmp .ne 9, 3) := by decide +kernel
theorem dX9_arrives_240 : decode cX9_arrives 240 = .ok (.aload_n 0, 1) := by decide +kernel
theorem dX9_arrives_241 : decode cX9_arrives 241 = .ok (.iload_n 1, 1) := by decide +kernel
theorem dX9_arrives_242 : decode cX9_arrives 242 = .ok (.iconst 1, 1) := by decide +kernel
theorem dX9_arrives_243 : decode cX9_arrives 243 = .ok (.invokevirtual 124, 3) := by decide +kernel
theorem dX9_arrives_246 : decode cX9_arrives 246 = .ok (.aload_n 0, 1) := by decide +kernel
theorem dX9_arrives_247 : decode cX9_arrives 247 = .ok (.iload_n 1, 1) := by decide +kernel
theorem dX9_arrives_248 : decode cX9_arrives 248 = .ok (.iload 6, 2) := by decide +kernel
theorem dX9_arrives_250 : decode cX9_arrives 250 = .ok (.iconst 1, 1) := by decide +kernel
theorem dX9_arrives_251 : decode cX9_arrives 251 = .ok (.if_icmp .ne 7, 3) := by decide +kernel
theorem dX9_arrives_254 : decode cX9_arrives 254 = .ok (.iconst 1, 1) := by decide +kernel
theorem dX9_arrives_255 : decode cX9_arrives 255 = .ok (.goto 4, 3) := by decide +kernel
theorem dX9_arrives_258 : decode cX9_arrives 258 = .ok (.iconst 0, 1) := by decide +kernel
theorem dX9_arrives_259 : decode cX9_arrives 259 = .ok (.invokevirtual 116, 3) := by decide +kernel
theorem dX9_arrives_262 : decode cX9_arrives 262 = .ok (.iload 6, 2) := by decide +kernel
theorem dX9_arrives_264 : decode cX9_arrives 264 = .ok (.ireturn, 1) := by decide +kernel
theorem dX9_isKey_0 : decode cX9_isKey 0 = .ok (.aload_n 0, 1) := by decide +kernel
theorem dX9_isKey_1 : decode cX9_isKey 1 = .ok (.getfield 210, 3) := by decide +kernel
theorem dX9_isKey_4 : decode cX9_isKey 4 = .ok (.ifCond .ne 22, 3) := by decide +kernel
theorem dX9_isKey_7 : decode cX9_isKey 7 = .ok (.aload_n 0, 1) := by decide +kernel
theorem dX9_isKey_8 : decode cX9_isKey 8 = .ok (.getfield 200, 3) := by decide +kernel
theorem dX9_isKey_11 : decode cX9_isKey 11 = .ok (.iconst 1, 1) := by decide +kernel
theorem dX9_isKey_12 : decode cX9_isKey 12 = .ok (.if_icmp .ne 14, 3) := by decide +kernel
theorem dX9_isKey_15 : decode cX9_isKey 15 = .ok (.aload_n 0, 1) := by decide +kernel
theorem dX9_isKey_16 : decode cX9_isKey 16 = .ok (.invokevirtual 216, 3) := by decide +kernel
theorem dX9_isKey_19 : decode cX9_isKey 19 = .ok (.aload_n 1, 1) := by decide +kernel
theorem dX9_isKey_20 : decode cX9_isKey 20 = .ok (.invokevirtual 219, 3) := by decide +kernel
theorem dX9_isKey_23 : decode cX9_isKey 23 = .ok (.if_icmp .eq 5, 3) := by decide +kernel
theorem dX9_isKey_26 : decode cX9_isKey 26 = .ok (.iconst 0, 1) := by decide +kernel
theorem dX9_isKey_27 : decode cX9_isKey 27 = .ok (.ireturn, 1) := by decide +kernel
theorem dX9_isKey_28 : decode cX9_isKey 28 = .ok (.iconst 0, 1) := by decide +kernel
theorem dX9_isKey_29 : decode cX9_isKey 29 = .ok (.istore_n 2, 1) := by decide +kernel
theorem dX9_isKey_30 : decode cX9_isKey 30 = .ok (.iload_n 2, 1) := by decide +kernel
theorem dX9_isKey_31 : decode cX9_isKey 31 = .ok (.aload_n 0, 1) := by decide +kernel
theorem dX9_isKey_32 : decode cX9_isKey 32 = .ok (.invokevirtual 216, 3) := by decide +kernel
theorem dX9_isKey_35 : decode cX9_isKey 35 = .ok (.if_icmp .ge 30, 3) := by decide +kernel
theorem dX9_isKey_38 : decode cX9_isKey 38 = .ok (.aload_n 0, 1) := by decide +kernel
theorem dX9_isKey_39 : decode cX9_isKey 39 = .ok (.getfield 29, 3) := by decide +kernel
theorem dX9_isKey_42 : decode cX9_isKey 42 = .ok (.aload_n 0, 1) := by decide +kernel
theorem dX9_isKey_43 : decode cX9_isKey 43 = .ok (.getfield 194, 3) := by decide +kernel
theorem dX9_isKey_46 : decode cX9_isKey 46 = .ok (.iload_n 2, 1) := by decide +kernel
theorem dX9_isKey_47 : decode cX9_isKey 47 = .ok (.iadd, 1) := by decide +kernel
theorem dX9_isKey_48 : decode cX9_isKey 48 = .ok (.iaload, 1) := by decide +kernel
theorem dX9_isKey_49 : decode cX9_isKey 49 = .ok (.aload_n 1, 1) := by decide +kernel
theorem dX9_isKey_50 : decode cX9_isKey 50 = .ok (.iload_n 2, 1) := by decide +kernel
theorem dX9_isKey_51 : decode cX9_isKey 51 = .ok (.invokevirtual 222, 3) := by decide +kernel
theorem dX9_isKey_54 : decode cX9_isKey 54 = .ok (.if_icmp .eq 5, 3) := by decide +kernel
theorem dX9_isKey_57 : decode cX9_isKey 57 = .ok (.iconst 0, 1) := by decide +kernel
theorem dX9_isKey_58 : decode cX9_isKey 58 = .ok (.ireturn, 1) := by decide +kernel
theorem dX9_isKey_59 : decode cX9_isKey 59 = .ok (.iinc 2 1, 3) := by decide +kernel
theorem dX9_isKey_62 : decode cX9_isKey 62 = .ok (.goto (-32), 3) := by decide +kernel
theorem dX9_isKey_65 : decode cX9_isKey 65 = .ok (.iconst 1, 1) := by decide +kernel
theorem dX9_isKey_66 : decode cX9_isKey 66 = .ok (.ireturn, 1) := by decide +kernel
theorem dX9_takesSign_0 : decode cX9_takesSign 0 = .ok (.aload_n 0, 1) := by decide +kernel
theorem dX9_takesSign_1 : decode cX9_takesSign 1 = .ok (.aload_n 0, 1) := by decide +kernel
theorem dX9_takesSign_2 : decode cX9_takesSign 2 = .ok (.iload_n 1, 1) := by decide +kernel
theorem dX9_takesSign_3 : decode cX9_takesSign 3 = .ok (.invokevirtual 226, 3) := by decide +kernel
theorem dX9_takesSign_6 : decode cX9_takesSign 6 = .ok (.ifCond .ne 7, 3) := by decide +kernel
theorem dX9_takesSign_9 : decode cX9_takesSign 9 = .ok (.iconst 1, 1) := by decide +kernel
theorem dX9_takesSign_10 : decode cX9_takesSign 10 = .ok (.goto 4, 3) := by decide +kernel
theorem dX9_takesSign_13 : decode cX9_takesSign 13 = .ok (.iconst 0, 1) := by decide +kernel
theorem dX9_takesSign_14 : decode cX9_takesSign 14 = .ok (.iconst 1, 1) := by decide +kernel
theorem dX9_takesSign_15 : decode cX9_takesSign 15 = .ok (.invokevirtual 229, 3) := by decide +kernel
theorem dX9_takesSign_18 : decode cX9_takesSign 18 = .ok (.ifCond .ne 7, 3) := by decide +kernel
theorem dX9_takesSign_21 : decode cX9_takesSign 21 = .ok (.aload_n 0, 1) := by decide +kernel
theorem dX9_takesSign_22 : decode cX9_takesSign 22 = .ok (.invokevirtual 233, 3) := by decide +kernel
theorem dX9_takesSign_25 : decode cX9_takesSign 25 = .ok (.return_, 1) := by decide +kernel
theorem dX9_number_0 : decode cX9_number 0 = .ok (.aload_n 0, 1) := by decide +kernel
theorem dX9_number_1 : decode cX9_number 1 = .ok (.aload_n 0, 1) := by decide +kernel
theorem dX9_number_2 : decode cX9_number 2 = .ok (.getfield 200, 3) := by decide +kernel
theorem dX9_number_5 : decode cX9_number 5 = .ok (.iconst 2, 1) := by decide +kernel
theorem dX9_number_6 : decode cX9_number 6 = .ok (.if_icmp .eq 7, 3) := by decide +kernel
theorem dX9_number_9 : decode cX9_number 9 = .ok (.iconst 1, 1) := by decide +kernel
theorem dX9_number_10 : decode cX9_number 10 = .ok (.goto 4, 3) := by decide +kernel
theorem dX9_number_13 : decode cX9_number 13 = .ok (.iconst 0, 1) := by decide +kernel
theorem dX9_number_14 : decode cX9_number 14 = .ok (.iconst 1, 1) := by decide +kernel
theorem dX9_number_15 : decode cX9_number 15 = .ok (.invokevirtual 229, 3) := by decide +kernel
theorem dX9_number_18 : decode cX9_number 18 = .ok (.ifCond .ne 28, 3) := by decide +kernel
theorem dX9_number_21 : decode cX9_number 21 = .ok (.aload_n 0, 1) := by decide +kernel
theorem dX9_number_22 : decode cX9_number 22 = .ok (.aload_n 0, 1) := by decide +kernel
theorem dX9_number_23 : decode cX9_number 23 = .ok (.getfield 197, 3) := by decide +kernel
theorem dX9_number_26 : decode cX9_number 26 = .ok (.iload_n 1, 1) := by decide +kernel
theorem dX9_number_27 : decode cX9_number 27 = .ok (.iload_n 2, 1) := by decide +kernel
theorem dX9_number_28 : decode cX9_number 28 = .ok (.invokestatic 63, 3) := by decide +kernel
theorem dX9_number_31 : decode cX9_number 31 = .ok (.ifCond .ne 7, 3) := by decide +kernel
theorem dX9_number_34 : decode cX9_number 34 = .ok (.iconst 1, 1) := by decide +kernel
theorem dX9_number_35 : decode cX9_number 35 = .ok (.goto 4, 3) := by decide +kernel
theorem dX9_number_38 : decode cX9_number 38 = .ok (.iconst 0, 1) := by decide +kernel
theorem dX9_number_39 : decode cX9_number 39 = .ok (.iconst 2, 1) := by decide +kernel
theorem dX9_number_40 : decode cX9_number 40 = .ok (.invokevirtual 229, 3) := by decide +kernel
theorem dX9_number_43 : decode cX9_number 43 = .ok (.ifCond .eq 5, 3) := by decide +kernel
theorem dX9_number_46 : decode cX9_number 46 = .ok (.iload_n 1, 1) := by decide +kernel
theorem dX9_number_47 : decode cX9_number 47 = .ok (.ireturn, 1) := by decide +kernel
theorem dX9_number_48 : decode cX9_number 48 = .ok (.aload_n 0, 1) := by decide +kernel
theorem dX9_number_49 : decode cX9_number 49 = .ok (.getfield 197, 3) := by decide +kernel
theorem dX9_number_52 : decode cX9_number 52 = .ok (.istore_n 3, 1) := by decide +kernel
theorem dX9_number_53 : decode cX9_number 53 = .ok (.aload_n 0, 1) := by decide +kernel
theorem dX9_number_54 : decode cX9_number 54 = .ok (.invokevirtual 233, 3) := by decide +kernel
theorem dX9_number_57 : decode cX9_number 57 = .ok (.iload_n 3, 1) := by decide +kernel
theorem dX9_number_58 : decode cX9_number 58 = .ok (.ireturn, 1) := by decide +kernel
theorem dX9_named_0 : decode cX9_named 0 = .ok (.aload_n 0, 1) := by decide +kernel
theorem dX9_named_1 : decode cX9_named 1 = .ok (.invokevirtual 239, 3) := by decide +kernel
theorem dX9_named_4 : decode cX9_named 4 = .ok (.ifCond .ne 24, 3) := by decide +kernel
theorem dX9_named_7 : decode cX9_named 7 = .ok (.aload_n 0, 1) := by decide +kernel
theorem dX9_named_8 : decode cX9_named 8 = .ok (.aload_n 0, 1) := by decide +kernel
theorem dX9_named_9 : decode cX9_named 9 = .ok (.invokevirtual 243, 3) := by decide +kernel
theorem dX9_named_12 : decode cX9_named 12 = .ok (.iconst (-1), 1) := by decide +kernel
theorem dX9_named_13 : decode cX9_named 13 = .ok (.if_icmp .ne 7, 3) := by decide +kernel
theorem dX9_named_16 : decode cX9_named 16 = .ok (.iconst 1, 1) := by decide +kernel
theorem dX9_named_17 : decode cX9_named 17 = .ok (.goto 4, 3) := by decide +kernel
theorem dX9_named_20 : decode cX9_named 20 = .ok (.iconst 0, 1) := by decide +kernel
theorem dX9_named_21 : decode cX9_named 21 = .ok (.iconst 4, 1) := by decide +kernel
theorem dX9_named_22 : decode cX9_named 22 = .ok (.invokevirtual 229, 3) := by decide +kernel
theorem dX9_named_25 : decode cX9_named 25 = .ok (.ifCond .eq 5, 3) := by decide +kernel
theorem dX9_named_28 : decode cX9_named 28 = .ok (.iconst 0, 1) := by decide +kernel
theorem dX9_named_29 : decode cX9_named 29 = .ok (.ireturn, 1) := by decide +kernel
theorem dX9_named_30 : decode cX9_named 30 = .ok (.aload_n 0, 1) := by decide +kernel
theorem dX9_named_31 : decode cX9_named 31 = .ok (.invokevirtual 243, 3) := by decide +kernel
theorem dX9_named_34 : decode cX9_named 34 = .ok (.istore_n 1, 1) := by decide +kernel
theorem dX9_named_35 : decode cX9_named 35 = .ok (.aload_n 0, 1) := by decide +kernel
theorem dX9_named_36 : decode cX9_named 36 = .ok (.invokevirtual 233, 3) := by decide +kernel
theorem dX9_named_39 : decode cX9_named 39 = .ok (.iload_n 1, 1) := by decide +kernel
theorem dX9_named_40 : decode cX9_named 40 = .ok (.ireturn, 1) := by decide +kernel
theorem dX9_newFlow_0 : decode cX9_newFlow 0 = .ok (.aload_n 0, 1) := by decide +kernel
theorem dX9_newFlow_1 : decode cX9_newFlow 1 = .ok (.getfield 9, 3) := by decide +kernel
theorem dX9_newFlow_4 : decode cX9_newFlow 4 = .ok (.bipush 11, 2) := by decide +kernel
theorem dX9_newFlow_6 : decode cX9_newFlow 6 = .ok (.iaload, 1) := by decide +kernel
theorem dX9_newFlow_7 : decode cX9_newFlow 7 = .ok (.istore_n 1, 1) := by decide +kernel
theorem dX9_newFlow_8 : decode cX9_newFlow 8 = .ok (.aload_n 0, 1) := by decide +kernel
theorem dX9_newFlow_9 : decode cX9_newFlow 9 = .ok (.iload_n 1, 1) := by decide +kernel
theorem dX9_newFlow_10 : decode cX9_newFlow 10 = .ok (.bipush 6, 2) := by decide +kernel
theorem dX9_newFlow_12 : decode cX9_newFlow 12 = .ok (.if_icmp .ne 7, 3) := by decide +kernel
theorem dX9_newFlow_15 : decode cX9_newFlow 15 = .ok (.iconst 1, 1) := by decide +kernel
theorem dX9_newFlow_16 : decode cX9_newFlow 16 = .ok (.goto 4, 3) := by decide +kernel
theorem dX9_newFlow_19 : decode cX9_newFlow 19 = .ok (.iconst 0, 1) := by decide +kernel
theorem dX9_newFlow_20 : decode cX9_newFlow 20 = .ok (.iconst 5, 1) := by decide +kernel
theorem dX9_newFlow_21 : decode cX9_newFlow 21 = .ok (.invokevirtual 229, 3) := by decide +kernel
theorem dX9_newFlow_24 : decode cX9_newFlow 24 = .ok (.ifCond .eq 4, 3) := by decide +kernel
theorem dX9_newFlow_27 : decode cX9_newFlow 27 = .ok (.return_, 1) := by decide +kernel
theorem dX9_newFlow_28 : decode cX9_newFlow 28 = .ok (.aload_n 0, 1) := by decide +kernel
theorem dX9_newFlow_29 : decode cX9_newFlow 29 = .ok (.invokevirtual 233, 3) := by decide +kernel
theorem dX9_newFlow_32 : decode cX9_newFlow 32 = .ok (.aload_n 0, 1) := by decide +kernel
theorem dX9_newFlow_33 : decode cX9_newFlow 33 = .ok (.invokevirtual 239, 3) := by decide +kernel
theorem dX9_newFlow_36 : decode cX9_newFlow 36 = .ok (.ifCond .ne 24, 3) := by decide +kernel
theorem dX9_newFlow_39 : decode cX9_newFlow 39 = .ok (.aload_n 0, 1) := by decide +kernel
theorem dX9_newFlow_40 : decode cX9_newFlow 40 = .ok (.aload_n 0, 1) := by decide +kernel
theorem dX9_newFlow_41 : decode cX9_newFlow 41 = .ok (.invokevirtual 243, 3) := by decide +kernel
theorem dX9_newFlow_44 : decode cX9_newFlow 44 = .ok (.iconst (-1), 1) := by decide +kernel
theorem dX9_newFlow_45 : decode cX9_newFlow 45 = .ok (.if_icmp .eq 7, 3) := by decide +kernel
theorem dX9_newFlow_48 : decode cX9_newFlow 48 = .ok (.iconst 1, 1) := by decide +kernel
theorem dX9_newFlow_49 : decode cX9_newFlow 49 = .ok (.goto 4, 3) := by decide +kernel
theorem dX9_newFlow_52 : decode cX9_newFlow 52 = .ok (.iconst 0, 1) := by decide +kernel
theorem dX9_newFlow_53 : decode cX9_newFlow 53 = .ok (.iconst 3, 1) := by decide +kernel
theorem dX9_newFlow_54 : decode cX9_newFlow 54 = .ok (.invokevirtual 229, 3) := by decide +kernel
theorem dX9_newFlow_57 : decode cX9_newFlow 57 = .ok (.ifCond .eq 4, 3) := by decide +kernel
theorem dX9_newFlow_60 : decode cX9_newFlow 60 = .ok (.return_, 1) := by decide +kernel
theorem dX9_newFlow_61 : decode cX9_newFlow 61 = .ok (.bipush 16, 2) := by decide +kernel
theorem dX9_newFlow_63 : decode cX9_newFlow 63 = .ok (.bipush 26, 2) := by decide +kernel
theorem dX9_newFlow_65 : decode cX9_newFlow 65 = .ok (.iload_n 1, 1) := by decide +kernel
theorem dX9_newFlow_66 : decode cX9_newFlow 66 = .ok (.imul, 1) := by decide +kernel
theorem dX9_newFlow_67 : decode cX9_newFlow 67 = .ok (.iadd, 1) := by decide +kernel
theorem dX9_newFlow_68 : decode cX9_newFlow 68 = .ok (.istore_n 2, 1) := by decide +kernel
theorem dX9_newFlow_69 : decode cX9_newFlow 69 = .ok (.aload_n 0, 1) := by decide +kernel
theorem dX9_newFlow_70 : decode cX9_newFlow 70 = .ok (.getfield 9, 3) := by decide +kernel
theorem dX9_newFlow_73 : decode cX9_newFlow 73 = .ok (.iload_n 2, 1) := by decide +kernel
theorem dX9_newFlow_74 : decode cX9_newFlow 74 = .ok (.bipush 9, 2) := by decide +kernel
theorem dX9_newFlow_76 : decode cX9_newFlow 76 = .ok (.iadd, 1) := by decide +kernel
theorem dX9_newFlow_77 : decode cX9_newFlow 77 = .ok (.aload_n 0, 1) := by decide +kernel
theorem dX9_newFlow_78 : decode cX9_newFlow 78 = .ok (.invokevirtual 216, 3) := by decide +kernel
theorem dX9_newFlow_81 : decode cX9_newFlow 81 = .ok (.iastore, 1) := by decide +kernel
theorem dX9_newFlow_82 : decode cX9_newFlow 82 = .ok (.iconst 0, 1) := by decide +kernel
theorem dX9_newFlow_83 : decode cX9_newFlow 83 = .ok (.istore_n 3, 1) := by decide +kernel
theorem dX9_newFlow_84 : decode cX9_newFlow 84 = .ok (.iload_n 3, 1) := by decide +kernel
theorem dX9_newFlow_85 : decode cX9_newFlow 85 = .ok (.aload_n 0, 1) := by decide +kernel
theorem dX9_newFlow_86 : decode cX9_newFlow 86 = .ok (.invokevirtual 216, 3) := by decide +kernel
theorem dX9_newFlow_89 : decode cX9_newFlow 89 = .ok (.if_icmp .ge 33, 3) := by decide +kernel
theorem dX9_newFlow_92 : decode cX9_newFlow 92 = .ok (.aload_n 0, 1) := by decide +kernel
theorem dX9_newFlow_93 : decode cX9_newFlow 93 = .ok (.getfield 9, 3) := by decide +kernel
theorem dX9_newFlow_96 : decode cX9_newFlow 96 = .ok (.iload_n 2, 1) := by decide +kernel
theorem dX9_newFlow_97 : decode cX9_newFlow 97 = .ok (.bipush 9, 2) := by decide +kernel
theorem dX9_newFlow_99 : decode cX9_newFlow 99 = .ok (.iadd, 1) := by decide +kernel
theorem dX9_newFlow_100 : decode cX9_newFlow 100 = .ok (.iconst 1, 1) := by decide +kernel
theorem dX9_newFlow_101 : decode cX9_newFlow 101 = .ok (.iadd, 1) := by decide +kernel
theorem dX9_newFlow_102 : decode cX9_newFlow 102 = .ok (.iload_n 3, 1) := by decide +kernel
theorem dX9_newFlow_103 : decode cX9_newFlow 103 = .ok (.iadd, 1) := by decide +kernel
theorem dX9_newFlow_104 : decode cX9_newFlow 104 = .ok (.aload_n 0, 1) := by decide +kernel
theorem dX9_newFlow_105 : decode cX9_newFlow 105 = .ok (.getfield 29, 3) := by decide +kernel
theorem dX9_newFlow_108 : decode cX9_newFlow 108 = .ok (.aload_n 0, 1) := by decide +kernel
theorem dX9_newFlow_109 : decode cX9_newFlow 109 = .ok (.getfield 194, 3) := by decide +kernel
theorem dX9_newFlow_112 : decode cX9_newFlow 112 = .ok (.iload_n 3, 1) := by decide +kernel
theorem dX9_newFlow_113 : decode cX9_newFlow 113 = .ok (.iadd, 1) := by decide +kernel
theorem dX9_newFlow_114 : decode cX9_newFlow 114 = .ok (.iaload, 1) := by decide +kernel
theorem dX9_newFlow_115 : decode cX9_newFlow 115 = .ok (.iastore, 1) := by decide +kernel
theorem dX9_newFlow_116 : decode cX9_newFlow 116 = .ok (.iinc 3 1, 3) := by decide +kernel
theorem dX9_newFlow_119 : decode cX9_newFlow 119 = .ok (.goto (-35), 3) := by decide +kernel
theorem dX9_newFlow_122 : decode cX9_newFlow 122 = .ok (.aload_n 0, 1) := by decide +kernel
theorem dX9_newFlow_123 : decode cX9_newFlow 123 = .ok (.invokevirtual 233, 3) := by decide +kernel
theorem dX9_newFlow_126 : decode cX9_newFlow 126 = .ok (.aload_n 0, 1) := by decide +kernel
theorem dX9_newFlow_127 : decode cX9_newFlow 127 = .ok (.getfield 9, 3) := by decide +kernel
theorem dX9_newFlow_130 : decode cX9_newFlow 130 = .ok (.iload_n 2, 1) := by decide +kernel
theorem dX9_newFlow_131 : decode cX9_newFlow 131 = .ok (.iconst 0, 1) := by decide +kernel
theorem dX9_newFlow_132 : decode cX9_newFlow 132 = .ok (.iadd, 1) := by decide +kernel
theorem dX9_newFlow_133 : decode cX9_newFlow 133 = .ok (.aload_n 0, 1) := by decide +kernel
theorem dX9_newFlow_134 : decode cX9_newFlow 134 = .ok (.iconst 1, 1) := by decide +kernel
theorem dX9_newFlow_135 : decode cX9_newFlow 135 = .ok (.bipush 99, 2) := by decide +kernel
theorem dX9_newFlow_137 : decode cX9_newFlow 137 = .ok (.invokevirtual 246, 3) := by decide +kernel
theorem dX9_newFlow_140 : decode cX9_newFlow 140 = .ok (.iastore, 1) := by decide +kernel
theorem dX9_newFlow_141 : decode cX9_newFlow 141 = .ok (.aload_n 0, 1) := by decide +kernel
theorem dX9_newFlow_142 : decode cX9_newFlow 142 = .ok (.getfield 9, 3) := by decide +kernel
theorem dX9_newFlow_145 : decode cX9_newFlow 145 = .ok (.iload_n 2, 1) := by decide +kernel
theorem dX9_newFlow_146 : decode cX9_newFlow 146 = .ok (.iconst 1, 1) := by decide +kernel
theorem dX9_newFlow_147 : decode cX9_newFlow 147 = .ok (.iadd, 1) := by decide +kernel
theorem dX9_newFlow_148 : decode cX9_newFlow 148 = .ok (.aload_n 0, 1) := by decide +kernel
theorem dX9_newFlow_149 : decode cX9_newFlow 149 = .ok (.iconst 1, 1) := by decide +kernel
theorem dX9_newFlow_150 : decode cX9_newFlow 150 = .ok (.bipush 50, 2) := by decide +kernel
theorem dX9_newFlow_152 : decode cX9_newFlow 152 = .ok (.invokevirtual 246, 3) := by decide +kernel
theorem dX9_newFlow_155 : decode cX9_newFlow 155 = .ok (.iastore, 1) := by decide +kernel
theorem dX9_newFlow_156 : decode cX9_newFlow 156 = .ok (.aload_n 0, 1) := by decide +kernel
theorem dX9_newFlow_157 : decode cX9_newFlow 157 = .ok (.getfield 9, 3) := by decide +kernel
theorem dX9_newFlow_160 : decode cX9_newFlow 160 = .ok (.iload_n 2, 1) := by decide +kernel
theorem dX9_newFlow_161 : decode cX9_newFlow 161 = .ok (.iconst 2, 1) := by decide +kernel
theorem dX9_newFlow_162 : decode cX9_newFlow 162 = .ok (.iadd, 1) := by decide +kernel
theorem dX9_newFlow_163 : decode cX9_newFlow 163 = .ok (.aload_n 0, 1) := by decide +kernel
theorem dX9_newFlow_164 : decode cX9_newFlow 164 = .ok (.iconst 1, 1) := by decide +kernel
theorem dX9_newFlow_165 : decode cX9_newFlow 165 = .ok (.bipush 9, 2) := by decide +kernel
theorem dX9_newFlow_167 : decode cX9_newFlow 167 = .ok (.invokevirtual 246, 3) := by decide +kernel
theorem dX9_newFlow_170 : decode cX9_newFlow 170 = .ok (.iastore, 1) := by decide +kernel
theorem dX9_newFlow_171 : decode cX9_newFlow 171 = .ok (.aload_n 0, 1) := by decide +kernel
theorem dX9_newFlow_172 : decode cX9_newFlow 172 = .ok (.getfield 9, 3) := by decide +kernel
theorem dX9_newFlow_175 : decode cX9_newFlow 175 = .ok (.iload_n 2, 1) := by decide +kernel
theorem dX9_newFlow_176 : decode cX9_newFlow 176 = .ok (.iconst 3, 1) := by decide +kernel
theorem dX9_newFlow_177 : decode cX9_newFlow 177 = .ok (.iadd, 1) := by decide +kernel
theorem dX9_newFlow_178 : decode cX9_newFlow 178 = .ok (.aload_n 0, 1) := by decide +kernel
theorem dX9_newFlow_179 : decode cX9_newFlow 179 = .ok (.aload_n 0, 1) := by decide +kernel
theorem dX9_newFlow_180 : decode cX9_newFlow 180 = .ok (.getfield 9, 3) := by decide +kernel
theorem dX9_newFlow_183 : decode cX9_newFlow 183 = .ok (.iload_n 2, 1) := by decide +kernel
theorem dX9_newFlow_184 : decode cX9_newFlow 184 = .ok (.iconst 2, 1) := by decide +kernel
theorem dX9_newFlow_185 : decode cX9_newFlow 185 = .ok (.iadd, 1) := by decide +kernel
theorem dX9_newFlow_186 : decode cX9_newFlow 186 = .ok (.iaload, 1) := by decide +kernel
theorem dX9_newFlow_187 : decode cX9_newFlow 187 = .ok (.bipush 9, 2) := by decide +kernel
theorem dX9_newFlow_189 : decode cX9_newFlow 189 = .ok (.invokevirtual 246, 3) := by decide +kernel
theorem dX9_newFlow_192 : decode cX9_newFlow 192 = .ok (.iastore, 1) := by decide +kernel
theorem dX9_newFlow_193 : decode cX9_newFlow 193 = .ok (.aload_n 0, 1) := by decide +kernel
theorem dX9_newFlow_194 : decode cX9_newFlow 194 = .ok (.getfield 9, 3) := by decide +kernel
theorem dX9_newFlow_197 : decode cX9_newFlow 197 = .ok (.iload_n 2, 1) := by decide +kernel
theorem dX9_newFlow_198 : decode cX9_newFlow 198 = .ok (.bipush 6, 2) := by decide +kernel
theorem dX9_newFlow_200 : decode cX9_newFlow 200 = .ok (.iadd, 1) := by decide +kernel
theorem dX9_newFlow_201 : decode cX9_newFlow 201 = .ok (.aload_n 0, 1) := by decide +kernel
theorem dX9_newFlow_202 : decode cX9_newFlow 202 = .ok (.getfield 9, 3) := by decide +kernel
theorem dX9_newFlow_205 : decode cX9_newFlow 205 = .ok (.iload_n 2, 1) := by decide +kernel
theorem dX9_newFlow_206 : decode cX9_newFlow 206 = .ok (.iconst 2, 1) := by decide +kernel
theorem dX9_newFlow_207 : decode cX9_newFlow 207 = .ok (.iadd, 1) := by decide +kernel
theorem dX9_newFlow_208 : decode cX9_newFlow 208 = .ok (.iaload, 1) := by decide +kernel
theorem dX9_newFlow_209 : decode cX9_newFlow 209 = .ok (.iastore, 1) := by decide +kernel
theorem dX9_newFlow_210 : decode cX9_newFlow 210 = .ok (.aload_n 0, 1) := by decide +kernel
theorem dX9_newFlow_211 : decode cX9_newFlow 211 = .ok (.getfield 9, 3) := by decide +kernel
theorem dX9_newFlow_214 : decode cX9_newFlow 214 = .ok (.iload_n 2, 1) := by decide +kernel
theorem dX9_newFlow_215 : decode cX9_newFlow 215 = .ok (.iconst 5, 1) := by decide +kernel
theorem dX9_newFlow_216 : decode cX9_newFlow 216 = .ok (.iadd, 1) := by decide +kernel
theorem dX9_newFlow_217 : decode cX9_newFlow 217 = .ok (.iconst 1, 1) := by decide +kernel
theorem dX9_newFlow_218 : decode cX9_newFlow 218 = .ok (.iastore, 1) := by decide +kernel
theorem dX9_newFlow_219 : decode cX9_newFlow 219 = .ok (.aload_n 0, 1) := by decide +kernel
theorem dX9_newFlow_220 : decode cX9_newFlow 220 = .ok (.getfield 9, 3) := by decide +kernel
theorem dX9_newFlow_223 : decode cX9_newFlow 223 = .ok (.iload_n 2, 1) := by decide +kernel
theorem dX9_newFlow_224 : decode cX9_newFlow 224 = .ok (.iconst 4, 1) := by decide +kernel
theorem dX9_newFlow_225 : decode cX9_newFlow 225 = .ok (.iadd, 1) := by decide +kernel
theorem dX9_newFlow_226 : decode cX9_newFlow 226 = .ok (.aload_n 0, 1) := by decide +kernel
theorem dX9_newFlow_227 : decode cX9_newFlow 227 = .ok (.ldc 249, 2) := by decide +kernel
theorem dX9_newFlow_229 : decode cX9_newFlow 229 = .ok (.invokevirtual 251, 3) := by decide +kernel
theorem dX9_newFlow_232 : decode cX9_newFlow 232 = .ok (.invokestatic 99, 3) := by decide +kernel
theorem dX9_newFlow_235 : decode cX9_newFlow 235 = .ok (.iastore, 1) := by decide +kernel
theorem dX9_newFlow_236 : decode cX9_newFlow 236 = .ok (.aload_n 0, 1) := by decide +kernel
theorem dX9_newFlow_237 : decode cX9_newFlow 237 = .ok (.ldc 249, 2) := by decide +kernel
theorem dX9_newFlow_239 : decode cX9_newFlow 239 = .ok (.invokevirtual 251, 3) := by decide +kernel
theorem dX9_newFlow_242 : decode cX9_newFlow 242 = .ok (.ifCond .eq 7, 3) := by decide +kernel
theorem dX9_newFlow_245 : decode cX9_newFlow 245 = .ok (.aload_n 0, 1) := by decide +kernel
theorem dX9_newFlow_246 : decode cX9_newFlow 246 = .ok (.invokevirtual 233, 3) := by decide +kernel
theorem dX9_newFlow_249 : decode cX9_newFlow 249 = .ok (.aload_n 0, 1) := by decide +kernel
theorem dX9_newFlow_250 : decode cX9_newFlow 250 = .ok (.getfield 9, 3) := by decide +kernel
theorem dX9_newFlow_253 : decode cX9_newFlow 253 = .ok (.bipush 11, 2) := by decide +kernel
theorem dX9_newFlow_255 : decode cX9_newFlow 255 = .ok (.dup2, 1) := by decide +kernel
theorem dX9_newFlow_256 : decode cX9_newFlow 256 = .ok (.iaload, 1) := by decide +kernel
theorem dX9_newFlow_257 : decode cX9_newFlow 257 = .ok (.iconst 1, 1) := by decide +kernel
theorem dX9_newFlow_258 : decode cX9_newFlow 258 = .ok (.iadd, 1) := by decide +kernel
theorem dX9_newFlow_259 : decode cX9_newFlow 259 = .ok (.iastore, 1) := by decide +kernel
theorem dX9_newFlow_260 : decode cX9_newFlow 260 = .ok (.return_, 1) := by decide +kernel
theorem dX9_once_0 : decode cX9_once 0 = .ok (.aload_n 0, 1) := by decide +kernel
theorem dX9_once_1 : decode cX9_once 1 = .ok (.aload_n 0, 1) := by decide +kernel
theorem dX9_once_2 : decode cX9_once 2 = .ok (.getfield 255, 3) := by decide +kernel
theorem dX9_once_5 : decode cX9_once 5 = .ok (.iload_n 1, 1) := by decide +kernel
theorem dX9_once_6 : decode cX9_once 6 = .ok (.ishr, 1) := by decide +kernel
theorem dX9_once_7 : decode cX9_once 7 = .ok (.iconst 1, 1) := by decide +kernel
theorem dX9_once_8 : decode cX9_once 8 = .ok (.iand, 1) := by decide +kernel
theorem dX9_once_9 : decode cX9_once 9 = .ok (.iconst 1, 1) := by decide +kernel
theorem dX9_once_10 : decode cX9_once 10 = .ok (.if_icmp .ne 7, 3) := by decide +kernel
theorem dX9_once_13 : decode cX9_once 13 = .ok (.iconst 1, 1) := by decide +kernel
theorem dX9_once_14 : decode cX9_once 14 = .ok (.goto 4, 3) := by decide +kernel
theorem dX9_once_17 : decode cX9_once 17 = .ok (.iconst 0, 1) := by decide +kernel
theorem dX9_once_18 : decode cX9_once 18 = .ok (.iconst 3, 1) := by decide +kernel
theorem dX9_once_19 : decode cX9_once 19 = .ok (.invokevirtual 229, 3) := by decide +kernel
theorem dX9_once_22 : decode cX9_once 22 = .ok (.ifCond .eq 4, 3) := by decide +kernel
theorem dX9_once_25 : decode cX9_once 25 = .ok (.return_, 1) := by decide +kernel
theorem dX9_once_26 : decode cX9_once 26 = .ok (.aload_n 0, 1) := by decide +kernel
theorem dX9_once_27 : decode cX9_once 27 = .ok (.dup, 1) := by decide +kernel
theorem dX9_once_28 : decode cX9_once 28 = .ok (.getfield 255, 3) := by decide +kernel
theorem dX9_once_31 : decode cX9_once 31 = .ok (.iconst 1, 1) := by decide +kernel
theorem dX9_once_32 : decode cX9_once 32 = .ok (.iload_n 1, 1) := by decide +kernel
theorem dX9_once_33 : decode cX9_once 33 = .ok (.ishl, 1) := by decide +kernel
theorem dX9_once_34 : decode cX9_once 34 = .ok (.ior, 1) := by decide +kernel
theorem dX9_once_35 : decode cX9_once 35 = .ok (.putfield 255, 3) := by decide +kernel
theorem dX9_once_38 : decode cX9_once 38 = .ok (.aload_n 0, 1) := by decide +kernel
theorem dX9_once_39 : decode cX9_once 39 = .ok (.invokevirtual 233, 3) := by decide +kernel
theorem dX9_once_42 : decode cX9_once 42 = .ok (.return_, 1) := by decide +kernel
theorem dX9_limits_0 : decode cX9_limits 0 = .ok (.aload_n 0, 1) := by decide +kernel
theorem dX9_limits_1 : decode cX9_limits 1 = .ok (.iconst 0, 1) := by decide +kernel
theorem dX9_limits_2 : decode cX9_limits 2 = .ok (.invokevirtual 258, 3) := by decide +kernel
theorem dX9_limits_5 : decode cX9_limits 5 = .ok (.aload_n 0, 1) := by decide +kernel
theorem dX9_limits_6 : decode cX9_limits 6 = .ok (.getfield 210, 3) := by decide +kernel
theorem dX9_limits_9 : decode cX9_limits 9 = .ok (.ifCond .eq 4, 3) := by decide +kernel
theorem dX9_limits_12 : decode cX9_limits 12 = .ok (.return_, 1) := by decide +kernel
theorem dX9_limits_13 : decode cX9_limits 13 = .ok (.aload_n 0, 1) := by decide +kernel
theorem dX9_limits_14 : decode cX9_limits 14 = .ok (.getfield 9, 3) := by decide +kernel
theorem dX9_limits_17 : decode cX9_limits 17 = .ok (.iconst 2, 1) := by decide +kernel
theorem dX9_limits_18 : decode cX9_limits 18 = .ok (.aload_n 0, 1) := by decide +kernel
theorem dX9_limits_19 : decode cX9_limits 19 = .ok (.iconst 0, 1) := by decide +kernel
theorem dX9_limits_20 : decode cX9_limits 20 = .ok (.bipush 39, 2) := by decide +kernel
theorem dX9_limits_22 : decode cX9_limits 22 = .ok (.invokevirtual 246, 3) := by decide +kernel
theorem dX9_limits_25 : decode cX9_limits 25 = .ok (.iastore, 1) := by decide +kernel
theorem dX9_limits_26 : decode cX9_limits 26 = .ok (.aload_n 0, 1) := by decide +kernel
theorem dX9_limits_27 : decode cX9_limits 27 = .ok (.getfield 9, 3) := by decide +kernel
theorem dX9_limits_30 : decode cX9_limits 30 = .ok (.iconst 3, 1) := by decide +kernel
theorem dX9_limits_31 : decode cX9_limits 31 = .ok (.aload_n 0, 1) := by decide +kernel
theorem dX9_limits_32 : decode cX9_limits 32 = .ok (.aload_n 0, 1) := by decide +kernel
theorem dX9_limits_33 : decode cX9_limits 33 = .ok (.getfield 9, 3) := by decide +kernel
theorem dX9_limits_36 : decode cX9_limits 36 = .ok (.iconst 2, 1) := by decide +kernel
theorem dX9_limits_37 : decode cX9_limits 37 = .ok (.iaload, 1) := by decide +kernel
theorem dX9_limits_38 : decode cX9_limits 38 = .ok (.iconst 1, 1) := by decide +kernel
theorem dX9_limits_39 : decode cX9_limits 39 = .ok (.iadd, 1) := by decide +kernel
theorem dX9_limits_40 : decode cX9_limits 40 = .ok (.bipush 40, 2) := by decide +kernel
theorem dX9_limits_42 : decode cX9_limits 42 = .ok (.invokevirtual 246, 3) := by decide +kernel
theorem dX9_limits_45 : decode cX9_limits 45 = .ok (.iastore, 1) := by decide +kernel
theorem dX9_limits_46 : decode cX9_limits 46 = .ok (.return_, 1) := by decide +kernel
theorem dX9_setting_0 : decode cX9_setting 0 = .ok (.aload_n 0, 1) := by decide +kernel
theorem dX9_setting_1 : decode cX9_setting 1 = .ok (.iload_n 1, 1) := by decide +kernel
theorem dX9_setting_2 : decode cX9_setting 2 = .ok (.invokevirtual 258, 3) := by decide +kernel
theorem dX9_setting_5 : decode cX9_setting 5 = .ok (.aload_n 0, 1) := by decide +kernel
theorem dX9_setting_6 : decode cX9_setting 6 = .ok (.getfield 210, 3) := by decide +kernel
theorem dX9_setting_9 : decode cX9_setting 9 = .ok (.ifCond .ne 15, 3) := by decide +kernel
theorem dX9_setting_12 : decode cX9_setting 12 = .ok (.aload_n 0, 1) := by decide +kernel
theorem dX9_setting_13 : decode cX9_setting 13 = .ok (.getfield 9, 3) := by decide +kernel
theorem dX9_setting_16 : decode cX9_setting 16 = .ok (.iload_n 2, 1) := by decide +kernel
theorem dX9_setting_17 : decode cX9_setting 17 = .ok (.aload_n 0, 1) := by decide +kernel
theorem dX9_setting_18 : decode cX9_setting 18 = .ok (.iconst 0, 1) := by decide +kernel
theorem dX9_setting_19 : decode cX9_setting 19 = .ok (.iload_n 3, 1) := by decide +kernel
theorem dX9_setting_20 : decode cX9_setting 20 = .ok (.invokevirtual 246, 3) := by decide +kernel
theorem dX9_setting_23 : decode cX9_setting 23 = .ok (.iastore, 1) := by decide +kernel
theorem dX9_setting_24 : decode cX9_setting 24 = .ok (.return_, 1) := by decide +kernel
theorem dX9_statement_0 : decode cX9_statement 0 = .ok (.aload_n 0, 1) := by decide +kernel
theorem dX9_statement_1 : decode cX9_statement 1 = .ok (.ldc_w 261, 3) := by decide +kernel
theorem dX9_statement_4 : decode cX9_statement 4 = .ok (.invokevirtual 251, 3) := by decide +kernel
theorem dX9_statement_7 : decode cX9_statement 7 = .ok (.ifCond .eq 10, 3) := by decide +kernel
theorem dX9_statement_10 : decode cX9_statement 10 = .ok (.aload_n 0, 1) := by decide +kernel
theorem dX9_statement_11 : decode cX9_statement 11 = .ok (.invokevirtual 263, 3) := by decide +kernel
theorem dX9_statement_14 : decode cX9_statement 14 = .ok (.goto 113, 3) := by decide +kernel
theorem dX9_statement_17 : decode cX9_statement 17 = .ok (.aload_n 0, 1) := by decide +kernel
theorem dX9_statement_18 : decode cX9_statement 18 = .ok (.ldc_w 265, 3) := by decide +kernel
theorem dX9_statement_21 : decode cX9_statement 21 = .ok (.invokevirtual 251, 3) := by decide +kernel
theorem dX9_statement_24 : decode cX9_statement 24 = .ok (.ifCond .eq 14, 3) := by decide +kernel
theorem dX9_statement_27 : decode cX9_statement 27 = .ok (.aload_n 0, 1) := by decide +kernel
theorem dX9_statement_28 : decode cX9_statement 28 = .ok (.iconst 1, 1) := by decide +kernel
theorem dX9_statement_29 : decode cX9_statement 29 = .ok (.iconst 4, 1) := by decide +kernel
theorem dX9_statement_30 : decode cX9_statement 30 = .ok (.ldc 90, 2) := by decide +kernel
theorem dX9_statement_32 : decode cX9_statement 32 = .ok (.invokevirtual 267, 3) := by decide +kernel
theorem dX9_statement_35 : decode cX9_statement 35 = .ok (.goto 92, 3) := by decide +kernel
theorem dX9_statement_38 : decode cX9_statement 38 = .ok (.aload_n 0, 1) := by decide +kernel
theorem dX9_statement_39 : decode cX9_statement 39 = .ok (.ldc_w 270, 3) := by decide +kernel
theorem dX9_statement_42 : decode cX9_statement 42 = .ok (.invokevirtual 251, 3) := by decide +kernel
theorem dX9_statement_45 : decode cX9_statement 45 = .ok (.ifCond .eq 14, 3) := by decide +kernel
theorem dX9_statement_48 : decode cX9_statement 48 = .ok (.aload_n 0, 1) := by decide +kernel
theorem dX9_statement_49 : decode cX9_statement 49 = .ok (.iconst 2, 1) := by decide +kernel
theorem dX9_statement_50 : decode cX9_statement 50 = .ok (.iconst 5, 1) := by decide +kernel
theorem dX9_statement_51 : decode cX9_statement 51 = .ok (.bipush 10, 2) := by decide +kernel
theorem dX9_statement_53 : decode cX9_statement 53 = .ok (.invokevirtual 267, 3) := by decide +kernel
theorem dX9_statement_56 : decode cX9_statement 56 = .ok (.goto 71, 3) := by decide +kernel
theorem dX9_statement_59 : decode cX9_statement 59 = .ok (.aload_n 0, 1) := by decide +kernel
theorem dX9_statement_60 : decode cX9_statement 60 = .ok (.ldc_w 272, 3) := by decide +kernel
theorem dX9_statement_63 : decode cX9_statement 63 = .ok (.invokevirtual 251, 3) := by decide +kernel
theorem dX9_statement_66 : decode cX9_statement 66 = .ok (.ifCond .eq 14, 3) := by decide +kernel
theorem dX9_statement_69 : decode cX9_statement 69 = .ok (.aload_n 0, 1) := by decide +kernel
theorem dX9_statement_70 : decode cX9_statement 70 = .ok (.iconst 3, 1) := by decide +kernel
theorem dX9_statement_71 : decode cX9_statement 71 = .ok (.bipush 6, 2) := by decide +kernel
theorem dX9_statement_73 : decode cX9_statement 73 = .ok (.iconst 1, 1) := by decide +kernel
theorem dX9_statement_74 : decode cX9_statement 74 = .ok (.invokevirtual 267, 3) := by decide +kernel
theorem dX9_statement_77 : decode cX9_statement 77 = .ok (.goto 50, 3) := by decide +kernel
theorem dX9_statement_80 : decode cX9_statement 80 = .ok (.aload_n 0, 1) := by decide +kernel
theorem dX9_statement_81 : decode cX9_statement 81 = .ok (.ldc_w 274, 3) := by decide +kernel
theorem dX9_statement_84 : decode cX9_statement 84 = .ok (.invokevirtual 251, 3) := by decide +kernel
theorem dX9_statement_87 : decode cX9_statement 87 = .ok (.ifCond .eq 16, 3) := by decide +kernel
theorem dX9_statement_90 : decode cX9_statement 90 = .ok (.aload_n 0, 1) := by decide +kernel
theorem dX9_statement_91 : decode cX9_statement 91 = .ok (.iconst 4, 1) := by decide +kernel
theorem dX9_statement_92 : decode cX9_statement 92 = .ok (.bipush 13, 2) := by decide +kernel
theorem dX9_statement_94 : decode cX9_statement 94 = .ok (.sipush 9999, 3) := by decide +kernel
theorem dX9_statement_97 : decode cX9_statement 97 = .ok (.invokevirtual 267, 3) := by decide +kernel
theorem dX9_statement_100 : decode cX9_statement 100 = .ok (.goto 27, 3) := by decide +kernel
theorem dX9_statement_103 : decode cX9_statement 103 = .ok (.aload_n 0, 1) := by decide +kernel
theorem dX9_statement_104 : decode cX9_statement 104 = .ok (.ldc_w 276, 3) := by decide +kernel
theorem dX9_statement_107 : decode cX9_statement 107 = .ok (.invokevirtual 251, 3) := by decide +kernel
theorem dX9_statement_110 : decode cX9_statement 110 = .ok (.ifCond .eq 10, 3) := by decide +kernel
theorem dX9_statement_113 : decode cX9_statement 113 = .ok (.aload_n 0, 1) := by decide +kernel
theorem dX9_statement_114 : decode cX9_statement 114 = .ok (.invokevirtual 278, 3) := by decide +kernel
theorem dX9_statement_117 : decode cX9_statement 117 = .ok (.goto 10, 3) := by decide +kernel
theorem dX9_statement_120 : decode cX9_statement 120 = .ok (.aload_n 0, 1) := by decide +kernel
theorem dX9_statement_121 : decode cX9_statement 121 = .ok (.iconst 1, 1) := by decide +kernel
theorem dX9_statement_122 : decode cX9_statement 122 = .ok (.iconst 1, 1) := by decide +kernel
theorem dX9_statement_123 : decode cX9_statement 123 = .ok (.invokevirtual 229, 3) := by decide +kernel
theorem dX9_statement_126 : decode cX9_statement 126 = .ok (.pop, 1) := by decide +kernel
theorem dX9_statement_127 : decode cX9_statement 127 = .ok (.return_, 1) := by decide +kernel
theorem dX9_setup_0 : decode cX9_setup 0 = .ok (.aload_n 0, 1) := by decide +kernel
theorem dX9_setup_1 : decode cX9_setup 1 = .ok (.iconst 0, 1) := by decide +kernel
theorem dX9_setup_2 : decode cX9_setup 2 = .ok (.putfield 191, 3) := by decide +kernel
theorem dX9_setup_5 : decode cX9_setup 5 = .ok (.aload_n 0, 1) := by decide +kernel
theorem dX9_setup_6 : decode cX9_setup 6 = .ok (.iconst 0, 1) := by decide +kernel
theorem dX9_setup_7 : decode cX9_setup 7 = .ok (.putfield 210, 3) := by decide +kernel
theorem dX9_setup_10 : decode cX9_setup 10 = .ok (.aload_n 0, 1) := by decide +kernel
theorem dX9_setup_11 : decode cX9_setup 11 = .ok (.iconst 0, 1) := by decide +kernel
theorem dX9_setup_12 : decode cX9_setup 12 = .ok (.putfield 255, 3) := by decide +kernel
theorem dX9_setup_15 : decode cX9_setup 15 = .ok (.aload_n 0, 1) := by decide +kernel
theorem dX9_setup_16 : decode cX9_setup 16 = .ok (.invokevirtual 233, 3) := by decide +kernel
theorem dX9_setup_19 : decode cX9_setup 19 = .ok (.aload_n 0, 1) := by decide +kernel
theorem dX9_setup_20 : decode cX9_setup 20 = .ok (.invokevirtual 57, 3) := by decide +kernel
theorem dX9_setup_23 : decode cX9_setup 23 = .ok (.aload_n 0, 1) := by decide +kernel
theorem dX9_setup_24 : decode cX9_setup 24 = .ok (.aload_n 0, 1) := by decide +kernel
theorem dX9_setup_25 : decode cX9_setup 25 = .ok (.ldc_w 281, 3) := by decide +kernel
theorem dX9_setup_28 : decode cX9_setup 28 = .ok (.invokevirtual 251, 3) := by decide +kernel
theorem dX9_setup_31 : decode cX9_setup 31 = .ok (.ifCond .ne 7, 3) := by decide +kernel
theorem dX9_setup_34 : decode cX9_setup 34 = .ok (.iconst 1, 1) := by decide +kernel
theorem dX9_setup_35 : decode cX9_setup 35 = .ok (.goto 4, 3) := by decide +kernel
theorem dX9_setup_38 : decode cX9_setup 38 = .ok (.iconst 0, 1) := by decide +kernel
theorem dX9_setup_39 : decode cX9_setup 39 = .ok (.iconst 1, 1) := by decide +kernel
theorem dX9_setup_40 : decode cX9_setup 40 = .ok (.invokevirtual 229, 3) := by decide +kernel
theorem dX9_setup_43 : decode cX9_setup 43 = .ok (.ifCond .eq 4, 3) := by decide +kernel
theorem dX9_setup_46 : decode cX9_setup 46 = .ok (.return_, 1) := by decide +kernel
theorem dX9_setup_47 : decode cX9_setup 47 = .ok (.aload_n 0, 1) := by decide +kernel
theorem dX9_setup_48 : decode cX9_setup 48 = .ok (.invokevirtual 233, 3) := by decide +kernel
theorem dX9_setup_51 : decode cX9_setup 51 = .ok (.aload_n 0, 1) := by decide +kernel
theorem dX9_setup_52 : decode cX9_setup 52 = .ok (.getfield 9, 3) := by decide +kernel
theorem dX9_setup_55 : decode cX9_setup 55 = .ok (.iconst 0, 1) := by decide +kernel
theorem dX9_setup_56 : decode cX9_setup 56 = .ok (.aload_n 0, 1) := by decide +kernel
theorem dX9_setup_57 : decode cX9_setup 57 = .ok (.iconst 1, 1) := by decide +kernel
theorem dX9_setup_58 : decode cX9_setup 58 = .ok (.bipush 40, 2) := by decide +kernel
theorem dX9_setup_60 : decode cX9_setup 60 = .ok (.invokevirtual 246, 3) := by decide +kernel
theorem dX9_setup_63 : decode cX9_setup 63 = .ok (.iastore, 1) := by decide +kernel
theorem dX9_setup_64 : decode cX9_setup 64 = .ok (.aload_n 0, 1) := by decide +kernel
theorem dX9_setup_65 : decode cX9_setup 65 = .ok (.getfield 9, 3) := by decide +kernel
theorem dX9_setup_68 : decode cX9_setup 68 = .ok (.iconst 1, 1) := by decide +kernel
theorem dX9_setup_69 : decode cX9_setup 69 = .ok (.aload_n 0, 1) := by decide +kernel
theorem dX9_setup_70 : decode cX9_setup 70 = .ok (.iconst 1, 1) := by decide +kernel
theorem dX9_setup_71 : decode cX9_setup 71 = .ok (.bipush 9, 2) := by decide +kernel
theorem dX9_setup_73 : decode cX9_setup 73 = .ok (.invokevirtual 246, 3) := by decide +kernel
theorem dX9_setup_76 : decode cX9_setup 76 = .ok (.iastore, 1) := by decide +kernel
theorem dX9_setup_77 : decode cX9_setup 77 = .ok (.aload_n 0, 1) := by decide +kernel
theorem dX9_setup_78 : decode cX9_setup 78 = .ok (.bipush 59, 2) := by decide +kernel
theorem dX9_setup_80 : decode cX9_setup 80 = .ok (.invokevirtual 226, 3) := by decide +kernel
theorem dX9_setup_83 : decode cX9_setup 83 = .ok (.ifCond .eq 14, 3) := by decide +kernel
theorem dX9_setup_86 : decode cX9_setup 86 = .ok (.aload_n 0, 1) := by decide +kernel
theorem dX9_setup_87 : decode cX9_setup 87 = .ok (.invokevirtual 233, 3) := by decide +kernel
theorem dX9_setup_90 : decode cX9_setup 90 = .ok (.aload_n 0, 1) := by decide +kernel
theorem dX9_setup_91 : decode cX9_setup 91 = .ok (.invokevirtual 283, 3) := by decide +kernel
theorem dX9_setup_94 : decode cX9_setup 94 = .ok (.goto (-17), 3) := by decide +kernel
theorem dX9_setup_97 : decode cX9_setup 97 = .ok (.aload_n 0, 1) := by decide +kernel
theorem dX9_setup_98 : decode cX9_setup 98 = .ok (.aload_n 0, 1) := by decide +kernel
theorem dX9_setup_99 : decode cX9_setup 99 = .ok (.getfield 200, 3) := by decide +kernel
theorem dX9_setup_102 : decode cX9_setup 102 = .ok (.ifCond .eq 7, 3) := by decide +kernel
theorem dX9_setup_105 : decode cX9_setup 105 = .ok (.iconst 1, 1) := by decide +kernel
theorem dX9_setup_106 : decode cX9_setup 106 = .ok (.goto 4, 3) := by decide +kernel
theorem dX9_setup_109 : decode cX9_setup 109 = .ok (.iconst 0, 1) := by decide +kernel
theorem dX9_setup_110 : decode cX9_setup 110 = .ok (.iconst 1, 1) := by decide +kernel
theorem dX9_setup_111 : decode cX9_setup 111 = .ok (.invokevirtual 229, 3) := by decide +kernel
theorem dX9_setup_114 : decode cX9_setup 114 = .ok (.istore_n 1, 1) := by decide +kernel
theorem dX9_setup_115 : decode cX9_setup 115 = .ok (.return_, 1) := by decide +kernel
theorem dX9_load_0 : decode cX9_load 0 = .ok (.aload_n 0, 1) := by decide +kernel
theorem dX9_load_1 : decode cX9_load 1 = .ok (.iconst 0, 1) := by decide +kernel
theorem dX9_load_2 : decode cX9_load 2 = .ok (.putfield 60, 3) := by decide +kernel
theorem dX9_load_5 : decode cX9_load 5 = .ok (.aload_n 0, 1) := by decide +kernel
theorem dX9_load_6 : decode cX9_load 6 = .ok (.invokevirtual 286, 3) := by decide +kernel
theorem dX9_load_9 : decode cX9_load 9 = .ok (.aload_n 0, 1) := by decide +kernel
theorem dX9_load_10 : decode cX9_load 10 = .ok (.invokevirtual 289, 3) := by decide +kernel
theorem dX9_load_13 : decode cX9_load 13 = .ok (.aload_n 0, 1) := by decide +kernel
theorem dX9_load_14 : decode cX9_load 14 = .ok (.invokevirtual 292, 3) := by decide +kernel
theorem dX9_load_17 : decode cX9_load 17 = .ok (.istore_n 1, 1) := by decide +kernel
theorem dX9_load_18 : decode cX9_load 18 = .ok (.iload_n 1, 1) := by decide +kernel
theorem dX9_load_19 : decode cX9_load 19 = .ok (.ifCond .ge 9, 3) := by decide +kernel
theorem dX9_load_22 : decode cX9_load 22 = .ok (.aload_n 0, 1) := by decide +kernel
theorem dX9_load_23 : decode cX9_load 23 = .ok (.iload_n 1, 1) := by decide +kernel
theorem dX9_load_24 : decode cX9_load 24 = .ok (.invokevirtual 295, 3) := by decide +kernel
theorem dX9_load_27 : decode cX9_load 27 = .ok (.ireturn, 1) := by decide +kernel
theorem dX9_load_28 : decode cX9_load 28 = .ok (.aload_n 0, 1) := by decide +kernel
theorem dX9_load_29 : decode cX9_load 29 = .ok (.iconst 0, 1) := by decide +kernel
theorem dX9_load_30 : decode cX9_load 30 = .ok (.putfield 298, 3) := by decide +kernel
theorem dX9_load_33 : decode cX9_load 33 = .ok (.aload_n 0, 1) := by decide +kernel
theorem dX9_load_34 : decode cX9_load 34 = .ok (.getfield 25, 3) := by decide +kernel
theorem dX9_load_37 : decode cX9_load 37 = .ok (.iconst 0, 1) := by decide +kernel
theorem dX9_load_38 : decode cX9_load 38 = .ok (.iconst 0, 1) := by decide +kernel
theorem dX9_load_39 : decode cX9_load 39 = .ok (.bastore, 1) := by decide +kernel
theorem dX9_load_40 : decode cX9_load 40 = .ok (.aload_n 0, 1) := by decide +kernel
theorem dX9_load_41 : decode cX9_load 41 = .ok (.getfield 25, 3) := by decide +kernel
theorem dX9_load_44 : decode cX9_load 44 = .ok (.iconst 1, 1) := by decide +kernel
theorem dX9_load_45 : decode cX9_load 45 = .ok (.iconst 0, 1) := by decide +kernel
theorem dX9_load_46 : decode cX9_load 46 = .ok (.bastore, 1) := by decide +kernel
theorem dX9_load_47 : decode cX9_load 47 = .ok (.aload_n 0, 1) := by decide +kernel
theorem dX9_load_48 : decode cX9_load 48 = .ok (.getfield 9, 3) := by decide +kernel
theorem dX9_load_51 : decode cX9_load 51 = .ok (.bipush 11, 2) := by decide +kernel
theorem dX9_load_53 : decode cX9_load 53 = .ok (.iaload, 1) := by decide +kernel
theorem dX9_load_54 : decode cX9_load 54 = .ok (.ireturn, 1) := by decide +kernel
theorem dX9_orderHere_0 : decode cX9_orderHere 0 = .ok (.aload_n 0, 1) := by decide +kernel
theorem dX9_orderHere_1 : decode cX9_orderHere 1 = .ok (.ldc_w 301, 3) := by decide +kernel
theorem dX9_orderHere_4 : decode cX9_orderHere 4 = .ok (.invokevirtual 251, 3) := by decide +kernel
theorem dX9_orderHere_7 : decode cX9_orderHere 7 = .ok (.ifCond .eq 5, 3) := by decide +kernel
theorem dX9_orderHere_10 : decode cX9_orderHere 10 = .ok (.iconst 0, 1) := by decide +kernel
theorem dX9_orderHere_11 : decode cX9_orderHere 11 = .ok (.ireturn, 1) := by decide +kernel
theorem dX9_orderHere_12 : decode cX9_orderHere 12 = .ok (.aload_n 0, 1) := by decide +kernel
theorem dX9_orderHere_13 : decode cX9_orderHere 13 = .ok (.ldc_w 303, 3) := by decide +kernel
theorem dX9_orderHere_16 : decode cX9_orderHere 16 = .ok (.invokevirtual 251, 3) := by decide +kernel
theorem dX9_orderHere_19 : decode cX9_orderHere 19 = .ok (.ifCond .eq 5, 3) := by decide +kernel
theorem dX9_orderHere_22 : decode cX9_orderHere 22 = .ok (.iconst 1, 1) := by decide +kernel
theorem dX9_orderHere_23 : decode cX9_orderHere 23 = .ok (.ireturn, 1) := by decide +kernel
theorem dX9_orderHere_24 : decode cX9_orderHere 24 = .ok (.aload_n 0, 1) := by decide +kernel
theorem dX9_orderHere_25 : decode cX9_orderHere 25 = .ok (.ldc_w 261, 3) := by decide +kernel
theorem dX9_orderHere_28 : decode cX9_orderHere 28 = .ok (.invokevirtual 251, 3) := by decide +kernel
theorem dX9_orderHere_31 : decode cX9_orderHere 31 = .ok (.ifCond .eq 5, 3) := by decide +kernel
theorem dX9_orderHere_34 : decode cX9_orderHere 34 = .ok (.iconst 2, 1) := by decide +kernel
theorem dX9_orderHere_35 : decode cX9_orderHere 35 = .ok (.ireturn, 1) := by decide +kernel
theorem dX9_orderHere_36 : decode cX9_orderHere 36 = .ok (.aload_n 0, 1) := by decide +kernel
theorem dX9_orderHere_37 : decode cX9_orderHere 37 = .ok (.ldc_w 265, 3) := by decide +kernel
theorem dX9_orderHere_40 : decode cX9_orderHere 40 = .ok (.invokevirtual 251, 3) := by decide +kernel
theorem dX9_orderHere_43 : decode cX9_orderHere 43 = .ok (.ifCond .eq 5, 3) := by decide +kernel
theorem dX9_orderHere_46 : decode cX9_orderHere 46 = .ok (.iconst 3, 1) := by decide +kernel
theorem dX9_orderHere_47 : decode cX9_orderHere 47 = .ok (.ireturn, 1) := by decide +kernel
theorem dX9_orderHere_48 : decode cX9_orderHere 48 = .ok (.aload_n 0, 1) := by decide +kernel
theorem dX9_orderHere_49 : decode cX9_orderHere 49 = .ok (.ldc_w 270, 3) := by decide +kernel
theorem dX9_orderHere_52 : decode cX9_orderHere 52 = .ok (.invokevirtual 251, 3) := by decide +kernel
theorem dX9_orderHere_55 : decode cX9_orderHere 55 = .ok (.ifCond .eq 5, 3) := by decide +kernel
theorem dX9_orderHere_58 : decode cX9_orderHere 58 = .ok (.iconst 4, 1) := by decide +kernel
theorem dX9_orderHere_59 : decode cX9_orderHere 59 = .ok (.ireturn, 1) := by decide +kernel
theorem dX9_orderHere_60 : decode cX9_orderHere 60 = .ok (.aload_n 0, 1) := by decide +kernel
theorem dX9_orderHere_61 : decode cX9_orderHere 61 = .ok (.ldc_w 272, 3) := by decide +kernel
theorem dX9_orderHere_64 : decode cX9_orderHere 64 = .ok (.invokevirtual 251, 3) := by decide +kernel
theorem dX9_orderHere_67 : decode cX9_orderHere 67 = .ok (.ifCond .eq 5, 3) := by decide +kernel
theorem dX9_orderHere_70 : decode cX9_orderHere 70 = .ok (.iconst 5, 1) := by decide +kernel
theorem dX9_orderHere_71 : decode cX9_orderHere 71 = .ok (.ireturn, 1) := by decide +kernel
theorem dX9_orderHere_72 : decode cX9_orderHere 72 = .ok (.aload_n 0, 1) := by decide +kernel
theorem dX9_orderHere_73 : decode cX9_orderHere 73 = .ok (.ldc_w 305, 3) := by decide +kernel
theorem dX9_orderHere_76 : decode cX9_orderHere 76 = .ok (.invokevirtual 251, 3) := by decide +kernel
theorem dX9_orderHere_79 : decode cX9_orderHere 79 = .ok (.ifCond .eq 6, 3) := by decide +kernel
theorem dX9_orderHere_82 : decode cX9_orderHere 82 = .ok (.bipush 6, 2) := by decide +kernel
theorem dX9_orderHere_84 : decode cX9_orderHere 84 = .ok (.ireturn, 1) := by decide +kernel
theorem dX9_orderHere_85 : decode cX9_orderHere 85 = .ok (.aload_n 0, 1) := by decide +kernel
theorem dX9_orderHere_86 : decode cX9_orderHere 86 = .ok (.ldc_w 307, 3) := by decide +kernel
theorem dX9_orderHere_89 : decode cX9_orderHere 89 = .ok (.invokevirtual 251, 3) := by decide +kernel
theorem dX9_orderHere_92 : decode cX9_orderHere 92 = .ok (.ifCond .eq 6, 3) := by decide +kernel
theorem dX9_orderHere_95 : decode cX9_orderHere 95 = .ok (.bipush 7, 2) := by decide +kernel
theorem dX9_orderHere_97 : decode cX9_orderHere 97 = .ok (.ireturn, 1) := by decide +kernel
theorem dX9_orderHere_98 : decode cX9_orderHere 98 = .ok (.aload_n 0, 1) := by decide +kernel
theorem dX9_orderHere_99 : decode cX9_orderHere 99 = .ok (.ldc_w 309, 3) := by decide +kernel
theorem dX9_orderHere_102 : decode cX9_orderHere 102 = .ok (.invokevirtual 251, 3) := by decide +kernel
theorem dX9_orderHere_105 : decode cX9_orderHere 105 = .ok (.ifCond .eq 8, 3) := by decide +kernel
theorem dX9_orderHere_108 : decode cX9_orderHere 108 = .ok (.bipush 8, 2) := by decide +kernel
theorem dX9_orderHere_110 : decode cX9_orderHere 110 = .ok (.goto 4, 3) := by decide +kernel
theorem dX9_orderHere_113 : decode cX9_orderHere 113 = .ok (.iconst (-1), 1) := by decide +kernel
theorem dX9_orderHere_114 : decode cX9_orderHere 114 = .ok (.ireturn, 1) := by decide +kernel
theorem dX9_firstHere_0 : decode cX9_firstHere 0 = .ok (.iload_n 1, 1) := by decide +kernel
theorem dX9_firstHere_1 : decode cX9_firstHere 1 = .ok (.tableswitch 91 0 7 #[47, 55, 60, 68, 76, 84, 55, 55], 47) := by decide +kernel
theorem dX9_firstHere_48 : decode cX9_firstHere 48 = .ok (.aload_n 0, 1) := by decide +kernel
theorem dX9_firstHere_49 : decode cX9_firstHere 49 = .ok (.iconst 1, 1) := by decide +kernel
theorem dX9_firstHere_50 : decode cX9_firstHere 50 = .ok (.bipush 50, 2) := by decide +kernel
theorem dX9_firstHere_52 : decode cX9_firstHere 52 = .ok (.invokevirtual 246, 3) := by decide +kernel
theorem dX9_firstHere_55 : decode cX9_firstHere 55 = .ok (.ireturn, 1) := by decide +kernel
theorem dX9_firstHere_56 : decode cX9_firstHere 56 = .ok (.aload_n 0, 1) := by decide +kernel
theorem dX9_firstHere_57 : decode cX9_firstHere 57 = .ok (.invokevirtual 311, 3) := by decide +kernel
theorem dX9_firstHere_60 : decode cX9_firstHere 60 = .ok (.ireturn, 1) := by decide +kernel
theorem dX9_firstHere_61 : decode cX9_firstHere 61 = .ok (.aload_n 0, 1) := by decide +kernel
theorem dX9_firstHere_62 : decode cX9_firstHere 62 = .ok (.iconst 0, 1) := by decide +kernel
theorem dX9_firstHere_63 : decode cX9_firstHere 63 = .ok (.bipush 39, 2) := by decide +kernel
theorem dX9_firstHere_65 : decode cX9_firstHere 65 = .ok (.invokevirtual 246, 3) := by decide +kernel
theorem dX9_firstHere_68 : decode cX9_firstHere 68 = .ok (.ireturn, 1) := by decide +kernel
theorem dX9_firstHere_69 : decode cX9_firstHere 69 = .ok (.aload_n 0, 1) := by decide +kernel
theorem dX9_firstHere_70 : decode cX9_firstHere 70 = .ok (.iconst 0, 1) := by decide +kernel
theorem dX9_firstHere_71 : decode cX9_firstHere 71 = .ok (.ldc 90, 2) := by decide +kernel
theorem dX9_firstHere_73 : decode cX9_firstHere 73 = .ok (.invokevirtual 246, 3) := by decide +kernel
theorem dX9_firstHere_76 : decode cX9_firstHere 76 = .ok (.ireturn, 1) := by decide +kernel
theorem dX9_firstHere_77 : decode cX9_firstHere 77 = .ok (.aload_n 0, 1) := by decide +kernel
theorem dX9_firstHere_78 : decode cX9_firstHere 78 = .ok (.iconst 0, 1) := by decide +kernel
theorem dX9_firstHere_79 : decode cX9_firstHere 79 = .ok (.bipush 10, 2) := by decide +kernel
theorem dX9_firstHere_81 : decode cX9_firstHere 81 = .ok (.invokevirtual 246, 3) := by decide +kernel
theorem dX9_firstHere_84 : decode cX9_firstHere 84 = .ok (.ireturn, 1) := by decide +kernel
theorem dX9_firstHere_85 : decode cX9_firstHere 85 = .ok (.aload_n 0, 1) := by decide +kernel
theorem dX9_firstHere_86 : decode cX9_firstHere 86 = .ok (.iconst 0, 1) := by decide +kernel
theorem dX9_firstHere_87 : decode cX9_firstHere 87 = .ok (.iconst 1, 1) := by decide +kernel
theorem dX9_firstHere_88 : decode cX9_firstHere 88 = .ok (.invokevirtual 246, 3) := by decide +kernel
theorem dX9_firstHere_91 : decode cX9_firstHere 91 = .ok (.ireturn, 1) := by decide +kernel
theorem dX9_firstHere_92 : decode cX9_firstHere 92 = .ok (.aload_n 0, 1) := by decide +kernel
theorem dX9_firstHere_93 : decode cX9_firstHere 93 = .ok (.iconst 0, 1) := by decide +kernel
theorem dX9_firstHere_94 : decode cX9_firstHere 94 = .ok (.bipush 20, 2) := by decide +kernel
theorem dX9_firstHere_96 : decode cX9_firstHere 96 = .ok (.invokevirtual 246, 3) := by decide +kernel
theorem dX9_firstHere_99 : decode cX9_firstHere 99 = .ok (.ireturn, 1) := by decide +kernel
theorem dX9_secondHere_0 : decode cX9_secondHere 0 = .ok (.iload_n 1, 1) := by decide +kernel
theorem dX9_secondHere_1 : decode cX9_secondHere 1 = .ok (.iconst 1, 1) := by decide +kernel
theorem dX9_secondHere_2 : decode cX9_secondHere 2 = .ok (.if_icmp .ne 11, 3) := by decide +kernel
theorem dX9_secondHere_5 : decode cX9_secondHere 5 = .ok (.aload_n 0, 1) := by decide +kernel
theorem dX9_secondHere_6 : decode cX9_secondHere 6 = .ok (.iconst 1, 1) := by decide +kernel
theorem dX9_secondHere_7 : decode cX9_secondHere 7 = .ok (.bipush 40, 2) := by decide +kernel
theorem dX9_secondHere_9 : decode cX9_secondHere 9 = .ok (.invokevirtual 246, 3) := by decide +kernel
theorem dX9_secondHere_12 : decode cX9_secondHere 12 = .ok (.ireturn, 1) := by decide +kernel
theorem dX9_secondHere_13 : decode cX9_secondHere 13 = .ok (.iload_n 1, 1) := by decide +kernel
theorem dX9_secondHere_14 : decode cX9_secondHere 14 = .ok (.iconst 2, 1) := by decide +kernel
theorem dX9_secondHere_15 : decode cX9_secondHere 15 = .ok (.if_icmp .ne 15, 3) := by decide +kernel
theorem dX9_secondHere_18 : decode cX9_secondHere 18 = .ok (.aload_n 0, 1) := by decide +kernel
theorem dX9_secondHere_19 : decode cX9_secondHere 19 = .ok (.iload_n 2, 1) := by decide +kernel
theorem dX9_secondHere_20 : decode cX9_secondHere 20 = .ok (.iconst 1, 1) := by decide +kernel
theorem dX9_secondHere_21 : decode cX9_secondHere 21 = .ok (.iadd, 1) := by decide +kernel
theorem dX9_secondHere_22 : decode cX9_secondHere 22 = .ok (.bipush 40, 2) := by decide +kernel
theorem dX9_secondHere_24 : decode cX9_secondHere 24 = .ok (.invokevirtual 246, 3) := by decide +kernel
theorem dX9_secondHere_27 : decode cX9_secondHere 27 = .ok (.goto 4, 3) := by decide +kernel
theorem dX9_secondHere_30 : decode cX9_secondHere 30 = .ok (.iconst 0, 1) := by decide +kernel
theorem dX9_secondHere_31 : decode cX9_secondHere 31 = .ok (.ireturn, 1) := by decide +kernel
theorem dX9_readsOrder_0 : decode cX9_readsOrder 0 = .ok (.aload_n 0, 1) := by decide +kernel
theorem dX9_readsOrder_1 : decode cX9_readsOrder 1 = .ok (.invokevirtual 314, 3) := by decide +kernel
theorem dX9_readsOrder_4 : decode cX9_readsOrder 4 = .ok (.istore_n 1, 1) := by decide +kernel
theorem dX9_readsOrder_5 : decode cX9_readsOrder 5 = .ok (.aload_n 0, 1) := by decide +kernel
theorem dX9_readsOrder_6 : decode cX9_readsOrder 6 = .ok (.iload_n 1, 1) := by decide +kernel
theorem dX9_readsOrder_7 : decode cX9_readsOrder 7 = .ok (.iconst (-1), 1) := by decide +kernel
theorem dX9_readsOrder_8 : decode cX9_readsOrder 8 = .ok (.if_icmp .ne 7, 3) := by decide +kernel
theorem dX9_readsOrder_11 : decode cX9_readsOrder 11 = .ok (.iconst 1, 1) := by decide +kernel
theorem dX9_readsOrder_12 : decode cX9_readsOrder 12 = .ok (.goto 4, 3) := by decide +kernel
theorem dX9_readsOrder_15 : decode cX9_readsOrder 15 = .ok (.iconst 0, 1) := by decide +kernel
theorem dX9_readsOrder_16 : decode cX9_readsOrder 16 = .ok (.iconst 1, 1) := by decide +kernel
theorem dX9_readsOrder_17 : decode cX9_readsOrder 17 = .ok (.invokevirtual 229, 3) := by decide +kernel
theorem dX9_readsOrder_20 : decode cX9_readsOrder 20 = .ok (.ifCond .ne 25, 3) := by decide +kernel
theorem dX9_readsOrder_23 : decode cX9_readsOrder 23 = .ok (.aload_n 0, 1) := by decide +kernel
theorem dX9_readsOrder_24 : decode cX9_readsOrder 24 = .ok (.aload_n 0, 1) := by decide +kernel
theorem dX9_readsOrder_25 : decode cX9_readsOrder 25 = .ok (.getfield 317, 3) := by decide +kernel
theorem dX9_readsOrder_28 : decode cX9_readsOrder 28 = .ok (.bipush 30, 2) := by decide +kernel
theorem dX9_readsOrder_30 : decode cX9_readsOrder 30 = .ok (.if_icmp .ne 7, 3) := by decide +kernel
theorem dX9_readsOrder_33 : decode cX9_readsOrder 33 = .ok (.iconst 1, 1) := by decide +kernel
theorem dX9_readsOrder_34 : decode cX9_readsOrder 34 = .ok (.goto 4, 3) := by decide +kernel
theorem dX9_readsOrder_37 : decode cX9_readsOrder 37 = .ok (.iconst 0, 1) := by decide +kernel
theorem dX9_readsOrder_38 : decode cX9_readsOrder 38 = .ok (.iconst 5, 1) := by decide +kernel
theorem dX9_readsOrder_39 : decode cX9_readsOrder 39 = .ok (.invokevirtual 229, 3) := by decide +kernel
theorem dX9_readsOrder_42 : decode cX9_readsOrder 42 = .ok (.ifCond .eq 4, 3) := by decide +kernel
theorem dX9_readsOrder_45 : decode cX9_readsOrder 45 = .ok (.return_, 1) := by decide +kernel
theorem dX9_readsOrder_46 : decode cX9_readsOrder 46 = .ok (.aload_n 0, 1) := by decide +kernel
theorem dX9_readsOrder_47 : decode cX9_readsOrder 47 = .ok (.dup, 1) := by decide +kernel
theorem dX9_readsOrder_48 : decode cX9_readsOrder 48 = .ok (.getfield 317, 3) := by decide +kernel
theorem dX9_readsOrder_51 : decode cX9_readsOrder 51 = .ok (.iconst 1, 1) := by decide +kernel
theorem dX9_readsOrder_52 : decode cX9_readsOrder 52 = .ok (.iadd, 1) := by decide +kernel
theorem dX9_readsOrder_53 : decode cX9_readsOrder 53 = .ok (.putfield 317, 3) := by decide +kernel
theorem dX9_readsOrder_56 : decode cX9_readsOrder 56 = .ok (.aload_n 0, 1) := by decide +kernel
theorem dX9_readsOrder_57 : decode cX9_readsOrder 57 = .ok (.invokevirtual 233, 3) := by decide +kernel
theorem dX9_readsOrder_60 : decode cX9_readsOrder 60 = .ok (.aload_n 0, 1) := by decide +kernel
theorem dX9_readsOrder_61 : decode cX9_readsOrder 61 = .ok (.getfield 36, 3) := by decide +kernel
theorem dX9_readsOrder_64 : decode cX9_readsOrder 64 = .ok (.aload_n 0, 1) := by decide +kernel
theorem dX9_readsOrder_65 : decode cX9_readsOrder 65 = .ok (.getfield 320, 3) := by decide +kernel
theorem dX9_readsOrder_68 : decode cX9_readsOrder 68 = .ok (.iload_n 1, 1) := by decide +kernel
theorem dX9_readsOrder_69 : decode cX9_readsOrder 69 = .ok (.iastore, 1) := by decide +kernel
theorem dX9_readsOrder_70 : decode cX9_readsOrder 70 = .ok (.aload_n 0, 1) := by decide +kernel
theorem dX9_readsOrder_71 : decode cX9_readsOrder 71 = .ok (.getfield 39, 3) := by decide +kernel
theorem dX9_readsOrder_74 : decode cX9_readsOrder 74 = .ok (.aload_n 0, 1) := by decide +kernel
theorem dX9_readsOrder_75 : decode cX9_readsOrder 75 = .ok (.getfield 320, 3) := by decide +kernel
theorem dX9_readsOrder_78 : decode cX9_readsOrder 78 = .ok (.aload_n 0, 1) := by decide +kernel
theorem dX9_readsOrder_79 : decode cX9_readsOrder 79 = .ok (.iload_n 1, 1) := by decide +kernel
theorem dX9_readsOrder_80 : decode cX9_readsOrder 80 = .ok (.invokevirtual 323, 3) := by decide +kernel
theorem dX9_readsOrder_83 : decode cX9_readsOrder 83 = .ok (.iastore, 1) := by decide +kernel
theorem dX9_readsOrder_84 : decode cX9_readsOrder 84 = .ok (.aload_n 0, 1) := by decide +kernel
theorem dX9_readsOrder_85 : decode cX9_readsOrder 85 = .ok (.getfield 42, 3) := by decide +kernel
theorem dX9_readsOrder_88 : decode cX9_readsOrder 88 = .ok (.aload_n 0, 1) := by decide +kernel
theorem dX9_readsOrder_89 : decode cX9_readsOrder 89 = .ok (.getfield 320, 3) := by decide +kernel
theorem dX9_readsOrder_92 : decode cX9_readsOrder 92 = .ok (.aload_n 0, 1) := by decide +kernel
theorem dX9_readsOrder_93 : decode cX9_readsOrder 93 = .ok (.iload_n 1, 1) := by decide +kernel
theorem dX9_readsOrder_94 : decode cX9_readsOrder 94 = .ok (.aload_n 0, 1) := by decide +kernel
theorem dX9_readsOrder_95 : decode cX9_readsOrder 95 = .ok (.getfield 39, 3) := by decide +kernel
theorem dX9_readsOrder_98 : decode cX9_readsOrder 98 = .ok (.aload_n 0, 1) := by decide +kernel
theorem dX9_readsOrder_99 : decode cX9_readsOrder 99 = .ok (.getfield 320, 3) := by decide +kernel
theorem dX9_readsOrder_102 : decode cX9_readsOrder 102 = .ok (.iaload, 1) := by decide +kernel
theorem dX9_readsOrder_103 : decode cX9_readsOrder 103 = .ok (.invokevirtual 326, 3) := by decide +kernel
theorem dX9_readsOrder_106 : decode cX9_readsOrder 106 = .ok (.iastore, 1) := by decide +kernel
theorem dX9_readsOrder_107 : decode cX9_readsOrder 107 = .ok (.iload_n 1, 1) := by decide +kernel
theorem dX9_readsOrder_108 : decode cX9_readsOrder 108 = .ok (.bipush 8, 2) := by decide +kernel
theorem dX9_readsOrder_110 : decode cX9_readsOrder 110 = .ok (.if_icmp .eq 20, 3) := by decide +kernel
theorem dX9_readsOrder_113 : decode cX9_readsOrder 113 = .ok (.aload_n 0, 1) := by decide +kernel
theorem dX9_readsOrder_114 : decode cX9_readsOrder 114 = .ok (.dup, 1) := by decide +kernel
theorem dX9_readsOrder_115 : decode cX9_readsOrder 115 = .ok (.getfield 320, 3) := by decide +kernel
theorem dX9_readsOrder_118 : decode cX9_readsOrder 118 = .ok (.iconst 1, 1) := by decide +kernel
theorem dX9_readsOrder_119 : decode cX9_readsOrder 119 = .ok (.iadd, 1) := by decide +kernel
theorem dX9_readsOrder_120 : decode cX9_readsOrder 120 = .ok (.putfield 320, 3) := by decide +kernel
theorem dX9_readsOrder_123 : decode cX9_readsOrder 123 = .ok (.aload_n 0, 1) := by decide +kernel
theorem dX9_readsOrder_124 : decode cX9_readsOrder 124 = .ok (.bipush 59, 2) := by decide +kernel
theorem dX9_readsOrder_126 : decode cX9_readsOrder 126 = .ok (.invokevirtual 329, 3) := by decide +kernel
theorem dX9_readsOrder_129 : decode cX9_readsOrder 129 = .ok (.return_, 1) := by decide +kernel
theorem dX9_readsOrder_130 : decode cX9_readsOrder 130 = .ok (.aload_n 0, 1) := by decide +kernel
theorem dX9_readsOrder_131 : decode cX9_readsOrder 131 = .ok (.aload_n 0, 1) := by decide +kernel
theorem dX9_readsOrder_132 : decode cX9_readsOrder 132 = .ok (.bipush 40, 2) := by decide +kernel
theorem dX9_readsOrder_134 : decode cX9_readsOrder 134 = .ok (.invokevirtual 226, 3) := by decide +kernel
theorem dX9_readsOrder_137 : decode cX9_readsOrder 137 = .ok (.ifCond .eq 15, 3) := by decide +kernel
theorem dX9_readsOrder_140 : decode cX9_readsOrder 140 = .ok (.aload_n 0, 1) := by decide +kernel
theorem dX9_readsOrder_141 : decode cX9_readsOrder 141 = .ok (.getfield 332, 3) := by decide +kernel
theorem dX9_readsOrder_144 : decode cX9_readsOrder 144 = .ok (.iconst 2, 1) := by decide +kernel
theorem dX9_readsOrder_145 : decode cX9_readsOrder 145 = .ok (.if_icmp .ne 7, 3) := by decide +kernel
theorem dX9_readsOrder_148 : decode cX9_readsOrder 148 = .ok (.iconst 1, 1) := by decide +kernel
theorem dX9_readsOrder_149 : decode cX9_readsOrder 149 = .ok (.goto 4, 3) := by decide +kernel
theorem dX9_readsOrder_152 : decode cX9_readsOrder 152 = .ok (.iconst 0, 1) := by decide +kernel
theorem dX9_readsOrder_153 : decode cX9_readsOrder 153 = .ok (.iconst 5, 1) := by decide +kernel
theorem dX9_readsOrder_154 : decode cX9_readsOrder 154 = .ok (.invokevirtual 229, 3) := by decide +kernel
theorem dX9_readsOrder_157 : decode cX9_readsOrder 157 = .ok (.ifCond .eq 4, 3) := by decide +kernel
theorem dX9_readsOrder_160 : decode cX9_readsOrder 160 = .ok (.return_, 1) := by decide +kernel
theorem dX9_readsOrder_161 : decode cX9_readsOrder 161 = .ok (.aload_n 0, 1) := by decide +kernel
theorem dX9_readsOrder_162 : decode cX9_readsOrder 162 = .ok (.bipush 40, 2) := by decide +kernel
theorem dX9_readsOrder_164 : decode cX9_readsOrder 164 = .ok (.invokevirtual 329, 3) := by decide +kernel
theorem dX9_readsOrder_167 : decode cX9_readsOrder 167 = .ok (.aload_n 0, 1) := by decide +kernel
theorem dX9_readsOrder_168 : decode cX9_readsOrder 168 = .ok (.getfield 48, 3) := by decide +kernel
theorem dX9_readsOrder_171 : decode cX9_readsOrder 171 = .ok (.aload_n 0, 1) := by decide +kernel
theorem dX9_readsOrder_172 : decode cX9_readsOrder 172 = .ok (.getfield 332, 3) := by decide +kernel
theorem dX9_readsOrder_175 : decode cX9_readsOrder 175 = .ok (.iconst 1, 1) := by decide +kernel
theorem dX9_readsOrder_176 : decode cX9_readsOrder 176 = .ok (.invokestatic 154, 3) := by decide +kernel
theorem dX9_readsOrder_179 : decode cX9_readsOrder 179 = .ok (.aload_n 0, 1) := by decide +kernel
theorem dX9_readsOrder_180 : decode cX9_readsOrder 180 = .ok (.getfield 320, 3) := by decide +kernel
theorem dX9_readsOrder_183 : decode cX9_readsOrder 183 = .ok (.iastore, 1) := by decide +kernel
theorem dX9_readsOrder_184 : decode cX9_readsOrder 184 = .ok (.aload_n 0, 1) := by decide +kernel
theorem dX9_readsOrder_185 : decode cX9_readsOrder 185 = .ok (.dup, 1) := by decide +kernel
theorem dX9_readsOrder_186 : decode cX9_readsOrder 186 = .ok (.getfield 332, 3) := by decide +kernel
theorem dX9_readsOrder_189 : decode cX9_readsOrder 189 = .ok (.iconst 1, 1) := by decide +kernel
theorem dX9_readsOrder_190 : decode cX9_readsOrder 190 = .ok (.iadd, 1) := by decide +kernel
theorem dX9_readsOrder_191 : decode cX9_readsOrder 191 = .ok (.putfield 332, 3) := by decide +kernel
theorem dX9_readsOrder_194 : decode cX9_readsOrder 194 = .ok (.aload_n 0, 1) := by decide +kernel
theorem dX9_readsOrder_195 : decode cX9_readsOrder 195 = .ok (.dup, 1) := by decide +kernel
theorem dX9_readsOrder_196 : decode cX9_readsOrder 196 = .ok (.getfield 320, 3) := by decide +kernel
theorem dX9_readsOrder_199 : decode cX9_readsOrder 199 = .ok (.iconst 1, 1) := by decide +kernel
theorem dX9_readsOrder_200 : decode cX9_readsOrder 200 = .ok (.iadd, 1) := by decide +kernel
theorem dX9_readsOrder_201 : decode cX9_readsOrder 201 = .ok (.putfield 320, 3) := by decide +kernel
theorem dX9_readsOrder_204 : decode cX9_readsOrder 204 = .ok (.return_, 1) := by decide +kernel
theorem dX9_closes_0 : decode cX9_closes 0 = .ok (.aload_n 0, 1) := by decide +kernel
theorem dX9_closes_1 : decode cX9_closes 1 = .ok (.getfield 332, 3) := by decide +kernel
theorem dX9_closes_4 : decode cX9_closes 4 = .ok (.ifCond .le 74, 3) := by decide +kernel
theorem dX9_closes_7 : decode cX9_closes 7 = .ok (.aload_n 0, 1) := by decide +kernel
theorem dX9_closes_8 : decode cX9_closes 8 = .ok (.bipush 41, 2) := by decide +kernel
theorem dX9_closes_10 : decode cX9_closes 10 = .ok (.invokevirtual 226, 3) := by decide +kernel
theorem dX9_closes_13 : decode cX9_closes 13 = .ok (.ifCond .eq 65, 3) := by decide +kernel
theorem dX9_closes_16 : decode cX9_closes 16 = .ok (.aload_n 0, 1) := by decide +kernel
theorem dX9_closes_17 : decode cX9_closes 17 = .ok (.dup, 1) := by decide +kernel
theorem dX9_closes_18 : decode cX9_closes 18 = .ok (.getfield 332, 3) := by decide +kernel
theorem dX9_closes_21 : decode cX9_closes 21 = .ok (.iconst 1, 1) := by decide +kernel
theorem dX9_closes_22 : decode cX9_closes 22 = .ok (.isub, 1) := by decide +kernel
theorem dX9_closes_23 : decode cX9_closes 23 = .ok (.putfield 332, 3) := by decide +kernel
theorem dX9_closes_26 : decode cX9_closes 26 = .ok (.aload_n 0, 1) := by decide +kernel
theorem dX9_closes_27 : decode cX9_closes 27 = .ok (.getfield 45, 3) := by decide +kernel
theorem dX9_closes_30 : decode cX9_closes 30 = .ok (.aload_n 0, 1) := by decide +kernel
theorem dX9_closes_31 : decode cX9_closes 31 = .ok (.getfield 48, 3) := by decide +kernel
theorem dX9_closes_34 : decode cX9_closes 34 = .ok (.aload_n 0, 1) := by decide +kernel
theorem dX9_closes_35 : decode cX9_closes 35 = .ok (.getfield 332, 3) := by decide +kernel
theorem dX9_closes_38 : decode cX9_closes 38 = .ok (.iaload, 1) := by decide +kernel
theorem dX9_closes_39 : decode cX9_closes 39 = .ok (.aload_n 0, 1) := by decide +kernel
theorem dX9_closes_40 : decode cX9_closes 40 = .ok (.getfield 320, 3) := by decide +kernel
theorem dX9_closes_43 : decode cX9_closes 43 = .ok (.iastore, 1) := by decide +kernel
theorem dX9_closes_44 : decode cX9_closes 44 = .ok (.aload_n 0, 1) := by decide +kernel
theorem dX9_closes_45 : decode cX9_closes 45 = .ok (.getfield 36, 3) := by decide +kernel
theorem dX9_closes_48 : decode cX9_closes 48 = .ok (.aload_n 0, 1) := by decide +kernel
theorem dX9_closes_49 : decode cX9_closes 49 = .ok (.getfield 320, 3) := by decide +kernel
theorem dX9_closes_52 : decode cX9_closes 52 = .ok (.bipush 9, 2) := by decide +kernel
theorem dX9_closes_54 : decode cX9_closes 54 = .ok (.iastore, 1) := by decide +kernel
theorem dX9_closes_55 : decode cX9_closes 55 = .ok (.aload_n 0, 1) := by decide +kernel
theorem dX9_closes_56 : decode cX9_closes 56 = .ok (.dup, 1) := by decide +kernel
theorem dX9_closes_57 : decode cX9_closes 57 = .ok (.getfield 320, 3) := by decide +kernel
theorem dX9_closes_60 : decode cX9_closes 60 = .ok (.iconst 1, 1) := by decide +kernel
theorem dX9_closes_61 : decode cX9_closes 61 = .ok (.iadd, 1) := by decide +kernel
theorem dX9_closes_62 : decode cX9_closes 62 = .ok (.putfield 320, 3) := by decide +kernel
theorem dX9_closes_65 : decode cX9_closes 65 = .ok (.aload_n 0, 1) := by decide +kernel
theorem dX9_closes_66 : decode cX9_closes 66 = .ok (.invokevirtual 233, 3) := by decide +kernel
theorem dX9_closes_69 : decode cX9_closes 69 = .ok (.aload_n 0, 1) := by decide +kernel
theorem dX9_closes_70 : decode cX9_closes 70 = .ok (.bipush 59, 2) := by decide +kernel
theorem dX9_closes_72 : decode cX9_closes 72 = .ok (.invokevirtual 329, 3) := by decide +kernel
theorem dX9_closes_75 : decode cX9_closes 75 = .ok (.goto (-75), 3) := by decide +kernel
theorem dX9_closes_78 : decode cX9_closes 78 = .ok (.return_, 1) := by decide +kernel
theorem dX9_next_0 : decode cX9_next 0 = .ok (.aload_n 0, 1) := by decide +kernel
theorem dX9_next_1 : decode cX9_next 1 = .ok (.iconst 0, 1) := by decide +kernel
theorem dX9_next_2 : decode cX9_next 2 = .ok (.putfield 60, 3) := by decide +kernel
theorem dX9_next_5 : decode cX9_next 5 = .ok (.aload_n 0, 1) := by decide +kernel
theorem dX9_next_6 : decode cX9_next 6 = .ok (.aload_n 0, 1) := by decide +kernel
theorem dX9_next_7 : decode cX9_next 7 = .ok (.aload_n 0, 1) := by decide +kernel
theorem dX9_next_8 : decode cX9_next 8 = .ok (.getfield 9, 3) := by decide +kernel
theorem dX9_next_11 : decode cX9_next 11 = .ok (.bipush 9, 2) := by decide +kernel
theorem dX9_next_13 : decode cX9_next 13 = .ok (.iaload, 1) := by decide +kernel
theorem dX9_next_14 : decode cX9_next 14 = .ok (.aload_n 0, 1) := by decide +kernel
theorem dX9_next_15 : decode cX9_next 15 = .ok (.getfield 9, 3) := by decide +kernel
theorem dX9_next_18 : decode cX9_next 18 = .ok (.bipush 8, 2) := by decide +kernel
theorem dX9_next_20 : decode cX9_next 20 = .ok (.iaload, 1) := by decide +kernel
theorem dX9_next_21 : decode cX9_next 21 = .ok (.invokevirtual 106, 3) := by decide +kernel
theorem dX9_next_24 : decode cX9_next 24 = .ok (.aload_n 0, 1) := by decide +kernel
theorem dX9_next_25 : decode cX9_next 25 = .ok (.getfield 9, 3) := by decide +kernel
theorem dX9_next_28 : decode cX9_next 28 = .ok (.bipush 8, 2) := by decide +kernel
theorem dX9_next_30 : decode cX9_next 30 = .ok (.iaload, 1) := by decide +kernel
theorem dX9_next_31 : decode cX9_next 31 = .ok (.invokevirtual 109, 3) := by decide +kernel
theorem dX9_next_34 : decode cX9_next 34 = .ok (.ireturn, 1) := by decide +kernel
theorem dX9_setLimits_0 : decode cX9_setLimits 0 = .ok (.aload_n 0, 1) := by decide +kernel
theorem dX9_setLimits_1 : decode cX9_setLimits 1 = .ok (.iconst 0, 1) := by decide +kernel
theorem dX9_setLimits_2 : decode cX9_setLimits 2 = .ok (.putfield 60, 3) := by decide +kernel
theorem dX9_setLimits_5 : decode cX9_setLimits 5 = .ok (.aload_n 0, 1) := by decide +kernel
theorem dX9_setLimits_6 : decode cX9_setLimits 6 = .ok (.iload_n 1, 1) := by decide +kernel
theorem dX9_setLimits_7 : decode cX9_setLimits 7 = .ok (.iconst 0, 1) := by decide +kernel
theorem dX9_setLimits_8 : decode cX9_setLimits 8 = .ok (.bipush 39, 2) := by decide +kernel
theorem dX9_setLimits_10 : decode cX9_setLimits 10 = .ok (.invokestatic 63, 3) := by decide +kernel
theorem dX9_setLimits_13 : decode cX9_setLimits 13 = .ok (.ifCond .eq 14, 3) := by decide +kernel
theorem dX9_setLimits_16 : decode cX9_setLimits 16 = .ok (.iload_n 2, 1) := by decide +kernel
theorem dX9_setLimits_17 : decode cX9_setLimits 17 = .ok (.iload_n 1, 1) := by decide +kernel
theorem dX9_setLimits_18 : decode cX9_setLimits 18 = .ok (.if_icmp .le 9, 3) := by decide +kernel
theorem dX9_setLimits_21 : decode cX9_setLimits 21 = .ok (.iload_n 2, 1) := by decide +kernel
theorem dX9_setLimits_22 : decode cX9_setLimits 22 = .ok (.bipush 40, 2) := by decide +kernel
theorem dX9_setLimits_24 : decode cX9_setLimits 24 = .ok (.if_icmp .le 7, 3) := by decide +kernel
theorem dX9_setLimits_27 : decode cX9_setLimits 27 = .ok (.iconst 1, 1) := by decide +kernel
theorem dX9_setLimits_28 : decode cX9_setLimits 28 = .ok (.goto 4, 3) := by decide +kernel
theorem dX9_setLimits_31 : decode cX9_setLimits 31 = .ok (.iconst 0, 1) := by decide +kernel
theorem dX9_setLimits_32 : decode cX9_setLimits 32 = .ok (.iconst 1, 1) := by decide +kernel
theorem dX9_setLimits_33 : decode cX9_setLimits 33 = .ok (.invokevirtual 366, 3) := by decide +kernel
theorem dX9_setLimits_36 : decode cX9_setLimits 36 = .ok (.ifCond .eq 5, 3) := by decide +kernel
theorem dX9_setLimits_39 : decode cX9_setLimits 39 = .ok (.iconst 0, 1) := by decide +kernel
theorem dX9_setLimits_40 : decode cX9_setLimits 40 = .ok (.ireturn, 1) := by decide +kernel
theorem dX9_setLimits_41 : decode cX9_setLimits 41 = .ok (.aload_n 0, 1) := by decide +kernel
theorem dX9_setLimits_42 : decode cX9_setLimits 42 = .ok (.invokevirtual 423, 3) := by decide +kernel
theorem dX9_setLimits_45 : decode cX9_setLimits 45 = .ok (.aload_n 0, 1) := by decide +kernel
theorem dX9_setLimits_46 : decode cX9_setLimits 46 = .ok (.aload_n 0, 1) := by decide +kernel
theorem dX9_setLimits_47 : decode cX9_setLimits 47 = .ok (.iload_n 1, 1) := by decide +kernel
theorem dX9_setLimits_48 : decode cX9_setLimits 48 = .ok (.iload_n 2, 1) := by decide +kernel
theorem dX9_setLimits_49 : decode cX9_setLimits 49 = .ok (.invokevirtual 344, 3) := by decide +kernel
theorem dX9_setLimits_52 : decode cX9_setLimits 52 = .ok (.invokevirtual 426, 3) := by decide +kernel
theorem dX9_setLimits_55 : decode cX9_setLimits 55 = .ok (.ireturn, 1) := by decide +kernel
theorem dX9_sets_0 : decode cX9_sets 0 = .ok (.aload_n 0, 1) := by decide +kernel
theorem dX9_sets_1 : decode cX9_sets 1 = .ok (.iconst 0, 1) := by decide +kernel
theorem dX9_sets_2 : decode cX9_sets 2 = .ok (.putfield 60, 3) := by decide +kernel
theorem dX9_sets_5 : decode cX9_sets 5 = .ok (.aload_n 0, 1) := by decide +kernel
theorem dX9_sets_6 : decode cX9_sets 6 = .ok (.iload_n 2, 1) := by decide +kernel
theorem dX9_sets_7 : decode cX9_sets 7 = .ok (.iconst 0, 1) := by decide +kernel
theorem dX9_sets_8 : decode cX9_sets 8 = .ok (.iload_n 3, 1) := by decide +kernel
theorem dX9_sets_9 : decode cX9_sets 9 = .ok (.invokestatic 63, 3) := by decide +kernel
theorem dX9_sets_12 : decode cX9_sets 12 = .ok (.ifCond .ne 7, 3) := by decide +kernel
theorem dX9_sets_15 : decode cX9_sets 15 = .ok (.iconst 1, 1) := by decide +kernel
theorem dX9_sets_16 : decode cX9_sets 16 = .ok (.goto 4, 3) := by decide +kernel
theorem dX9_sets_19 : decode cX9_sets 19 = .ok (.iconst 0, 1) := by decide +kernel
theorem dX9_sets_20 : decode cX9_sets 20 = .ok (.iconst 1, 1) := by decide +kernel
theorem dX9_sets_21 : decode cX9_sets 21 = .ok (.invokevirtual 366, 3) := by decide +kernel
theorem dX9_sets_24 : decode cX9_sets 24 = .ok (.ifCond .eq 5, 3) := by decide +kernel
theorem dX9_sets_27 : decode cX9_sets 27 = .ok (.iconst 0, 1) := by decide +kernel
theorem dX9_sets_28 : decode cX9_sets 28 = .ok (.ireturn, 1) := by decide +kernel
theorem dX9_sets_29 : decode cX9_sets 29 = .ok (.aload_n 0, 1) := by decide +kernel
theorem dX9_sets_30 : decode cX9_sets 30 = .ok (.invokevirtual 423, 3) := by decide +kernel
theorem dX9_sets_33 : decode cX9_sets 33 = .ok (.aload_n 0, 1) := by decide +kernel
theorem dX9_sets_34 : decode cX9_sets 34 = .ok (.aload_n 0, 1) := by decide +kernel
theorem dX9_sets_35 : decode cX9_sets 35 = .ok (.iload_n 1, 1) := by decide +kernel
theorem dX9_sets_36 : decode cX9_sets 36 = .ok (.iload_n 2, 1) := by decide +kernel
theorem dX9_sets_37 : decode cX9_sets 37 = .ok (.invokevirtual 347, 3) := by decide +kernel
theorem dX9_sets_40 : decode cX9_sets 40 = .ok (.invokevirtual 426, 3) := by decide +kernel
theorem dX9_sets_43 : decode cX9_sets 43 = .ok (.ireturn, 1) := by decide +kernel
theorem dX9_setTop_0 : decode cX9_setTop 0 = .ok (.aload_n 0, 1) := by decide +kernel
theorem dX9_setTop_1 : decode cX9_setTop 1 = .ok (.iconst 4, 1) := by decide +kernel
theorem dX9_setTop_2 : decode cX9_setTop 2 = .ok (.iload_n 1, 1) := by decide +kernel
theorem dX9_setTop_3 : decode cX9_setTop 3 = .ok (.ldc 90, 2) := by decide +kernel
theorem dX9_setTop_5 : decode cX9_setTop 5 = .ok (.invokevirtual 429, 3) := by decide +kernel
theorem dX9_setTop_8 : decode cX9_setTop 8 = .ok (.ireturn, 1) := by decide +kernel
theorem dX9_setWeight_0 : decode cX9_setWeight 0 = .ok (.aload_n 0, 1) := by decide +kernel
theorem dX9_setWeight_1 : decode cX9_setWeight 1 = .ok (.iconst 5, 1) := by decide +kernel
theorem dX9_setWeight_2 : decode cX9_setWeight 2 = .ok (.iload_n 1, 1) := by decide +kernel
theorem dX9_setWeight_3 : decode cX9_setWeight 3 = .ok (.bipush 10, 2) := by decide +kernel
theorem dX9_setWeight_5 : decode cX9_setWeight 5 = .ok (.invokevirtual 429, 3) := by decide +kernel
theorem dX9_setWeight_8 : decode cX9_setWeight 8 = .ok (.ireturn, 1) := by decide +kernel
theorem dX9_setGentle_0 : decode cX9_setGentle 0 = .ok (.aload_n 0, 1) := by decide +kernel
theorem dX9_setGentle_1 : decode cX9_setGentle 1 = .ok (.bipush 6, 2) := by decide +kernel
theorem dX9_setGentle_3 : decode cX9_setGentle 3 = .ok (.iload_n 1, 1) := by decide +kernel
theorem dX9_setGentle_4 : decode cX9_setGentle 4 = .ok (.iconst 1, 1) := by decide +kernel
theorem dX9_setGentle_5 : decode cX9_setGentle 5 = .ok (.invokevirtual 429, 3) := by decide +kernel
theorem dX9_setGentle_8 : decode cX9_setGentle 8 = .ok (.ireturn, 1) := by decide +kernel
theorem dX9_setOn_0 : decode cX9_setOn 0 = .ok (.aload_n 0, 1) := by decide +kernel
theorem dX9_setOn_1 : decode cX9_setOn 1 = .ok (.iconst 0, 1) := by decide +kernel
theorem dX9_setOn_2 : decode cX9_setOn 2 = .ok (.putfield 60, 3) := by decide +kernel
theorem dX9_setOn_5 : decode cX9_setOn 5 = .ok (.aload_n 0, 1) := by decide +kernel
theorem dX9_setOn_6 : decode cX9_setOn 6 = .ok (.iload_n 1, 1) := by decide +kernel
theorem dX9_setOn_7 : decode cX9_setOn 7 = .ok (.invokevirtual 375, 3) := by decide +kernel
theorem dX9_setOn_10 : decode cX9_setOn 10 = .ok (.ifCond .eq 5, 3) := by decide +kernel
theorem dX9_setOn_13 : decode cX9_setOn 13 = .ok (.iconst 0, 1) := by decide +kernel
theorem dX9_setOn_14 : decode cX9_setOn 14 = .ok (.ireturn, 1) := by decide +kernel
theorem dX9_setOn_15 : decode cX9_setOn 15 = .ok (.aload_n 0, 1) := by decide +kernel
theorem dX9_setOn_16 : decode cX9_setOn 16 = .ok (.invokevirtual 423, 3) := by decide +kernel
theorem dX9_setOn_19 : decode cX9_setOn 19 = .ok (.aload_n 0, 1) := by decide +kernel
theorem dX9_setOn_20 : decode cX9_setOn 20 = .ok (.aload_n 0, 1) := by decide +kernel
theorem dX9_setOn_21 : decode cX9_setOn 21 = .ok (.iload_n 1, 1) := by decide +kernel
theorem dX9_setOn_22 : decode cX9_setOn 22 = .ok (.iload_n 2, 1) := by decide +kernel
theorem dX9_setOn_23 : decode cX9_setOn 23 = .ok (.invokestatic 99, 3) := by decide +kernel
theorem dX9_setOn_26 : decode cX9_setOn 26 = .ok (.invokevirtual 350, 3) := by decide +kernel
theorem dX9_setOn_29 : decode cX9_setOn 29 = .ok (.invokevirtual 426, 3) := by decide +kernel
theorem dX9_setOn_32 : decode cX9_setOn 32 = .ok (.ireturn, 1) := by decide +kernel
theorem dX9_report_0 : decode cX9_report 0 = .ok (.aload_n 0, 1) := by decide +kernel
theorem dX9_report_1 : decode cX9_report 1 = .ok (.iconst 0, 1) := by decide +kernel
theorem dX9_report_2 : decode cX9_report 2 = .ok (.putfield 60, 3) := by decide +kernel
theorem dX9_report_5 : decode cX9_report 5 = .ok (.aload_n 0, 1) := by decide +kernel
theorem dX9_report_6 : decode cX9_report 6 = .ok (.iconst 0, 1) := by decide +kernel
theorem dX9_report_7 : decode cX9_report 7 = .ok (.putfield 432, 3) := by decide +kernel
theorem dX9_report_10 : decode cX9_report 10 = .ok (.iconst 0, 1) := by decide +kernel
theorem dX9_report_11 : decode cX9_report 11 = .ok (.istore_n 1, 1) := by decide +kernel
theorem dX9_report_12 : decode cX9_report 12 = .ok (.iload_n 1, 1) := by decide +kernel
theorem dX9_report_13 : decode cX9_report 13 = .ok (.aload_n 0, 1) := by decide +kernel
theorem dX9_report_14 : decode cX9_report 14 = .ok (.getfield 9, 3) := by decide +kernel
theorem dX9_report_17 : decode cX9_report 17 = .ok (.bipush 11, 2) := by decide +kernel
theorem dX9_report_19 : decode cX9_report 19 = .ok (.iaload, 1) := by decide +kernel
theorem dX9_report_20 : decode cX9_report 20 = .ok (.if_icmp .ge 14, 3) := by decide +kernel
theorem dX9_report_23 : decode cX9_report 23 = .ok (.aload_n 0, 1) := by decide +kernel
theorem dX9_report_24 : decode cX9_report 24 = .ok (.iload_n 1, 1) := by decide +kernel
theorem dX9_report_25 : decode cX9_report 25 = .ok (.invokevirtual 441, 3) := by decide +kernel
theorem dX9_report_28 : decode cX9_report 28 = .ok (.iinc 1 1, 3) := by decide +kernel
theorem dX9_report_31 : decode cX9_report 31 = .ok (.goto (-19), 3) := by decide +kernel
theorem dX9_report_34 : decode cX9_report 34 = .ok (.aload_n 0, 1) := by decide +kernel
theorem dX9_report_35 : decode cX9_report 35 = .ok (.bipush 124, 2) := by decide +kernel
theorem dX9_report_37 : decode cX9_report 37 = .ok (.invokevirtual 435, 3) := by decide +kernel
theorem dX9_report_40 : decode cX9_report 40 = .ok (.iconst 0, 1) := by decide +kernel
theorem dX9_report_41 : decode cX9_report 41 = .ok (.istore_n 1, 1) := by decide +kernel
theorem dX9_report_42 : decode cX9_report 42 = .ok (.iload_n 1, 1) := by decide +kernel
theorem dX9_report_43 : decode cX9_report 43 = .ok (.aload_n 0, 1) := by decide +kernel
theorem dX9_report_44 : decode cX9_report 44 = .ok (.getfield 9, 3) := by decide +kernel
theorem dX9_report_47 : decode cX9_report 47 = .ok (.bipush 8, 2) := by decide +kernel
theorem dX9_report_49 : decode cX9_report 49 = .ok (.iaload, 1) := by decide +kernel
theorem dX9_report_50 : decode cX9_report 50 = .ok (.if_icmp .ge 35, 3) := by decide +kernel
theorem dX9_report_53 : decode cX9_report 53 = .ok (.aload_n 0, 1) := by decide +kernel
theorem dX9_report_54 : decode cX9_report 54 = .ok (.aload_n 0, 1) := by decide +kernel
theorem dX9_report_55 : decode cX9_report 55 = .ok (.iload_n 1, 1) := by decide +kernel
theorem dX9_report_56 : decode cX9_report 56 = .ok (.iconst 0, 1) := by decide +kernel
theorem dX9_report_57 : decode cX9_report 57 = .ok (.invokevirtual 159, 3) := by decide +kernel
theorem dX9_report_60 : decode cX9_report 60 = .ok (.invokevirtual 438, 3) := by decide +kernel
theorem dX9_report_63 : decode cX9_report 63 = .ok (.aload_n 0, 1) := by decide +kernel
theorem dX9_report_64 : decode cX9_report 64 = .ok (.iload_n 1, 1) := by decide +kernel
theorem dX9_report_65 : decode cX9_report 65 = .ok (.iconst 2, 1) := by decide +kernel
theorem dX9_report_66 : decode cX9_report 66 = .ok (.invokevirtual 159, 3) := by decide +kernel
theorem dX9_report_69 : decode cX9_report 69 = .ok (.iconst 1, 1) := by decide +kernel
theorem dX9_report_70 : decode cX9_report 70 = .ok (.if_icmp .ne 9, 3) := by decide +kernel
theorem dX9_report_73 : decode cX9_report 73 = .ok (.aload_n 0, 1) := by decide +kernel
theorem dX9_report_74 : decode cX9_report 74 = .ok (.bipush 42, 2) := by decide +kernel
theorem dX9_report_76 : decode cX9_report 76 = .ok (.invokevirtual 435, 3) := by decide +kernel
theorem dX9_report_79 : decode cX9_report 79 = .ok (.iinc 1 1, 3) := by decide +kernel
theorem dX9_report_82 : decode cX9_report 82 = .ok (.goto (-40), 3) := by decide +kernel
theorem dX9_report_85 : decode cX9_report 85 = .ok (.aload_n 0, 1) := by decide +kernel
theorem dX9_report_86 : decode cX9_report 86 = .ok (.getfield 432, 3) := by decide +kernel
theorem dX9_report_89 : decode cX9_report 89 = .ok (.ireturn, 1) := by decide +kernel
-- X9_named
set_option maxRecDepth 100000 in
set_option maxHeartbeats 4000000 in
theorem zm_X9_named {l : Launch} {G : zG} {M : zM} {Kf : Int32 → zM → Prop} (h : (zCalI l G Y_X9_noName 0 0 [vr 30 0] M (fun x2 M1 => ((¬ x2 = 0 → (Kf 0 M1)) ∧ (x2 = 0 → (zCalI l G Y_X9_found 0 0 [vr 30 0] M1 (fun x4 M3 => ((¬ x4 = (-1) → zAt l G Y_X9_named (zEI G Y_X9_named Kf) 21 [(0, vr 30 0)] [vi 0, vr 30 0] M3 0 0) ∧ (x4 = (-1) → zAt l G Y_X9_named (zEI G Y_X9_named Kf) 21 [(0, vr 30 0)] [vi 1, vr 30 0] M3 0 0))))))))) : zCalI l G Y_X9_named 0 0 [vr 30 0] M Kf := by
  refine zCal_of (lv := [(0, vr 30 0)]) (by decide) rfl (zle rfl) rfl (fun hv => zlv_args (lv := [(0, vr 30 0)]) rfl hv) ?_
  refine Z_aload_n dX9_named_0 rfl 0 rfl ?_
  refine Z_callVI (as := []) zRm_M zcv_X9_named_X9_noName_239 (ci := 13) rfl rfl rfl rfl (zle rfl) dX9_named_1 ⟨Nat.le_refl _, Nat.le_refl _⟩ h (fun x2 M1 h => ?_)
  refine Z_if_ne (tgt := 28) dX9_named_4 (by decide) (fun q => ?_) (fun q => ?_)
  · have h := h.1 q
    refine Z_iconst (v := 0) (by decide) dX9_named_28 ?_
    exact Z_iret rfl rfl dX9_named_29 (Nat.le_refl _) (Nat.le_refl _) ⟨_, rfl, h⟩
  · have h := h.2 q
    refine Z_aload_n dX9_named_7 rfl 0 rfl ?_
    refine Z_aload_n dX9_named_8 rfl 0 rfl ?_
    refine Z_callVI (as := []) zRm_M zcv_X9_named_X9_found_243 (ci := 13) rfl rfl rfl rfl (zle rfl) dX9_named_9 ⟨Nat.le_refl _, Nat.le_refl _⟩ h (fun x4 M3 h => ?_)
    refine Z_iconst (v := (-1)) (by decide) dX9_named_12 ?_
    refine Z_icmp_ne (tgt := 20) dX9_named_13 (by decide) (fun q => ?_) (fun q => ?_)
    · have h := h.1 q
      refine Z_iconst (v := 0) (by decide) dX9_named_20 ?_
      exact h
    · have h := h.2 q
      refine Z_iconst (v := 1) (by decide) dX9_named_16 ?_
      refine Z_goto (tgt := 21) dX9_named_17 (by decide) ?_
      exact h
set_option maxRecDepth 100000 in
set_option maxHeartbeats 4000000 in
theorem zb_X9_named_21 {l : Launch} {G : zG} {s0 : Int32} {M : zM} {Kf : Int32 → zM → Prop} (h : (zCalI l G Y_X9_wrong 0 0 [vr 30 0, vi s0, vi 4] M (fun x2 M1 => ((x2 = 0 → (zCalI l G Y_X9_found 0 0 [vr 30 0] M1 (fun x4 M3 => (zCalV l G Y_X9_advance 0 0 [vr 30 0] M3 (fun M5 => (Kf x4 M5)))))) ∧ (¬ x2 = 0 → (Kf 0 M1)))))) : zAt l G Y_X9_named (zEI G Y_X9_named Kf) 21 [(0, vr 30 0)] [vi s0, vr 30 0] M 0 0 := by
  refine Z_iconst (v := 4) (by decide) dX9_named_21 ?_
  refine Z_callVI (as := [vi s0, vi 4]) zRm_M zcv_X9_named_X9_wrong_229 (ci := 13) rfl rfl rfl rfl (zle rfl) dX9_named_22 ⟨Nat.le_refl _, Nat.le_refl _⟩ h (fun x2 M1 h => ?_)
  refine Z_if_eq (tgt := 30) dX9_named_25 (by decide) (fun q => ?_) (fun q => ?_)
  · have h := h.1 q
    refine Z_aload_n dX9_named_30 rfl 0 rfl ?_
    refine Z_callVI (as := []) zRm_M zcv_X9_named_X9_found_243 (ci := 13) rfl rfl rfl rfl (zle rfl) dX9_named_31 ⟨Nat.le_refl _, Nat.le_refl _⟩ h (fun x4 M3 h => ?_)
    refine Z_istore_n (lv2 := [(1, vi x4), (0, vr 30 0)]) dX9_named_34 rfl (by decide) rfl ?_
    refine Z_aload_n dX9_named_35 rfl 1 rfl ?_
    refine Z_callVV (as := []) zRm_M zcv_X9_named_X9_advance_233 (ci := 13) rfl rfl rfl rfl (zle rfl) dX9_named_36 ⟨Nat.le_refl _, Nat.le_refl _⟩ h (fun M5 h => ?_)
    refine Z_iload_n dX9_named_39 rfl 0 rfl ?_
    exact Z_iret rfl rfl dX9_named_40 (Nat.le_refl _) (Nat.le_refl _) ⟨_, rfl, h⟩
  · have h := h.2 q
    refine Z_iconst (v := 0) (by decide) dX9_named_28 ?_
    exact Z_iret rfl rfl dX9_named_29 (Nat.le_refl _) (Nat.le_refl _) ⟨_, rfl, h⟩
-- X9_next
set_option maxRecDepth 100000 in
set_option maxHeartbeats 4000000 in
theorem zm_X9_next {l : Launch} {G : zG} {M : zM} {Kf : Int32 → zM → Prop} (h : (zCalI l G Y_X9_moved 0 0 [vr 30 0, vi (zmI (zsI M 30 0 7 0) 31 0 9), vi (zmI (zsI M 30 0 7 0) 31 0 8)] (zsI M 30 0 7 0) (fun x4 M3 => (zCalI l G Y_X9_howOf 0 0 [vr 30 0, vi x4, vi (zmI M3 31 0 8)] M3 (fun x7 M6 => (Kf x7 M6)))))) : zCalI l G Y_X9_next 0 0 [vr 30 0] M Kf := by
  refine zCal_of (lv := [(0, vr 30 0)]) (by decide) rfl (zle rfl) rfl (fun hv => zlv_args (lv := [(0, vr 30 0)]) rfl hv) ?_
  refine Z_aload_n dX9_next_0 rfl 0 rfl ?_
  refine Z_iconst (v := 0) (by decide) dX9_next_1 ?_
  refine Z_putI zfp_X9_60 rfl rfl dX9_next_2 ?_
  refine Z_aload_n dX9_next_5 rfl 0 rfl ?_
  refine Z_aload_n dX9_next_6 rfl 0 rfl ?_
  refine Z_aload_n dX9_next_7 rfl 0 rfl ?_
  refine Z_getR (s1 := 31) (i1 := 0) zfl_X9_9 rfl (fun q => by first | exact q | decide) dX9_next_8 ?_
  refine Z_bipush (v := 9) (by decide) dX9_next_11 ?_
  refine Z_ialdK (n := 484) (j := 9) rfl (by decide) (zvin (by decide)) dX9_next_13 ?_
  refine Z_aload_n dX9_next_14 rfl 0 rfl ?_
  refine Z_getR (s1 := 31) (i1 := 0) zfl_X9_9 rfl (fun q => by first | exact q | decide) dX9_next_15 ?_
  refine Z_bipush (v := 8) (by decide) dX9_next_18 ?_
  refine Z_ialdK (n := 484) (j := 8) rfl (by decide) (zvin (by decide)) dX9_next_20 ?_
  refine Z_callVI (as := [vi (zmI (zsI M 30 0 7 0) 31 0 9), vi (zmI (zsI M 30 0 7 0) 31 0 8)]) zRm_M zcv_X9_next_X9_moved_106 (ci := 13) rfl rfl rfl rfl (zle rfl) dX9_next_21 ⟨Nat.le_refl _, Nat.le_refl _⟩ h (fun x4 M3 h => ?_)
  refine Z_aload_n dX9_next_24 rfl 0 rfl ?_
  refine Z_getR (s1 := 31) (i1 := 0) zfl_X9_9 rfl (fun q => by first | exact q | decide) dX9_next_25 ?_
  refine Z_bipush (v := 8) (by decide) dX9_next_28 ?_
  refine Z_ialdK (n := 484) (j := 8) rfl (by decide) (zvin (by decide)) dX9_next_30 ?_
  refine Z_callVI (as := [vi x4, vi (zmI M3 31 0 8)]) zRm_M zcv_X9_next_X9_howOf_109 (ci := 13) rfl rfl rfl rfl (zle rfl) dX9_next_31 ⟨Nat.le_refl _, Nat.le_refl _⟩ h (fun x7 M6 h => ?_)
  exact Z_iret rfl rfl dX9_next_34 (Nat.le_refl _) (Nat.le_refl _) ⟨_, rfl, h⟩
-- X9_number
set_option maxRecDepth 100000 in
set_option maxHeartbeats 4000000 in
theorem zm_X9_number {l : Launch} {G : zG} {p1 : Int32} {p2 : Int32} {M : zM} {Kf : Int32 → zM → Prop} (h : (((zmI M 30 0 13) = 2 → zAt l G Y_X9_number (zEI G Y_X9_number Kf) 14 [(0, vr 30 0), (1, vi p1), (2, vi p2)] [vi 0, vr 30 0] M 0 0) ∧ (¬ (zmI M 30 0 13) = 2 → zAt l G Y_X9_number (zEI G Y_X9_number Kf) 14 [(0, vr 30 0), (1, vi p1), (2, vi p2)] [vi 1, vr 30 0] M 0 0))) : zCalI l G Y_X9_number 0 0 [vr 30 0, vi p1, vi p2] M Kf := by
  refine zCal_of (lv := [(0, vr 30 0), (1, vi p1), (2, vi p2)]) (by decide) rfl (zle rfl) rfl (fun hv => zlv_args (lv := [(0, vr 30 0), (1, vi p1), (2, vi p2)]) rfl hv) ?_
  refine Z_aload_n dX9_number_0 rfl 0 rfl ?_
  refine Z_aload_n dX9_number_1 rfl 0 rfl ?_
  refine Z_getI zfl_X9_200 dX9_number_2 ?_
  refine Z_iconst (v := 2) (by decide) dX9_number_5 ?_
  refine Z_icmp_eq (tgt := 13) dX9_number_6 (by decide) (fun q => ?_) (fun q => ?_)
  · have h := h.1 q
    refine Z_iconst (v := 0) (by decide) dX9_number_13 ?_
    exact h
  · have h := h.2 q
    refine Z_iconst (v := 1) (by decide) dX9_number_9 ?_
    refine Z_goto (tgt := 14) dX9_number_10 (by decide) ?_
    exact h
set_option maxRecDepth 100000 in
set_option maxHeartbeats 4000000 in
theorem zb_X9_number_14 {l : Launch} {G : zG} {y1 : Int32} {y2 : Int32} {s0 : Int32} {M : zM} {Kf : Int32 → zM → Prop} (h : (zCalI l G Y_X9_wrong 0 0 [vr 30 0, vi s0, vi 1] M (fun x2 M1 => ((¬ x2 = 0 → (Kf y1 M1)) ∧ (x2 = 0 → (zCalI l G Y_X9_in 0 0 [vi (zmI M1 30 0 14), vi y1, vi y2] M1 (fun x4 M3 => ((¬ x4 = 0 → zAt l G Y_X9_number (zEI G Y_X9_number Kf) 39 [(0, vr 30 0), (1, vi y1)] [vi 0, vr 30 0] M3 0 0) ∧ (x4 = 0 → zAt l G Y_X9_number (zEI G Y_X9_number Kf) 39 [(0, vr 30 0), (1, vi y1)] [vi 1, vr 30 0] M3 0 0))))))))) : zAt l G Y_X9_number (zEI G Y_X9_number Kf) 14 [(0, vr 30 0), (1, vi y1), (2, vi y2)] [vi s0, vr 30 0] M 0 0 := by
  refine Z_iconst (v := 1) (by decide) dX9_number_14 ?_
  refine Z_callVI (as := [vi s0, vi 1]) zRm_M zcv_X9_number_X9_wrong_229 (ci := 13) rfl rfl rfl rfl (zle rfl) dX9_number_15 ⟨Nat.le_refl _, Nat.le_refl _⟩ h (fun x2 M1 h => ?_)
  refine Z_if_ne (tgt := 46) dX9_number_18 (by decide) (fun q => ?_) (fun q => ?_)
  · have h := h.1 q
    refine Z_iload_n dX9_number_46 rfl 1 rfl ?_
    exact Z_iret rfl rfl dX9_number_47 (Nat.le_refl _) (Nat.le_refl _) ⟨_, rfl, h⟩
  · have h := h.2 q
    refine Z_aload_n dX9_number_21 rfl 0 rfl ?_
    refine Z_aload_n dX9_number_22 rfl 0 rfl ?_
    refine Z_getI zfl_X9_197 dX9_number_23 ?_
    refine Z_iload_n dX9_number_26 rfl 1 rfl ?_
    refine Z_iload_n dX9_number_27 rfl 2 rfl ?_
    refine Z_callSI (as := [vi (zmI M1 30 0 14), vi y1, vi y2]) zRm_M zcs_X9_number_X9_in_63 rfl rfl (zle rfl) dX9_number_28 ⟨Nat.le_refl _, Nat.le_refl _⟩ h (fun x4 M3 h => ?_)
    refine Z_if_ne (tgt := 38) dX9_number_31 (by decide) (fun q => ?_) (fun q => ?_)
    · have h := h.1 q
      refine Z_iconst (v := 0) (by decide) dX9_number_38 ?_
      exact Z_pick [0, 1] rfl h
    · have h := h.2 q
      refine Z_iconst (v := 1) (by decide) dX9_number_34 ?_
      refine Z_goto (tgt := 39) dX9_number_35 (by decide) ?_
      exact Z_pick [0, 1] rfl h
set_option maxRecDepth 100000 in
set_option maxHeartbeats 4000000 in
theorem zb_X9_number_39 {l : Launch} {G : zG} {y1 : Int32} {s0 : Int32} {M : zM} {Kf : Int32 → zM → Prop} (h : (zCalI l G Y_X9_wrong 0 0 [vr 30 0, vi s0, vi 2] M (fun x2 M1 => ((x2 = 0 → (zCalV l G Y_X9_advance 0 0 [vr 30 0] M1 (fun M3 => (Kf (zmI M1 30 0 14) M3)))) ∧ (¬ x2 = 0 → (Kf y1 M1)))))) : zAt l G Y_X9_number (zEI G Y_X9_number Kf) 39 [(0, vr 30 0), (1, vi y1)] [vi s0, vr 30 0] M 0 0 := by
  refine Z_iconst (v := 2) (by decide) dX9_number_39 ?_
  refine Z_callVI (as := [vi s0, vi 2]) zRm_M zcv_X9_number_X9_wrong_229 (ci := 13) rfl rfl rfl rfl (zle rfl) dX9_number_40 ⟨Nat.le_refl _, Nat.le_refl _⟩ h (fun x2 M1 h => ?_)
  refine Z_if_eq (tgt := 48) dX9_number_43 (by decide) (fun q => ?_) (fun q => ?_)
  · have h := h.1 q
    refine Z_aload_n dX9_number_48 rfl 0 rfl ?_
    refine Z_getI zfl_X9_197 dX9_number_49 ?_
    refine Z_istore_n (lv2 := [(3, vi (zmI M1 30 0 14)), (0, vr 30 0), (1, vi y1)]) dX9_number_52 rfl (by decide) rfl ?_
    refine Z_aload_n dX9_number_53 rfl 1 rfl ?_
    refine Z_callVV (as := []) zRm_M zcv_X9_number_X9_advance_233 (ci := 13) rfl rfl rfl rfl (zle rfl) dX9_number_54 ⟨Nat.le_refl _, Nat.le_refl _⟩ h (fun M3 h => ?_)
    refine Z_iload_n dX9_number_57 rfl 0 rfl ?_
    exact Z_iret rfl rfl dX9_number_58 (Nat.le_refl _) (Nat.le_refl _) ⟨_, rfl, h⟩
  · have h := h.2 q
    refine Z_iload_n dX9_number_46 rfl 1 rfl ?_
    exact Z_iret rfl rfl dX9_number_47 (Nat.le_refl _) (Nat.le_refl _) ⟨_, rfl, h⟩
-- X9_once
set_option maxRecDepth 100000 in
set_option maxHeartbeats 4000000 in
theorem zm_X9_once {l : Launch} {G : zG} {p1 : Int32} {M : zM} {Kf : zM → Prop} (h : ((¬ (((zmI M 30 0 18) >>> (p1 &&& 31)) &&& 1) = 1 → zAt l G Y_X9_once (zEV G Y_X9_once Kf) 18 [(0, vr 30 0), (1, vi p1)] [vi 0, vr 30 0] M 0 0) ∧ ((((zmI M 30 0 18) >>> (p1 &&& 31)) &&& 1) = 1 → zAt l G Y_X9_once (zEV G Y_X9_once Kf) 18 [(0, vr 30 0), (1, vi p1)] [vi 1, vr 30 0] M 0 0))) : zCalV l G Y_X9_once 0 0 [vr 30 0, vi p1] M Kf := by
  refine zCal_of (lv := [(0, vr 30 0), (1, vi p1)]) (by decide) rfl (zle rfl) rfl (fun hv => zlv_args (lv := [(0, vr 30 0), (1, vi p1)]) rfl hv) ?_
  refine Z_aload_n dX9_once_0 rfl 0 rfl ?_
  refine Z_aload_n dX9_once_1 rfl 0 rfl ?_
  refine Z_getI zfl_X9_255 dX9_once_2 ?_
  refine Z_iload_n dX9_once_5 rfl 1 rfl ?_
  refine Z_ishr dX9_once_6 ?_
  refine Z_iconst (v := 1) (by decide) dX9_once_7 ?_
  refine Z_iand dX9_once_8 ?_
  refine Z_iconst (v := 1) (by decide) dX9_once_9 ?_
  refine Z_icmp_ne (tgt := 17) dX9_once_10 (by decide) (fun q => ?_) (fun q => ?_)
  · have h := h.1 q
    refine Z_iconst (v := 0) (by decide) dX9_once_17 ?_
    exact h
  · have h := h.2 q
    refine Z_iconst (v := 1) (by decide) dX9_once_13 ?_
    refine Z_goto (tgt := 18) dX9_once_14 (by decide) ?_
    exact h
set_option maxRecDepth 100000 in
set_option maxHeartbeats 4000000 in
theorem zb_X9_once_18 {l : Launch} {G : zG} {y1 : Int32} {s0 : Int32} {M : zM} {Kf : zM → Prop} (h : (zCalI l G Y_X9_wrong 0 0 [vr 30 0, vi s0, vi 3] M (fun x2 M1 => ((x2 = 0 → (zCalV l G Y_X9_advance 0 0 [vr 30 0] (zsI M1 30 0 18 ((zmI M1 30 0 18) ||| (1 <<< (y1 &&& 31)))) (fun M3 => (Kf M3)))) ∧ (¬ x2 = 0 → (Kf M1)))))) : zAt l G Y_X9_once (zEV G Y_X9_once Kf) 18 [(0, vr 30 0), (1, vi y1)] [vi s0, vr 30 0] M 0 0 := by
  refine Z_iconst (v := 3) (by decide) dX9_once_18 ?_
  refine Z_callVI (as := [vi s0, vi 3]) zRm_M zcv_X9_once_X9_wrong_229 (ci := 13) rfl rfl rfl rfl (zle rfl) dX9_once_19 ⟨Nat.le_refl _, Nat.le_refl _⟩ h (fun x2 M1 h => ?_)
  refine Z_if_eq (tgt := 26) dX9_once_22 (by decide) (fun q => ?_) (fun q => ?_)
  · have h := h.1 q
    refine Z_aload_n dX9_once_26 rfl 0 rfl ?_
    refine Z_dup rfl dX9_once_27 ?_
    refine Z_getI zfl_X9_255 dX9_once_28 ?_
    refine Z_iconst (v := 1) (by decide) dX9_once_31 ?_
    refine Z_iload_n dX9_once_32 rfl 1 rfl ?_
    refine Z_ishl dX9_once_33 ?_
    refine Z_ior dX9_once_34 ?_
    refine Z_putI zfp_X9_255 rfl rfl dX9_once_35 ?_
    refine Z_aload_n dX9_once_38 rfl 0 rfl ?_
    refine Z_callVV (as := []) zRm_M zcv_X9_once_X9_advance_233 (ci := 13) rfl rfl rfl rfl (zle rfl) dX9_once_39 ⟨Nat.le_refl _, Nat.le_refl _⟩ h (fun M3 h => ?_)
    exact Z_vret rfl dX9_once_42 (Nat.le_refl _) (Nat.le_refl _) ⟨rfl, h⟩
  · have h := h.2 q
    exact Z_vret rfl dX9_once_25 (Nat.le_refl _) (Nat.le_refl _) ⟨rfl, h⟩
-- X9_report
set_option maxRecDepth 100000 in
set_option maxHeartbeats 4000000 in
theorem zm_X9_report {l : Launch} {G : zG} {M : zM} {Kf : Int32 → zM → Prop} (h : zAt l G Y_X9_report (zEI G Y_X9_report Kf) 12 [(0, vr 30 0), (1, vi 0)] [] (zsI (zsI M 30 0 7 0) 30 0 29 0) 0 0) : zCalI l G Y_X9_report 0 0 [vr 30 0] M Kf := by
  refine zCal_of (lv := [(0, vr 30 0)]) (by decide) rfl (zle rfl) rfl (fun hv => zlv_args (lv := [(0, vr 30 0)]) rfl hv) ?_
  refine Z_aload_n dX9_report_0 rfl 0 rfl ?_
  refine Z_iconst (v := 0) (by decide) dX9_report_1 ?_
  refine Z_putI zfp_X9_60 rfl rfl dX9_report_2 ?_
  refine Z_aload_n dX9_report_5 rfl 0 rfl ?_
  refine Z_iconst (v := 0) (by decide) dX9_report_6 ?_
  refine Z_putI zfp_X9_432 rfl rfl dX9_report_7 ?_
  refine Z_iconst (v := 0) (by decide) dX9_report_10 ?_
  refine Z_istore_n (lv2 := [(1, vi 0), (0, vr 30 0)]) dX9_report_11 rfl (by decide) rfl ?_
  exact Z_pick [1, 0] rfl h
set_option maxRecDepth 100000 in
set_option maxHeartbeats 4000000 in
theorem zb_X9_report_12 {l : Launch} {G : zG} {y1 : Int32} {M : zM} {Kf : Int32 → zM → Prop} (h : (((zmI M 31 0 11) ≤ y1 → (zCalV l G Y_X9_writes 0 0 [vr 30 0, vi 124] M (fun M2 => zAt l G Y_X9_report (zEI G Y_X9_report Kf) 42 [(0, vr 30 0), (1, vi 0)] [] M2 0 0))) ∧ (¬ (zmI M 31 0 11) ≤ y1 → (zCalV l G Y_X9_writesFlow 0 0 [vr 30 0, vi y1] M (fun M3 => zAt l G Y_X9_report (zEI G Y_X9_report Kf) 12 [(0, vr 30 0), (1, vi (y1 + 1))] [] M3 0 0))))) : zAt l G Y_X9_report (zEI G Y_X9_report Kf) 12 [(0, vr 30 0), (1, vi y1)] [] M 0 0 := by
  refine Z_iload_n dX9_report_12 rfl 1 rfl ?_
  refine Z_aload_n dX9_report_13 rfl 0 rfl ?_
  refine Z_getR (s1 := 31) (i1 := 0) zfl_X9_9 rfl (fun q => by first | exact q | decide) dX9_report_14 ?_
  refine Z_bipush (v := 11) (by decide) dX9_report_17 ?_
  refine Z_ialdK (n := 484) (j := 11) rfl (by decide) (zvin (by decide)) dX9_report_19 ?_
  refine Z_icmp_ge (tgt := 34) dX9_report_20 (by decide) (fun q => ?_) (fun q => ?_)
  · have h := h.1 q
    refine Z_aload_n dX9_report_34 rfl 0 rfl ?_
    refine Z_bipush (v := 124) (by decide) dX9_report_35 ?_
    refine Z_callVV (as := [vi 124]) zRm_M zcv_X9_report_X9_writes_435 (ci := 13) rfl rfl rfl rfl (zle rfl) dX9_report_37 ⟨Nat.le_refl _, Nat.le_refl _⟩ h (fun M2 h => ?_)
    refine Z_iconst (v := 0) (by decide) dX9_report_40 ?_
    refine Z_istore_n (lv2 := [(1, vi 0), (0, vr 30 0)]) dX9_report_41 rfl (by decide) rfl ?_
    exact Z_pick [1, 0] rfl h
  · have h := h.2 q
    refine Z_aload_n dX9_report_23 rfl 0 rfl ?_
    refine Z_iload_n dX9_report_24 rfl 1 rfl ?_
    refine Z_callVV (as := [vi y1]) zRm_M zcv_X9_report_X9_writesFlow_441 (ci := 13) rfl rfl rfl rfl (zle rfl) dX9_report_25 ⟨Nat.le_refl _, Nat.le_refl _⟩ h (fun M3 h => ?_)
    refine Z_iinc (v := (y1 + 1)) (lv2 := [(1, vi (y1 + 1)), (0, vr 30 0)]) dX9_report_28 1 rfl rfl (by decide) rfl ?_
    refine Z_goto (tgt := 12) dX9_report_31 (by decide) ?_
    exact Z_pick [1, 0] rfl h
set_option maxRecDepth 100000 in
set_option maxHeartbeats 4000000 in
theorem zb_X9_report_42 {l : Launch} {G : zG} {y1 : Int32} {M : zM} {Kf : Int32 → zM → Prop} (h : (((zmI M 31 0 8) ≤ y1 → (Kf (zmI M 30 0 29) M)) ∧ (¬ (zmI M 31 0 8) ≤ y1 → (zCalI l G Y_X9_ofPacket 0 0 [vr 30 0, vi y1, vi 0] M (fun x3 M2 => (zCalV l G Y_X9_writesNumber 0 0 [vr 30 0, vi x3] M2 (fun M4 => (zCalI l G Y_X9_ofPacket 0 0 [vr 30 0, vi y1, vi 2] M4 (fun x6 M5 => ((¬ x6 = 1 → zAt l G Y_X9_report (zEI G Y_X9_report Kf) 79 [(0, vr 30 0), (1, vi y1)] [] M5 0 0) ∧ (x6 = 1 → (zCalV l G Y_X9_writes 0 0 [vr 30 0, vi 42] M5 (fun M7 => zAt l G Y_X9_report (zEI G Y_X9_report Kf) 79 [(0, vr 30 0), (1, vi y1)] [] M7 0 0))))))))))))) : zAt l G Y_X9_report (zEI G Y_X9_report Kf) 42 [(0, vr 30 0), (1, vi y1)] [] M 0 0 := by
  refine Z_iload_n dX9_report_42 rfl 1 rfl ?_
  refine Z_aload_n dX9_report_43 rfl 0 rfl ?_
  refine Z_getR (s1 := 31) (i1 := 0) zfl_X9_9 rfl (fun q => by first | exact q | decide) dX9_report_44 ?_
  refine Z_bipush (v := 8) (by decide) dX9_report_47 ?_
  refine Z_ialdK (n := 484) (j := 8) rfl (by decide) (zvin (by decide)) dX9_report_49 ?_
  refine Z_icmp_ge (tgt := 85) dX9_report_50 (by decide) (fun q => ?_) (fun q => ?_)
  · have h := h.1 q
    refine Z_aload_n dX9_report_85 rfl 0 rfl ?_
    refine Z_getI zfl_X9_432 dX9_report_86 ?_
    exact Z_iret rfl rfl dX9_report_89 (Nat.le_refl _) (Nat.le_refl _) ⟨_, rfl, h⟩
  · have h := h.2 q
    refine Z_aload_n dX9_report_53 rfl 0 rfl ?_
    refine Z_aload_n dX9_report_54 rfl 0 rfl ?_
    refine Z_iload_n dX9_report_55 rfl 1 rfl ?_
    refine Z_iconst (v := 0) (by decide) dX9_report_56 ?_
    refine Z_callVI (as := [vi y1, vi 0]) zRm_M zcv_X9_report_X9_ofPacket_159 (ci := 13) rfl rfl rfl rfl (zle rfl) dX9_report_57 ⟨Nat.le_refl _, Nat.le_refl _⟩ h (fun x3 M2 h => ?_)
    refine Z_callVV (as := [vi x3]) zRm_M zcv_X9_report_X9_writesNumber_438 (ci := 13) rfl rfl rfl rfl (zle rfl) dX9_report_60 ⟨Nat.le_refl _, Nat.le_refl _⟩ h (fun M4 h => ?_)
    refine Z_aload_n dX9_report_63 rfl 0 rfl ?_
    refine Z_iload_n dX9_report_64 rfl 1 rfl ?_
    refine Z_iconst (v := 2) (by decide) dX9_report_65 ?_
    refine Z_callVI (as := [vi y1, vi 2]) zRm_M zcv_X9_report_X9_ofPacket_159 (ci := 13) rfl rfl rfl rfl (zle rfl) dX9_report_66 ⟨Nat.le_refl _, Nat.le_refl _⟩ h (fun x6 M5 h => ?_)
    refine Z_iconst (v := 1) (by decide) dX9_report_69 ?_
    refine Z_icmp_ne (tgt := 79) dX9_report_70 (by decide) (fun q => ?_) (fun q => ?_)
    · have h := h.1 q
      exact h
    · have h := h.2 q
      refine Z_aload_n dX9_report_73 rfl 0 rfl ?_
      refine Z_bipush (v := 42) (by decide) dX9_report_74 ?_
      refine Z_callVV (as := [vi 42]) zRm_M zcv_X9_report_X9_writes_435 (ci := 13) rfl rfl rfl rfl (zle rfl) dX9_report_76 ⟨Nat.le_refl _, Nat.le_refl _⟩ h (fun M7 h => ?_)
      exact h
set_option maxRecDepth 100000 in
set_option maxHeartbeats 4000000 in
theorem zb_X9_report_79 {l : Launch} {G : zG} {y1 : Int32} {M : zM} {Kf : Int32 → zM → Prop} (h : zAt l G Y_X9_report (zEI G Y_X9_report Kf) 42 [(0, vr 30 0), (1, vi (y1 + 1))] [] M 0 0) : zAt l G Y_X9_report (zEI G Y_X9_report Kf) 79 [(0, vr 30 0), (1, vi y1)] [] M 0 0 := by
  refine Z_iinc (v := (y1 + 1)) (lv2 := [(1, vi (y1 + 1)), (0, vr 30 0)]) dX9_report_79 1 rfl rfl (by decide) rfl ?_
  refine Z_goto (tgt := 42) dX9_report_82 (by decide) ?_
  exact Z_pick [1, 0] rfl h
-- X9_setLimits
set_option maxRecDepth 100000 in
set_option maxHeartbeats 4000000 in
theorem zm_X9_setLimits {l : Launch} {G : zG} {p1 : Int32} {p2 : Int32} {M : zM} {Kf : Int32 → zM → Prop} (h : (zCalI l G Y_X9_in 0 0 [vi p1, vi 0, vi 39] (zsI M 30 0 7 0) (fun x2 M1 => ((x2 = 0 → zAt l G Y_X9_setLimits (zEI G Y_X9_setLimits Kf) 27 [(0, vr 30 0), (1, vi p1), (2, vi p2)] [vr 30 0] M1 0 0) ∧ (¬ x2 = 0 → ((p2 ≤ p1 → zAt l G Y_X9_setLimits (zEI G Y_X9_setLimits Kf) 27 [(0, vr 30 0), (1, vi p1), (2, vi p2)] [vr 30 0] M1 0 0) ∧ (¬ p2 ≤ p1 → ((p2 ≤ 40 → zAt l G Y_X9_setLimits (zEI G Y_X9_setLimits Kf) 32 [(0, vr 30 0), (1, vi p1), (2, vi p2)] [vi 0, vr 30 0] M1 0 0) ∧ (¬ p2 ≤ 40 → zAt l G Y_X9_setLimits (zEI G Y_X9_setLimits Kf) 27 [(0, vr 30 0), (1, vi p1), (2, vi p2)] [vr 30 0] M1 0 0))))))))) : zCalI l G Y_X9_setLimits 0 0 [vr 30 0, vi p1, vi p2] M Kf := by
  refine zCal_of (lv := [(0, vr 30 0), (1, vi p1), (2, vi p2)]) (by decide) rfl (zle rfl) rfl (fun hv => zlv_args (lv := [(0, vr 30 0), (1, vi p1), (2, vi p2)]) rfl hv) ?_
  refine Z_aload_n dX9_setLimits_0 rfl 0 rfl ?_
  refine Z_iconst (v := 0) (by decide) dX9_setLimits_1 ?_
  refine Z_putI zfp_X9_60 rfl rfl dX9_setLimits_2 ?_
  refine Z_aload_n dX9_setLimits_5 rfl 0 rfl ?_
  refine Z_iload_n dX9_setLimits_6 rfl 1 rfl ?_
  refine Z_iconst (v := 0) (by decide) dX9_setLimits_7 ?_
  refine Z_bipush (v := 39) (by decide) dX9_setLimits_8 ?_
  refine Z_callSI (as := [vi p1, vi 0, vi 39]) zRm_M zcs_X9_setLimits_X9_in_63 rfl rfl (zle rfl) dX9_setLimits_10 ⟨Nat.le_refl _, Nat.le_refl _⟩ h (fun x2 M1 h => ?_)
  refine Z_if_eq (tgt := 27) dX9_setLimits_13 (by decide) (fun q => ?_) (fun q => ?_)
  · have h := h.1 q
    exact h
  · have h := h.2 q
    refine Z_iload_n dX9_setLimits_16 rfl 2 rfl ?_
    refine Z_iload_n dX9_setLimits_17 rfl 1 rfl ?_
    refine Z_icmp_le (tgt := 27) dX9_setLimits_18 (by decide) (fun q => ?_) (fun q => ?_)
    · have h := h.1 q
      exact h
    · have h := h.2 q
      refine Z_iload_n dX9_setLimits_21 rfl 2 rfl ?_
      refine Z_bipush (v := 40) (by decide) dX9_setLimits_22 ?_
      refine Z_icmp_le (tgt := 31) dX9_setLimits_24 (by decide) (fun q => ?_) (fun q => ?_)
      · have h := h.1 q
        refine Z_iconst (v := 0) (by decide) dX9_setLimits_31 ?_
        exact h
      · have h := h.2 q
        exact h
set_option maxRecDepth 100000 in
set_option maxHeartbeats 4000000 in
theorem zb_X9_setLimits_27 {l : Launch} {G : zG} {y1 : Int32} {y2 : Int32} {M : zM} {Kf : Int32 → zM → Prop} (h : zAt l G Y_X9_setLimits (zEI G Y_X9_setLimits Kf) 32 [(0, vr 30 0), (1, vi y1), (2, vi y2)] [vi 1, vr 30 0] M 0 0) : zAt l G Y_X9_setLimits (zEI G Y_X9_setLimits Kf) 27 [(0, vr 30 0), (1, vi y1), (2, vi y2)] [vr 30 0] M 0 0 := by
  refine Z_iconst (v := 1) (by decide) dX9_setLimits_27 ?_
  refine Z_goto (tgt := 32) dX9_setLimits_28 (by decide) ?_
  exact h
set_option maxRecDepth 100000 in
set_option maxHeartbeats 4000000 in
theorem zb_X9_setLimits_32 {l : Launch} {G : zG} {y1 : Int32} {y2 : Int32} {s0 : Int32} {M : zM} {Kf : Int32 → zM → Prop} (h : (zCalI l G Y_X9_fails 0 0 [vr 30 0, vi s0, vi 1] M (fun x2 M1 => ((x2 = 0 → (zCalV l G Y_X9_starts 0 0 [vr 30 0] M1 (fun M3 => (zCalI l G Y_X9_limitsNow 0 0 [vr 30 0, vi y1, vi y2] M3 (fun x5 M4 => (zCalI l G Y_X9_recorded 0 0 [vr 30 0, vi x5] M4 (fun x7 M6 => (Kf x7 M6)))))))) ∧ (¬ x2 = 0 → (Kf 0 M1)))))) : zAt l G Y_X9_setLimits (zEI G Y_X9_setLimits Kf) 32 [(0, vr 30 0), (1, vi y1), (2, vi y2)] [vi s0, vr 30 0] M 0 0 := by
  refine Z_iconst (v := 1) (by decide) dX9_setLimits_32 ?_
  refine Z_callVI (as := [vi s0, vi 1]) zRm_M zcv_X9_setLimits_X9_fails_366 (ci := 13) rfl rfl rfl rfl (zle rfl) dX9_setLimits_33 ⟨Nat.le_refl _, Nat.le_refl _⟩ h (fun x2 M1 h => ?_)
  refine Z_if_eq (tgt := 41) dX9_setLimits_36 (by decide) (fun q => ?_) (fun q => ?_)
  · have h := h.1 q
    refine Z_aload_n dX9_setLimits_41 rfl 0 rfl ?_
    refine Z_callVV (as := []) zRm_M zcv_X9_setLimits_X9_starts_423 (ci := 13) rfl rfl rfl rfl (zle rfl) dX9_setLimits_42 ⟨Nat.le_refl _, Nat.le_refl _⟩ h (fun M3 h => ?_)
    refine Z_aload_n dX9_setLimits_45 rfl 0 rfl ?_
    refine Z_aload_n dX9_setLimits_46 rfl 0 rfl ?_
    refine Z_iload_n dX9_setLimits_47 rfl 1 rfl ?_
    refine Z_iload_n dX9_setLimits_48 rfl 2 rfl ?_
    refine Z_callVI (as := [vi y1, vi y2]) zRm_M zcv_X9_setLimits_X9_limitsNow_344 (ci := 13) rfl rfl rfl rfl (zle rfl) dX9_setLimits_49 ⟨Nat.le_refl _, Nat.le_refl _⟩ h (fun x5 M4 h => ?_)
    refine Z_callVI (as := [vi x5]) zRm_M zcv_X9_setLimits_X9_recorded_426 (ci := 13) rfl rfl rfl rfl (zle rfl) dX9_setLimits_52 ⟨Nat.le_refl _, Nat.le_refl _⟩ h (fun x7 M6 h => ?_)
    exact Z_iret rfl rfl dX9_setLimits_55 (Nat.le_refl _) (Nat.le_refl _) ⟨_, rfl, h⟩
  · have h := h.2 q
    refine Z_iconst (v := 0) (by decide) dX9_setLimits_39 ?_
    exact Z_iret rfl rfl dX9_setLimits_40 (Nat.le_refl _) (Nat.le_refl _) ⟨_, rfl, h⟩
-- X9_setOn
set_option maxRecDepth 100000 in
set_option maxHeartbeats 4000000 in
theorem zm_X9_setOn {l : Launch} {G : zG} {p1 : Int32} {p2 : Int32} {M : zM} {Kf : Int32 → zM → Prop} (h : (zCalI l G Y_X9_noFlow 0 0 [vr 30 0, vi p1] (zsI M 30 0 7 0) (fun x2 M1 => ((x2 = 0 → (zCalV l G Y_X9_starts 0 0 [vr 30 0] M1 (fun M3 => (zCalI l G Y_X9_one 0 0 [vi p2] M3 (fun x5 M4 => (zCalI l G Y_X9_turnNow 0 0 [vr 30 0, vi p1, vi x5] M4 (fun x7 M6 => (zCalI l G Y_X9_recorded 0 0 [vr 30 0, vi x7] M6 (fun x9 M8 => (Kf x9 M8)))))))))) ∧ (¬ x2 = 0 → (Kf 0 M1)))))) : zCalI l G Y_X9_setOn 0 0 [vr 30 0, vi p1, vi p2] M Kf := by
  refine zCal_of (lv := [(0, vr 30 0), (1, vi p1), (2, vi p2)]) (by decide) rfl (zle rfl) rfl (fun hv => zlv_args (lv := [(0, vr 30 0), (1, vi p1), (2, vi p2)]) rfl hv) ?_
  refine Z_aload_n dX9_setOn_0 rfl 0 rfl ?_
  refine Z_iconst (v := 0) (by decide) dX9_setOn_1 ?_
  refine Z_putI zfp_X9_60 rfl rfl dX9_setOn_2 ?_
  refine Z_aload_n dX9_setOn_5 rfl 0 rfl ?_
  refine Z_iload_n dX9_setOn_6 rfl 1 rfl ?_
  refine Z_callVI (as := [vi p1]) zRm_M zcv_X9_setOn_X9_noFlow_375 (ci := 13) rfl rfl rfl rfl (zle rfl) dX9_setOn_7 ⟨Nat.le_refl _, Nat.le_refl _⟩ h (fun x2 M1 h => ?_)
  refine Z_if_eq (tgt := 15) dX9_setOn_10 (by decide) (fun q => ?_) (fun q => ?_)
  · have h := h.1 q
    refine Z_aload_n dX9_setOn_15 rfl 0 rfl ?_
    refine Z_callVV (as := []) zRm_M zcv_X9_setOn_X9_starts_423 (ci := 13) rfl rfl rfl rfl (zle rfl) dX9_setOn_16 ⟨Nat.le_refl _, Nat.le_refl _⟩ h (fun M3 h => ?_)
    refine Z_aload_n dX9_setOn_19 rfl 0 rfl ?_
    refine Z_aload_n dX9_setOn_20 rfl 0 rfl ?_
    refine Z_iload_n dX9_setOn_21 rfl 1 rfl ?_
    refine Z_iload_n dX9_setOn_22 rfl 2 rfl ?_
    refine Z_callSI (as := [vi p2]) zRm_M zcs_X9_setOn_X9_one_99 rfl rfl (zle rfl) dX9_setOn_23 ⟨Nat.le_refl _, Nat.le_refl _⟩ h (fun x5 M4 h => ?_)
    refine Z_callVI (as := [vi p1, vi x5]) zRm_M zcv_X9_setOn_X9_turnNow_350 (ci := 13) rfl rfl rfl rfl (zle rfl) dX9_setOn_26 ⟨Nat.le_refl _, Nat.le_refl _⟩ h (fun x7 M6 h => ?_)
    refine Z_callVI (as := [vi x7]) zRm_M zcv_X9_setOn_X9_recorded_426 (ci := 13) rfl rfl rfl rfl (zle rfl) dX9_setOn_29 ⟨Nat.le_refl _, Nat.le_refl _⟩ h (fun x9 M8 h => ?_)
    exact Z_iret rfl rfl dX9_setOn_32 (Nat.le_refl _) (Nat.le_refl _) ⟨_, rfl, h⟩
  · have h := h.2 q
    refine Z_iconst (v := 0) (by decide) dX9_setOn_13 ?_
    exact Z_iret rfl rfl dX9_setOn_14 (Nat.le_refl _) (Nat.le_refl _) ⟨_, rfl, h⟩
-- X9_sets
set_option maxRecDepth 100000 in
set_option maxHeartbeats 4000000 in
theorem zm_X9_sets {l : Launch} {G : zG} {p1 : Int32} {p2 : Int32} {p3 : Int32} {M : zM} {Kf : Int32 → zM → Prop} (h : (zCalI l G Y_X9_in 0 0 [vi p2, vi 0, vi p3] (zsI M 30 0 7 0) (fun x2 M1 => ((¬ x2 = 0 → zAt l G Y_X9_sets (zEI G Y_X9_sets Kf) 20 [(0, vr 30 0), (1, vi p1), (2, vi p2)] [vi 0, vr 30 0] M1 0 0) ∧ (x2 = 0 → zAt l G Y_X9_sets (zEI G Y_X9_sets Kf) 20 [(0, vr 30 0), (1, vi p1), (2, vi p2)] [vi 1, vr 30 0] M1 0 0))))) : zCalI l G Y_X9_sets 0 0 [vr 30 0, vi p1, vi p2, vi p3] M Kf := by
  refine zCal_of (lv := [(0, vr 30 0), (1, vi p1), (2, vi p2), (3, vi p3)]) (by decide) rfl (zle rfl) rfl (fun hv => zlv_args (lv := [(0, vr 30 0), (1, vi p1), (2, vi p2), (3, vi p3)]) rfl hv) ?_
  refine Z_aload_n dX9_sets_0 rfl 0 rfl ?_
  refine Z_iconst (v := 0) (by decide) dX9_sets_1 ?_
  refine Z_putI zfp_X9_60 rfl rfl dX9_sets_2 ?_
  refine Z_aload_n dX9_sets_5 rfl 0 rfl ?_
  refine Z_iload_n dX9_sets_6 rfl 2 rfl ?_
  refine Z_iconst (v := 0) (by decide) dX9_sets_7 ?_
  refine Z_iload_n dX9_sets_8 rfl 3 rfl ?_
  refine Z_callSI (as := [vi p2, vi 0, vi p3]) zRm_M zcs_X9_sets_X9_in_63 rfl rfl (zle rfl) dX9_sets_9 ⟨Nat.le_refl _, Nat.le_refl _⟩ h (fun x2 M1 h => ?_)
  refine Z_if_ne (tgt := 19) dX9_sets_12 (by decide) (fun q => ?_) (fun q => ?_)
  · have h := h.1 q
    refine Z_iconst (v := 0) (by decide) dX9_sets_19 ?_
    exact Z_pick [0, 1, 2] rfl h
  · have h := h.2 q
    refine Z_iconst (v := 1) (by decide) dX9_sets_15 ?_
    refine Z_goto (tgt := 20) dX9_sets_16 (by decide) ?_
    exact Z_pick [0, 1, 2] rfl h
set_option maxRecDepth 100000 in
set_option maxHeartbeats 4000000 in
theorem zb_X9_sets_20 {l : Launch} {G : zG} {y1 : Int32} {y2 : Int32} {s0 : Int32} {M : zM} {Kf : Int32 → zM → Prop} (h : (zCalI l G Y_X9_fails 0 0 [vr 30 0, vi s0, vi 1] M (fun x2 M1 => ((x2 = 0 → (zCalV l G Y_X9_starts 0 0 [vr 30 0] M1 (fun M3 => (zCalI l G Y_X9_setNow 0 0 [vr 30 0, vi y1, vi y2] M3 (fun x5 M4 => (zCalI l G Y_X9_recorded 0 0 [vr 30 0, vi x5] M4 (fun x7 M6 => (Kf x7 M6)))))))) ∧ (¬ x2 = 0 → (Kf 0 M1)))))) : zAt l G Y_X9_sets (zEI G Y_X9_sets Kf) 20 [(0, vr 30 0), (1, vi y1), (2, vi y2)] [vi s0, vr 30 0] M 0 0 := by
  refine Z_iconst (v := 1) (by decide) dX9_sets_20 ?_
  refine Z_callVI (as := [vi s0, vi 1]) zRm_M zcv_X9_sets_X9_fails_366 (ci := 13) rfl rfl rfl rfl (zle rfl) dX9_sets_21 ⟨Nat.le_refl _, Nat.le_refl _⟩ h (fun x2 M1 h => ?_)
  refine Z_if_eq (tgt := 29) dX9_sets_24 (by decide) (fun q => ?_) (fun q => ?_)
  · have h := h.1 q
    refine Z_aload_n dX9_sets_29 rfl 0 rfl ?_
    refine Z_callVV (as := []) zRm_M zcv_X9_sets_X9_starts_423 (ci := 13) rfl rfl rfl rfl (zle rfl) dX9_sets_30 ⟨Nat.le_refl _, Nat.le_refl _⟩ h (fun M3 h => ?_)
    refine Z_aload_n dX9_sets_33 rfl 0 rfl ?_
    refine Z_aload_n dX9_sets_34 rfl 0 rfl ?_
    refine Z_iload_n dX9_sets_35 rfl 1 rfl ?_
    refine Z_iload_n dX9_sets_36 rfl 2 rfl ?_
    refine Z_callVI (as := [vi y1, vi y2]) zRm_M zcv_X9_sets_X9_setNow_347 (ci := 13) rfl rfl rfl rfl (zle rfl) dX9_sets_37 ⟨Nat.le_refl _, Nat.le_refl _⟩ h (fun x5 M4 h => ?_)
    refine Z_callVI (as := [vi x5]) zRm_M zcv_X9_sets_X9_recorded_426 (ci := 13) rfl rfl rfl rfl (zle rfl) dX9_sets_40 ⟨Nat.le_refl _, Nat.le_refl _⟩ h (fun x7 M6 h => ?_)
    exact Z_iret rfl rfl dX9_sets_43 (Nat.le_refl _) (Nat.le_refl _) ⟨_, rfl, h⟩
  · have h := h.2 q
    refine Z_iconst (v := 0) (by decide) dX9_sets_27 ?_
    exact Z_iret rfl rfl dX9_sets_28 (Nat.le_refl _) (Nat.le_refl _) ⟨_, rfl, h⟩
-- X9_takesSign
set_option maxRecDepth 100000 in
set_option maxHeartbeats 4000000 in
theorem zm_X9_takesSign {l : Launch} {G : zG} {p1 : Int32} {M : zM} {Kf : zM → Prop} (h : (zCalI l G Y_X9_isSign 0 0 [vr 30 0, vi p1] M (fun x2 M1 => ((¬ x2 = 0 → zAt l G Y_X9_takesSign (zEV G Y_X9_takesSign Kf) 14 [(0, vr 30 0)] [vi 0, vr 30 0] M1 0 0) ∧ (x2 = 0 → zAt l G Y_X9_takesSign (zEV G Y_X9_takesSign Kf) 14 [(0, vr 30 0)] [vi 1, vr 30 0] M1 0 0))))) : zCalV l G Y_X9_takesSign 0 0 [vr 30 0, vi p1] M Kf := by
  refine zCal_of (lv := [(0, vr 30 0), (1, vi p1)]) (by decide) rfl (zle rfl) rfl (fun hv => zlv_args (lv := [(0, vr 30 0), (1, vi p1)]) rfl hv) ?_
  refine Z_aload_n dX9_takesSign_0 rfl 0 rfl ?_
  refine Z_aload_n dX9_takesSign_1 rfl 0 rfl ?_
  refine Z_iload_n dX9_takesSign_2 rfl 1 rfl ?_
  refine Z_callVI (as := [vi p1]) zRm_M zcv_X9_takesSign_X9_isSign_226 (ci := 13) rfl rfl rfl rfl (zle rfl) dX9_takesSign_3 ⟨Nat.le_refl _, Nat.le_refl _⟩ h (fun x2 M1 h => ?_)
  refine Z_if_ne (tgt := 13) dX9_takesSign_6 (by decide) (fun q => ?_) (fun q => ?_)
  · have h := h.1 q
    refine Z_iconst (v := 0) (by decide) dX9_takesSign_13 ?_
    exact Z_pick [0] rfl h
  · have h := h.2 q
    refine Z_iconst (v := 1) (by decide) dX9_takesSign_9 ?_
    refine Z_goto (tgt := 14) dX9_takesSign_10 (by decide) ?_
    exact Z_pick [0] rfl h
set_option maxRecDepth 100000 in
set_option maxHeartbeats 4000000 in
theorem zb_X9_takesSign_14 {l : Launch} {G : zG} {s0 : Int32} {M : zM} {Kf : zM → Prop} (h : (zCalI l G Y_X9_wrong 0 0 [vr 30 0, vi s0, vi 1] M (fun x2 M1 => ((¬ x2 = 0 → (Kf M1)) ∧ (x2 = 0 → (zCalV l G Y_X9_advance 0 0 [vr 30 0] M1 (fun M3 => (Kf M3)))))))) : zAt l G Y_X9_takesSign (zEV G Y_X9_takesSign Kf) 14 [(0, vr 30 0)] [vi s0, vr 30 0] M 0 0 := by
  refine Z_iconst (v := 1) (by decide) dX9_takesSign_14 ?_
  refine Z_callVI (as := [vi s0, vi 1]) zRm_M zcv_X9_takesSign_X9_wrong_229 (ci := 13) rfl rfl rfl rfl (zle rfl) dX9_takesSign_15 ⟨Nat.le_refl _, Nat.le_refl _⟩ h (fun x2 M1 h => ?_)
  refine Z_if_ne (tgt := 25) dX9_takesSign_18 (by decide) (fun q => ?_) (fun q => ?_)
  · have h := h.1 q
    exact Z_vret rfl dX9_takesSign_25 (Nat.le_refl _) (Nat.le_refl _) ⟨rfl, h⟩
  · have h := h.2 q
    refine Z_aload_n dX9_takesSign_21 rfl 0 rfl ?_
    refine Z_callVV (as := []) zRm_M zcv_X9_takesSign_X9_advance_233 (ci := 13) rfl rfl rfl rfl (zle rfl) dX9_takesSign_22 ⟨Nat.le_refl _, Nat.le_refl _⟩ h (fun M3 h => ?_)
    exact Z_vret rfl dX9_takesSign_25 (Nat.le_refl _) (Nat.le_refl _) ⟨rfl, h⟩
-- X9_closes
set_option maxRecDepth 100000 in
set_option maxHeartbeats 4000000 in
theorem zm_X9_closes {l : Launch} {G : zG} {M : zM} {Kf : zM → Prop} (h : zAt l G Y_X9_closes (zEV G Y_X9_closes Kf) 0 [(0, vr 30 0)] [] M 0 0) : zCalV l G Y_X9_closes 0 0 [vr 30 0] M Kf := by
  refine zCal_of (lv := [(0, vr 30 0)]) (by decide) rfl (zle rfl) rfl (fun hv => zlv_args (lv := [(0, vr 30 0)]) rfl hv) ?_
  exact h
set_option maxRecDepth 100000 in
set_option maxHeartbeats 4000000 in
theorem zb_X9_closes_0 {l : Launch} {G : zG}  {M : zM} {Kf : zM → Prop} (h : (((zmI M 30 0 27) ≤ 0 → (Kf M)) ∧ (¬ (zmI M 30 0 27) ≤ 0 → (zCalI l G Y_X9_isSign 0 0 [vr 30 0, vi 41] M (fun x2 M1 => ((x2 = 0 → (Kf M1)) ∧ (¬ x2 = 0 → (vp_in (zmI (zsI M1 30 0 27 ((zmI M1 30 0 27) - 1)) 30 0 27) 2 ∧ (vp_in (zmI (zsI M1 30 0 27 ((zmI M1 30 0 27) - 1)) 42 0 (zmI (zsI M1 30 0 27 ((zmI M1 30 0 27) - 1)) 30 0 27).toNatClampNeg) 64 ∧ (vp_in (zmI (zsI (zsI M1 30 0 27 ((zmI M1 30 0 27) - 1)) 41 0 (zmI (zsI M1 30 0 27 ((zmI M1 30 0 27) - 1)) 42 0 (zmI (zsI M1 30 0 27 ((zmI M1 30 0 27) - 1)) 30 0 27).toNatClampNeg).toNatClampNeg (zmI (zsI M1 30 0 27 ((zmI M1 30 0 27) - 1)) 30 0 25)) 30 0 25) 64 ∧ (zCalV l G Y_X9_advance 0 0 [vr 30 0] (zsI (zsI (zsI (zsI M1 30 0 27 ((zmI M1 30 0 27) - 1)) 41 0 (zmI (zsI M1 30 0 27 ((zmI M1 30 0 27) - 1)) 42 0 (zmI (zsI M1 30 0 27 ((zmI M1 30 0 27) - 1)) 30 0 27).toNatClampNeg).toNatClampNeg (zmI (zsI M1 30 0 27 ((zmI M1 30 0 27) - 1)) 30 0 25)) 38 0 (zmI (zsI (zsI M1 30 0 27 ((zmI M1 30 0 27) - 1)) 41 0 (zmI (zsI M1 30 0 27 ((zmI M1 30 0 27) - 1)) 42 0 (zmI (zsI M1 30 0 27 ((zmI M1 30 0 27) - 1)) 30 0 27).toNatClampNeg).toNatClampNeg (zmI (zsI M1 30 0 27 ((zmI M1 30 0 27) - 1)) 30 0 25)) 30 0 25).toNatClampNeg 9) 30 0 25 ((zmI (zsI (zsI (zsI M1 30 0 27 ((zmI M1 30 0 27) - 1)) 41 0 (zmI (zsI M1 30 0 27 ((zmI M1 30 0 27) - 1)) 42 0 (zmI (zsI M1 30 0 27 ((zmI M1 30 0 27) - 1)) 30 0 27).toNatClampNeg).toNatClampNeg (zmI (zsI M1 30 0 27 ((zmI M1 30 0 27) - 1)) 30 0 25)) 38 0 (zmI (zsI (zsI M1 30 0 27 ((zmI M1 30 0 27) - 1)) 41 0 (zmI (zsI M1 30 0 27 ((zmI M1 30 0 27) - 1)) 42 0 (zmI (zsI M1 30 0 27 ((zmI M1 30 0 27) - 1)) 30 0 27).toNatClampNeg).toNatClampNeg (zmI (zsI M1 30 0 27 ((zmI M1 30 0 27) - 1)) 30 0 25)) 30 0 25).toNatClampNeg 9) 30 0 25) + 1)) (fun M6 => (zCalV l G Y_X9_takesSign 0 0 [vr 30 0, vi 59] M6 (fun M7 => zAt l G Y_X9_closes (zEV G Y_X9_closes Kf) 0 [(0, vr 30 0)] [] M7 0 0)))))))))))))) : zAt l G Y_X9_closes (zEV G Y_X9_closes Kf) 0 [(0, vr 30 0)] [] M 0 0 := by
  refine Z_aload_n dX9_closes_0 rfl 0 rfl ?_
  refine Z_getI zfl_X9_332 dX9_closes_1 ?_
  refine Z_if_le (tgt := 78) dX9_closes_4 (by decide) (fun q => ?_) (fun q => ?_)
  · have h := h.1 q
    exact Z_vret rfl dX9_closes_78 (Nat.le_refl _) (Nat.le_refl _) ⟨rfl, h⟩
  · have h := h.2 q
    refine Z_aload_n dX9_closes_7 rfl 0 rfl ?_
    refine Z_bipush (v := 41) (by decide) dX9_closes_8 ?_
    refine Z_callVI (as := [vi 41]) zRm_M zcv_X9_closes_X9_isSign_226 (ci := 13) rfl rfl rfl rfl (zle rfl) dX9_closes_10 ⟨Nat.le_refl _, Nat.le_refl _⟩ h (fun x2 M1 h => ?_)
    refine Z_if_eq (tgt := 78) dX9_closes_13 (by decide) (fun q => ?_) (fun q => ?_)
    · have h := h.1 q
      exact Z_vret rfl dX9_closes_78 (Nat.le_refl _) (Nat.le_refl _) ⟨rfl, h⟩
    · have h := h.2 q
      refine Z_aload_n dX9_closes_16 rfl 0 rfl ?_
      refine Z_dup rfl dX9_closes_17 ?_
      refine Z_getI zfl_X9_332 dX9_closes_18 ?_
      refine Z_iconst (v := 1) (by decide) dX9_closes_21 ?_
      refine Z_isub dX9_closes_22 ?_
      refine Z_putI zfp_X9_332 rfl rfl dX9_closes_23 ?_
      refine Z_aload_n dX9_closes_26 rfl 0 rfl ?_
      refine Z_getR (s1 := 41) (i1 := 0) zfl_X9_45 rfl (fun q => by first | exact q | decide) dX9_closes_27 ?_
      refine Z_aload_n dX9_closes_30 rfl 0 rfl ?_
      refine Z_getR (s1 := 42) (i1 := 0) zfl_X9_48 rfl (fun q => by first | exact q | decide) dX9_closes_31 ?_
      refine Z_aload_n dX9_closes_34 rfl 0 rfl ?_
      refine Z_getI zfl_X9_332 dX9_closes_35 ?_
      obtain ⟨g3, h⟩ := h
      refine Z_iald (n := 2) rfl g3 dX9_closes_38 ?_
      refine Z_aload_n dX9_closes_39 rfl 0 rfl ?_
      refine Z_getI zfl_X9_320 dX9_closes_40 ?_
      obtain ⟨g4, h⟩ := h
      refine Z_iast (n := 64) rfl g4 dX9_closes_43 ?_
      refine Z_aload_n dX9_closes_44 rfl 0 rfl ?_
      refine Z_getR (s1 := 38) (i1 := 0) zfl_X9_36 rfl (fun q => by first | exact q | decide) dX9_closes_45 ?_
      refine Z_aload_n dX9_closes_48 rfl 0 rfl ?_
      refine Z_getI zfl_X9_320 dX9_closes_49 ?_
      refine Z_bipush (v := 9) (by decide) dX9_closes_52 ?_
      obtain ⟨g5, h⟩ := h
      refine Z_iast (n := 64) rfl g5 dX9_closes_54 ?_
      refine Z_aload_n dX9_closes_55 rfl 0 rfl ?_
      refine Z_dup rfl dX9_closes_56 ?_
      refine Z_getI zfl_X9_320 dX9_closes_57 ?_
      refine Z_iconst (v := 1) (by decide) dX9_closes_60 ?_
      refine Z_iadd dX9_closes_61 ?_
      refine Z_putI zfp_X9_320 rfl rfl dX9_closes_62 ?_
      refine Z_aload_n dX9_closes_65 rfl 0 rfl ?_
      refine Z_callVV (as := []) zRm_M zcv_X9_closes_X9_advance_233 (ci := 13) rfl rfl rfl rfl (zle rfl) dX9_closes_66 ⟨Nat.le_refl _, Nat.le_refl _⟩ h (fun M6 h => ?_)
      refine Z_aload_n dX9_closes_69 rfl 0 rfl ?_
      refine Z_bipush (v := 59) (by decide) dX9_closes_70 ?_
      refine Z_callVV (as := [vi 59]) zRm_M zcv_X9_closes_X9_takesSign_329 (ci := 13) rfl rfl rfl rfl (zle rfl) dX9_closes_72 ⟨Nat.le_refl _, Nat.le_refl _⟩ h (fun M7 h => ?_)
      refine Z_goto (tgt := 0) dX9_closes_75 (by decide) ?_
      exact h
-- X9_firstHere
set_option maxRecDepth 100000 in
set_option maxHeartbeats 4000000 in
theorem zm_X9_firstHere {l : Launch} {G : zG} {p1 : Int32} {M : zM} {Kf : Int32 → zM → Prop} (h : ((p1 = 0 → (zCalI l G Y_X9_number 0 0 [vr 30 0, vi 1, vi 50] M (fun x2 M1 => (Kf x2 M1)))) ∧ (p1 = 1 → zAt l G Y_X9_firstHere (zEI G Y_X9_firstHere Kf) 56 [(0, vr 30 0)] [] M 0 0) ∧ (p1 = 2 → (zCalI l G Y_X9_number 0 0 [vr 30 0, vi 0, vi 39] M (fun x4 M3 => (Kf x4 M3)))) ∧ (p1 = 3 → (zCalI l G Y_X9_number 0 0 [vr 30 0, vi 0, vi 65536] M (fun x6 M5 => (Kf x6 M5)))) ∧ (p1 = 4 → (zCalI l G Y_X9_number 0 0 [vr 30 0, vi 0, vi 10] M (fun x8 M7 => (Kf x8 M7)))) ∧ (p1 = 5 → (zCalI l G Y_X9_number 0 0 [vr 30 0, vi 0, vi 1] M (fun x10 M9 => (Kf x10 M9)))) ∧ (p1 = 6 → zAt l G Y_X9_firstHere (zEI G Y_X9_firstHere Kf) 56 [(0, vr 30 0)] [] M 0 0) ∧ (p1 = 7 → zAt l G Y_X9_firstHere (zEI G Y_X9_firstHere Kf) 56 [(0, vr 30 0)] [] M 0 0) ∧ (¬ p1 = 0 ∧ ¬ p1 = 1 ∧ ¬ p1 = 2 ∧ ¬ p1 = 3 ∧ ¬ p1 = 4 ∧ ¬ p1 = 5 ∧ ¬ p1 = 6 ∧ ¬ p1 = 7 → (zCalI l G Y_X9_number 0 0 [vr 30 0, vi 0, vi 20] M (fun x12 M11 => (Kf x12 M11)))))) : zCalI l G Y_X9_firstHere 0 0 [vr 30 0, vi p1] M Kf := by
  refine zCal_of (lv := [(0, vr 30 0), (1, vi p1)]) (by decide) rfl (zle rfl) rfl (fun hv => zlv_args (lv := [(0, vr 30 0), (1, vi p1)]) rfl hv) ?_
  refine Z_iload_n dX9_firstHere_0 rfl 1 rfl ?_
  by_cases qs0 : p1 = 0
  · have h := h.1 qs0
    refine Z_tabIn (x := p1) dX9_firstHere_1 (j := 0) (by rw [qs0]; decide) (off := 47) (tgt := 48) rfl (by decide) ?_
    refine Z_aload_n dX9_firstHere_48 rfl 0 rfl ?_
    refine Z_iconst (v := 1) (by decide) dX9_firstHere_49 ?_
    refine Z_bipush (v := 50) (by decide) dX9_firstHere_50 ?_
    refine Z_callVI (as := [vi 1, vi 50]) zRm_M zcv_X9_firstHere_X9_number_246 (ci := 13) rfl rfl rfl rfl (zle rfl) dX9_firstHere_52 ⟨Nat.le_refl _, Nat.le_refl _⟩ h (fun x2 M1 h => ?_)
    exact Z_iret rfl rfl dX9_firstHere_55 (Nat.le_refl _) (Nat.le_refl _) ⟨_, rfl, h⟩
  by_cases qs1 : p1 = 1
  · have h := h.2.1 qs1
    refine Z_tabIn (x := p1) dX9_firstHere_1 (j := 1) (by rw [qs1]; decide) (off := 55) (tgt := 56) rfl (by decide) ?_
    exact Z_pick [0] rfl h
  by_cases qs2 : p1 = 2
  · have h := h.2.2.1 qs2
    refine Z_tabIn (x := p1) dX9_firstHere_1 (j := 2) (by rw [qs2]; decide) (off := 60) (tgt := 61) rfl (by decide) ?_
    refine Z_aload_n dX9_firstHere_61 rfl 0 rfl ?_
    refine Z_iconst (v := 0) (by decide) dX9_firstHere_62 ?_
    refine Z_bipush (v := 39) (by decide) dX9_firstHere_63 ?_
    refine Z_callVI (as := [vi 0, vi 39]) zRm_M zcv_X9_firstHere_X9_number_246 (ci := 13) rfl rfl rfl rfl (zle rfl) dX9_firstHere_65 ⟨Nat.le_refl _, Nat.le_refl _⟩ h (fun x4 M3 h => ?_)
    exact Z_iret rfl rfl dX9_firstHere_68 (Nat.le_refl _) (Nat.le_refl _) ⟨_, rfl, h⟩
  by_cases qs3 : p1 = 3
  · have h := h.2.2.2.1 qs3
    refine Z_tabIn (x := p1) dX9_firstHere_1 (j := 3) (by rw [qs3]; decide) (off := 68) (tgt := 69) rfl (by decide) ?_
    refine Z_aload_n dX9_firstHere_69 rfl 0 rfl ?_
    refine Z_iconst (v := 0) (by decide) dX9_firstHere_70 ?_
    refine Z_ldc (v := 65536) zw_1775 dX9_firstHere_71 ?_
    refine Z_callVI (as := [vi 0, vi 65536]) zRm_M zcv_X9_firstHere_X9_number_246 (ci := 13) rfl rfl rfl rfl (zle rfl) dX9_firstHere_73 ⟨Nat.le_refl _, Nat.le_refl _⟩ h (fun x6 M5 h => ?_)
    exact Z_iret rfl rfl dX9_firstHere_76 (Nat.le_refl _) (Nat.le_refl _) ⟨_, rfl, h⟩
  by_cases qs4 : p1 = 4
  · have h := h.2.2.2.2.1 qs4
    refine Z_tabIn (x := p1) dX9_firstHere_1 (j := 4) (by rw [qs4]; decide) (off := 76) (tgt := 77) rfl (by decide) ?_
    refine Z_aload_n dX9_firstHere_77 rfl 0 rfl ?_
    refine Z_iconst (v := 0) (by decide) dX9_firstHere_78 ?_
    refine Z_bipush (v := 10) (by decide) dX9_firstHere_79 ?_
    refine Z_callVI (as := [vi 0, vi 10]) zRm_M zcv_X9_firstHere_X9_number_246 (ci := 13) rfl rfl rfl rfl (zle rfl) dX9_firstHere_81 ⟨Nat.le_refl _, Nat.le_refl _⟩ h (fun x8 M7 h => ?_)
    exact Z_iret rfl rfl dX9_firstHere_84 (Nat.le_refl _) (Nat.le_refl _) ⟨_, rfl, h⟩
  by_cases qs5 : p1 = 5
  · have h := h.2.2.2.2.2.1 qs5
    refine Z_tabIn (x := p1) dX9_firstHere_1 (j := 5) (by rw [qs5]; decide) (off := 84) (tgt := 85) rfl (by decide) ?_
    refine Z_aload_n dX9_firstHere_85 rfl 0 rfl ?_
    refine Z_iconst (v := 0) (by decide) dX9_firstHere_86 ?_
    refine Z_iconst (v := 1) (by decide) dX9_firstHere_87 ?_
    refine Z_callVI (as := [vi 0, vi 1]) zRm_M zcv_X9_firstHere_X9_number_246 (ci := 13) rfl rfl rfl rfl (zle rfl) dX9_firstHere_88 ⟨Nat.le_refl _, Nat.le_refl _⟩ h (fun x10 M9 h => ?_)
    exact Z_iret rfl rfl dX9_firstHere_91 (Nat.le_refl _) (Nat.le_refl _) ⟨_, rfl, h⟩
  by_cases qs6 : p1 = 6
  · have h := h.2.2.2.2.2.2.1 qs6
    refine Z_tabIn (x := p1) dX9_firstHere_1 (j := 6) (by rw [qs6]; decide) (off := 55) (tgt := 56) rfl (by decide) ?_
    exact Z_pick [0] rfl h
  by_cases qs7 : p1 = 7
  · have h := h.2.2.2.2.2.2.2.1 qs7
    refine Z_tabIn (x := p1) dX9_firstHere_1 (j := 7) (by rw [qs7]; decide) (off := 55) (tgt := 56) rfl (by decide) ?_
    exact Z_pick [0] rfl h
  have h := h.2.2.2.2.2.2.2.2 ⟨qs0, qs1, qs2, qs3, qs4, qs5, qs6, qs7⟩
  refine Z_tabOut (x := p1) dX9_firstHere_1 (zsw8 qs0 qs1 qs2 qs3 qs4 qs5 qs6 qs7) (tgt := 92) (by decide) ?_
  refine Z_aload_n dX9_firstHere_92 rfl 0 rfl ?_
  refine Z_iconst (v := 0) (by decide) dX9_firstHere_93 ?_
  refine Z_bipush (v := 20) (by decide) dX9_firstHere_94 ?_
  refine Z_callVI (as := [vi 0, vi 20]) zRm_M zcv_X9_firstHere_X9_number_246 (ci := 13) rfl rfl rfl rfl (zle rfl) dX9_firstHere_96 ⟨Nat.le_refl _, Nat.le_refl _⟩ h (fun x12 M11 h => ?_)
  exact Z_iret rfl rfl dX9_firstHere_99 (Nat.le_refl _) (Nat.le_refl _) ⟨_, rfl, h⟩
set_option maxRecDepth 100000 in
set_option maxHeartbeats 4000000 in
theorem zb_X9_firstHere_56 {l : Launch} {G : zG}  {M : zM} {Kf : Int32 → zM → Prop} (h : (zCalI l G Y_X9_named 0 0 [vr 30 0] M (fun x2 M1 => (Kf x2 M1)))) : zAt l G Y_X9_firstHere (zEI G Y_X9_firstHere Kf) 56 [(0, vr 30 0)] [] M 0 0 := by
  refine Z_aload_n dX9_firstHere_56 rfl 0 rfl ?_
  refine Z_callVI (as := []) zRm_M zcv_X9_firstHere_X9_named_311 (ci := 13) rfl rfl rfl rfl (zle rfl) dX9_firstHere_57 ⟨Nat.le_refl _, Nat.le_refl _⟩ h (fun x2 M1 h => ?_)
  exact Z_iret rfl rfl dX9_firstHere_60 (Nat.le_refl _) (Nat.le_refl _) ⟨_, rfl, h⟩
-- X9_limits
set_option maxRecDepth 100000 in
set_option maxHeartbeats 4000000 in
theorem zm_X9_limits {l : Launch} {G : zG} {M : zM} {Kf : zM → Prop} (h : (zCalV l G Y_X9_once 0 0 [vr 30 0, vi 0] M (fun M1 => (((zmI M1 30 0 15) = 0 → (zCalI l G Y_X9_number 0 0 [vr 30 0, vi 0, vi 39] M1 (fun x3 M2 => (zCalI l G Y_X9_number 0 0 [vr 30 0, vi ((zmI (zsI M2 31 0 2 x3) 31 0 2) + 1), vi 40] (zsI M2 31 0 2 x3) (fun x7 M6 => (Kf (zsI M6 31 0 3 x7))))))) ∧ (¬ (zmI M1 30 0 15) = 0 → (Kf M1)))))) : zCalV l G Y_X9_limits 0 0 [vr 30 0] M Kf := by
  refine zCal_of (lv := [(0, vr 30 0)]) (by decide) rfl (zle rfl) rfl (fun hv => zlv_args (lv := [(0, vr 30 0)]) rfl hv) ?_
  refine Z_aload_n dX9_limits_0 rfl 0 rfl ?_
  refine Z_iconst (v := 0) (by decide) dX9_limits_1 ?_
  refine Z_callVV (as := [vi 0]) zRm_M zcv_X9_limits_X9_once_258 (ci := 13) rfl rfl rfl rfl (zle rfl) dX9_limits_2 ⟨Nat.le_refl _, Nat.le_refl _⟩ h (fun M1 h => ?_)
  refine Z_aload_n dX9_limits_5 rfl 0 rfl ?_
  refine Z_getI zfl_X9_210 dX9_limits_6 ?_
  refine Z_if_eq (tgt := 13) dX9_limits_9 (by decide) (fun q => ?_) (fun q => ?_)
  · have h := h.1 q
    refine Z_aload_n dX9_limits_13 rfl 0 rfl ?_
    refine Z_getR (s1 := 31) (i1 := 0) zfl_X9_9 rfl (fun q => by first | exact q | decide) dX9_limits_14 ?_
    refine Z_iconst (v := 2) (by decide) dX9_limits_17 ?_
    refine Z_aload_n dX9_limits_18 rfl 0 rfl ?_
    refine Z_iconst (v := 0) (by decide) dX9_limits_19 ?_
    refine Z_bipush (v := 39) (by decide) dX9_limits_20 ?_
    refine Z_callVI (as := [vi 0, vi 39]) zRm_M zcv_X9_limits_X9_number_246 (ci := 13) rfl rfl rfl rfl (zle rfl) dX9_limits_22 ⟨Nat.le_refl _, Nat.le_refl _⟩ h (fun x3 M2 h => ?_)
    refine Z_iastK (n := 484) (j := 2) rfl (by decide) (zvin (by decide)) dX9_limits_25 ?_
    refine Z_aload_n dX9_limits_26 rfl 0 rfl ?_
    refine Z_getR (s1 := 31) (i1 := 0) zfl_X9_9 rfl (fun q => by first | exact q | decide) dX9_limits_27 ?_
    refine Z_iconst (v := 3) (by decide) dX9_limits_30 ?_
    refine Z_aload_n dX9_limits_31 rfl 0 rfl ?_
    refine Z_aload_n dX9_limits_32 rfl 0 rfl ?_
    refine Z_getR (s1 := 31) (i1 := 0) zfl_X9_9 rfl (fun q => by first | exact q | decide) dX9_limits_33 ?_
    refine Z_iconst (v := 2) (by decide) dX9_limits_36 ?_
    refine Z_ialdK (n := 484) (j := 2) rfl (by decide) (zvin (by decide)) dX9_limits_37 ?_
    refine Z_iconst (v := 1) (by decide) dX9_limits_38 ?_
    refine Z_iadd dX9_limits_39 ?_
    refine Z_bipush (v := 40) (by decide) dX9_limits_40 ?_
    refine Z_callVI (as := [vi ((zmI (zsI M2 31 0 2 x3) 31 0 2) + 1), vi 40]) zRm_M zcv_X9_limits_X9_number_246 (ci := 13) rfl rfl rfl rfl (zle rfl) dX9_limits_42 ⟨Nat.le_refl _, Nat.le_refl _⟩ h (fun x7 M6 h => ?_)
    refine Z_iastK (n := 484) (j := 3) rfl (by decide) (zvin (by decide)) dX9_limits_45 ?_
    exact Z_vret rfl dX9_limits_46 (Nat.le_refl _) (Nat.le_refl _) ⟨rfl, h⟩
  · have h := h.2 q
    exact Z_vret rfl dX9_limits_12 (Nat.le_refl _) (Nat.le_refl _) ⟨rfl, h⟩
-- X9_secondHere
set_option maxRecDepth 100000 in
set_option maxHeartbeats 4000000 in
theorem zm_X9_secondHere {l : Launch} {G : zG} {p1 : Int32} {p2 : Int32} {M : zM} {Kf : Int32 → zM → Prop} (h : ((¬ p1 = 1 → ((¬ p1 = 2 → (Kf 0 M)) ∧ (p1 = 2 → (zCalI l G Y_X9_number 0 0 [vr 30 0, vi (p2 + 1), vi 40] M (fun x2 M1 => (Kf x2 M1)))))) ∧ (p1 = 1 → (zCalI l G Y_X9_number 0 0 [vr 30 0, vi 1, vi 40] M (fun x4 M3 => (Kf x4 M3)))))) : zCalI l G Y_X9_secondHere 0 0 [vr 30 0, vi p1, vi p2] M Kf := by
  refine zCal_of (lv := [(0, vr 30 0), (1, vi p1), (2, vi p2)]) (by decide) rfl (zle rfl) rfl (fun hv => zlv_args (lv := [(0, vr 30 0), (1, vi p1), (2, vi p2)]) rfl hv) ?_
  refine Z_iload_n dX9_secondHere_0 rfl 1 rfl ?_
  refine Z_iconst (v := 1) (by decide) dX9_secondHere_1 ?_
  refine Z_icmp_ne (tgt := 13) dX9_secondHere_2 (by decide) (fun q => ?_) (fun q => ?_)
  · have h := h.1 q
    refine Z_iload_n dX9_secondHere_13 rfl 1 rfl ?_
    refine Z_iconst (v := 2) (by decide) dX9_secondHere_14 ?_
    refine Z_icmp_ne (tgt := 30) dX9_secondHere_15 (by decide) (fun q => ?_) (fun q => ?_)
    · have h := h.1 q
      refine Z_iconst (v := 0) (by decide) dX9_secondHere_30 ?_
      exact Z_iret rfl rfl dX9_secondHere_31 (Nat.le_refl _) (Nat.le_refl _) ⟨_, rfl, h⟩
    · have h := h.2 q
      refine Z_aload_n dX9_secondHere_18 rfl 0 rfl ?_
      refine Z_iload_n dX9_secondHere_19 rfl 2 rfl ?_
      refine Z_iconst (v := 1) (by decide) dX9_secondHere_20 ?_
      refine Z_iadd dX9_secondHere_21 ?_
      refine Z_bipush (v := 40) (by decide) dX9_secondHere_22 ?_
      refine Z_callVI (as := [vi (p2 + 1), vi 40]) zRm_M zcv_X9_secondHere_X9_number_246 (ci := 13) rfl rfl rfl rfl (zle rfl) dX9_secondHere_24 ⟨Nat.le_refl _, Nat.le_refl _⟩ h (fun x2 M1 h => ?_)
      refine Z_goto (tgt := 31) dX9_secondHere_27 (by decide) ?_
      exact Z_iret rfl rfl dX9_secondHere_31 (Nat.le_refl _) (Nat.le_refl _) ⟨_, rfl, h⟩
  · have h := h.2 q
    refine Z_aload_n dX9_secondHere_5 rfl 0 rfl ?_
    refine Z_iconst (v := 1) (by decide) dX9_secondHere_6 ?_
    refine Z_bipush (v := 40) (by decide) dX9_secondHere_7 ?_
    refine Z_callVI (as := [vi 1, vi 40]) zRm_M zcv_X9_secondHere_X9_number_246 (ci := 13) rfl rfl rfl rfl (zle rfl) dX9_secondHere_9 ⟨Nat.le_refl _, Nat.le_refl _⟩ h (fun x4 M3 h => ?_)
    exact Z_iret rfl rfl dX9_secondHere_12 (Nat.le_refl _) (Nat.le_refl _) ⟨_, rfl, h⟩
-- X9_setGentle
set_option maxRecDepth 100000 in
set_option maxHeartbeats 4000000 in
theorem zm_X9_setGentle {l : Launch} {G : zG} {p1 : Int32} {M : zM} {Kf : Int32 → zM → Prop} (h : (zCalI l G Y_X9_sets 0 0 [vr 30 0, vi 6, vi p1, vi 1] M (fun x2 M1 => (Kf x2 M1)))) : zCalI l G Y_X9_setGentle 0 0 [vr 30 0, vi p1] M Kf := by
  refine zCal_of (lv := [(0, vr 30 0), (1, vi p1)]) (by decide) rfl (zle rfl) rfl (fun hv => zlv_args (lv := [(0, vr 30 0), (1, vi p1)]) rfl hv) ?_
  refine Z_aload_n dX9_setGentle_0 rfl 0 rfl ?_
  refine Z_bipush (v := 6) (by decide) dX9_setGentle_1 ?_
  refine Z_iload_n dX9_setGentle_3 rfl 1 rfl ?_
  refine Z_iconst (v := 1) (by decide) dX9_setGentle_4 ?_
  refine Z_callVI (as := [vi 6, vi p1, vi 1]) zRm_M zcv_X9_setGentle_X9_sets_429 (ci := 13) rfl rfl rfl rfl (zle rfl) dX9_setGentle_5 ⟨Nat.le_refl _, Nat.le_refl _⟩ h (fun x2 M1 h => ?_)
  exact Z_iret rfl rfl dX9_setGentle_8 (Nat.le_refl _) (Nat.le_refl _) ⟨_, rfl, h⟩
-- X9_setTop
set_option maxRecDepth 100000 in
set_option maxHeartbeats 4000000 in
theorem zm_X9_setTop {l : Launch} {G : zG} {p1 : Int32} {M : zM} {Kf : Int32 → zM → Prop} (h : (zCalI l G Y_X9_sets 0 0 [vr 30 0, vi 4, vi p1, vi 65536] M (fun x2 M1 => (Kf x2 M1)))) : zCalI l G Y_X9_setTop 0 0 [vr 30 0, vi p1] M Kf := by
  refine zCal_of (lv := [(0, vr 30 0), (1, vi p1)]) (by decide) rfl (zle rfl) rfl (fun hv => zlv_args (lv := [(0, vr 30 0), (1, vi p1)]) rfl hv) ?_
  refine Z_aload_n dX9_setTop_0 rfl 0 rfl ?_
  refine Z_iconst (v := 4) (by decide) dX9_setTop_1 ?_
  refine Z_iload_n dX9_setTop_2 rfl 1 rfl ?_
  refine Z_ldc (v := 65536) zw_1775 dX9_setTop_3 ?_
  refine Z_callVI (as := [vi 4, vi p1, vi 65536]) zRm_M zcv_X9_setTop_X9_sets_429 (ci := 13) rfl rfl rfl rfl (zle rfl) dX9_setTop_5 ⟨Nat.le_refl _, Nat.le_refl _⟩ h (fun x2 M1 h => ?_)
  exact Z_iret rfl rfl dX9_setTop_8 (Nat.le_refl _) (Nat.le_refl _) ⟨_, rfl, h⟩
-- X9_setWeight
set_option maxRecDepth 100000 in
set_option maxHeartbeats 4000000 in
theorem zm_X9_setWeight {l : Launch} {G : zG} {p1 : Int32} {M : zM} {Kf : Int32 → zM → Prop} (h : (zCalI l G Y_X9_sets 0 0 [vr 30 0, vi 5, vi p1, vi 10] M (fun x2 M1 => (Kf x2 M1)))) : zCalI l G Y_X9_setWeight 0 0 [vr 30 0, vi p1] M Kf := by
  refine zCal_of (lv := [(0, vr 30 0), (1, vi p1)]) (by decide) rfl (zle rfl) rfl (fun hv => zlv_args (lv := [(0, vr 30 0), (1, vi p1)]) rfl hv) ?_
  refine Z_aload_n dX9_setWeight_0 rfl 0 rfl ?_
  refine Z_iconst (v := 5) (by decide) dX9_setWeight_1 ?_
  refine Z_iload_n dX9_setWeight_2 rfl 1 rfl ?_
  refine Z_bipush (v := 10) (by decide) dX9_setWeight_3 ?_
  refine Z_callVI (as := [vi 5, vi p1, vi 10]) zRm_M zcv_X9_setWeight_X9_sets_429 (ci := 13) rfl rfl rfl rfl (zle rfl) dX9_setWeight_5 ⟨Nat.le_refl _, Nat.le_refl _⟩ h (fun x2 M1 h => ?_)
  exact Z_iret rfl rfl dX9_setWeight_8 (Nat.le_refl _) (Nat.le_refl _) ⟨_, rfl, h⟩
-- X9_setting
set_option maxRecDepth 100000 in
set_option maxHeartbeats 4000000 in
theorem zm_X9_setting {l : Launch} {G : zG} {p1 : Int32} {p2 : Int32} {p3 : Int32} {M : zM} {Kf : zM → Prop} (h : (zCalV l G Y_X9_once 0 0 [vr 30 0, vi p1] M (fun M1 => ((¬ (zmI M1 30 0 15) = 0 → (Kf M1)) ∧ ((zmI M1 30 0 15) = 0 → (zCalI l G Y_X9_number 0 0 [vr 30 0, vi 0, vi p3] M1 (fun x3 M2 => (vp_in p2 484 ∧ (Kf (zsI M2 31 0 p2.toNatClampNeg x3)))))))))) : zCalV l G Y_X9_setting 0 0 [vr 30 0, vi p1, vi p2, vi p3] M Kf := by
  refine zCal_of (lv := [(0, vr 30 0), (1, vi p1), (2, vi p2), (3, vi p3)]) (by decide) rfl (zle rfl) rfl (fun hv => zlv_args (lv := [(0, vr 30 0), (1, vi p1), (2, vi p2), (3, vi p3)]) rfl hv) ?_
  refine Z_aload_n dX9_setting_0 rfl 0 rfl ?_
  refine Z_iload_n dX9_setting_1 rfl 1 rfl ?_
  refine Z_callVV (as := [vi p1]) zRm_M zcv_X9_setting_X9_once_258 (ci := 13) rfl rfl rfl rfl (zle rfl) dX9_setting_2 ⟨Nat.le_refl _, Nat.le_refl _⟩ h (fun M1 h => ?_)
  refine Z_aload_n dX9_setting_5 rfl 0 rfl ?_
  refine Z_getI zfl_X9_210 dX9_setting_6 ?_
  refine Z_if_ne (tgt := 24) dX9_setting_9 (by decide) (fun q => ?_) (fun q => ?_)
  · have h := h.1 q
    exact Z_vret rfl dX9_setting_24 (Nat.le_refl _) (Nat.le_refl _) ⟨rfl, h⟩
  · have h := h.2 q
    refine Z_aload_n dX9_setting_12 rfl 0 rfl ?_
    refine Z_getR (s1 := 31) (i1 := 0) zfl_X9_9 rfl (fun q => by first | exact q | decide) dX9_setting_13 ?_
    refine Z_iload_n dX9_setting_16 rfl 2 rfl ?_
    refine Z_aload_n dX9_setting_17 rfl 0 rfl ?_
    refine Z_iconst (v := 0) (by decide) dX9_setting_18 ?_
    refine Z_iload_n dX9_setting_19 rfl 3 rfl ?_
    refine Z_callVI (as := [vi 0, vi p3]) zRm_M zcv_X9_setting_X9_number_246 (ci := 13) rfl rfl rfl rfl (zle rfl) dX9_setting_20 ⟨Nat.le_refl _, Nat.le_refl _⟩ h (fun x3 M2 h => ?_)
    obtain ⟨g4, h⟩ := h
    refine Z_iast (n := 484) rfl g4 dX9_setting_23 ?_
    exact Z_vret rfl dX9_setting_24 (Nat.le_refl _) (Nat.le_refl _) ⟨rfl, h⟩
-- X9_isKey
set_option maxRecDepth 100000 in
set_option maxHeartbeats 4000000 in
theorem zm_X9_isKey {l : Launch} {G : zG} {p1 : Nat} {M : zM} {Kf : Int32 → zM → Prop} (h : ((¬ (zmI M 30 0 15) = 0 → (Kf 0 M)) ∧ ((zmI M 30 0 15) = 0 → ((¬ (zmI M 30 0 13) = 1 → (Kf 0 M)) ∧ ((zmI M 30 0 13) = 1 → (zCalI l G Y_X9_length 0 0 [vr 30 0] M (fun x2 M1 => (((∃ t, zmT M1 p1 = some t) ∧ zCalI l G Y_J0_length_8abf5 0 0 [va p1] M1 (fun x4 M3 => ((x2 = x4 → zAt l G Y_X9_isKey (zEI G Y_X9_isKey Kf) 30 [(0, vr 30 0), (1, va p1), (2, vi 0)] [] M3 0 0) ∧ (¬ x2 = x4 → (Kf 0 M3))))))))))))) : zCalI l G Y_X9_isKey 0 0 [vr 30 0, va p1] M Kf := by
  refine zCal_of (lv := [(0, vr 30 0), (1, va p1)]) (by decide) rfl (zle rfl) rfl (fun hv => zlv_args (lv := [(0, vr 30 0), (1, va p1)]) rfl hv) ?_
  refine Z_aload_n dX9_isKey_0 rfl 0 rfl ?_
  refine Z_getI zfl_X9_210 dX9_isKey_1 ?_
  refine Z_if_ne (tgt := 26) dX9_isKey_4 (by decide) (fun q => ?_) (fun q => ?_)
  · have h := h.1 q
    refine Z_iconst (v := 0) (by decide) dX9_isKey_26 ?_
    exact Z_iret rfl (by decide) dX9_isKey_27 (Nat.le_refl _) (Nat.le_refl _) ⟨_, rfl, h⟩
  · have h := h.2 q
    refine Z_aload_n dX9_isKey_7 rfl 0 rfl ?_
    refine Z_getI zfl_X9_200 dX9_isKey_8 ?_
    refine Z_iconst (v := 1) (by decide) dX9_isKey_11 ?_
    refine Z_icmp_ne (tgt := 26) dX9_isKey_12 (by decide) (fun q => ?_) (fun q => ?_)
    · have h := h.1 q
      refine Z_iconst (v := 0) (by decide) dX9_isKey_26 ?_
      exact Z_iret rfl (by decide) dX9_isKey_27 (Nat.le_refl _) (Nat.le_refl _) ⟨_, rfl, h⟩
    · have h := h.2 q
      refine Z_aload_n dX9_isKey_15 rfl 0 rfl ?_
      refine Z_callVI (as := []) zRm_M zcv_X9_isKey_X9_length_216 (ci := 13) rfl rfl rfl rfl (zle rfl) dX9_isKey_16 ⟨Nat.le_refl _, Nat.le_refl _⟩ h (fun x2 M1 h => ?_)
      refine Z_aloadA_n dX9_isKey_19 rfl 1 rfl ?_
      obtain ⟨g5, h⟩ := h
      refine Z_callTI (as := []) zRm_M zcv_X9_isKey_J0_length_8abf5_219 g5 rfl rfl (zle rfl) dX9_isKey_20 ⟨Nat.le_refl _, Nat.le_refl _⟩ h (fun x4 M3 h => ?_)
      refine Z_icmp_eq (tgt := 28) dX9_isKey_23 (by decide) (fun q => ?_) (fun q => ?_)
      · have h := h.1 q
        refine Z_iconst (v := 0) (by decide) dX9_isKey_28 ?_
        refine Z_istore_n (lv2 := [(2, vi 0), (0, vr 30 0), (1, va p1)]) dX9_isKey_29 rfl (by decide) rfl ?_
        exact Z_pick [1, 2, 0] rfl h
      · have h := h.2 q
        refine Z_iconst (v := 0) (by decide) dX9_isKey_26 ?_
        exact Z_iret rfl (by decide) dX9_isKey_27 (Nat.le_refl _) (Nat.le_refl _) ⟨_, rfl, h⟩
set_option maxRecDepth 100000 in
set_option maxHeartbeats 4000000 in
theorem zb_X9_isKey_30 {l : Launch} {G : zG} {y1 : Nat} {y2 : Int32} {M : zM} {Kf : Int32 → zM → Prop} (h : (zCalI l G Y_X9_length 0 0 [vr 30 0] M (fun x2 M1 => ((x2 ≤ y2 → (Kf 1 M1)) ∧ (¬ x2 ≤ y2 → (vp_in ((zmI M1 30 0 11) + y2) 500 ∧ (((∃ t, zmT M1 y1 = some t) ∧ zCalI l G Y_J0_charAt_5068e 0 0 [va y1, vi y2] M1 (fun x5 M4 => (((zmI M1 37 0 ((zmI M1 30 0 11) + y2).toNatClampNeg) = x5 → zAt l G Y_X9_isKey (zEI G Y_X9_isKey Kf) 30 [(0, vr 30 0), (1, va y1), (2, vi (y2 + 1))] [] M4 0 0) ∧ (¬ (zmI M1 37 0 ((zmI M1 30 0 11) + y2).toNatClampNeg) = x5 → (Kf 0 M4)))))))))))) : zAt l G Y_X9_isKey (zEI G Y_X9_isKey Kf) 30 [(0, vr 30 0), (1, va y1), (2, vi y2)] [] M 0 0 := by
  refine Z_iload_n dX9_isKey_30 rfl 2 rfl ?_
  refine Z_aload_n dX9_isKey_31 rfl 0 rfl ?_
  refine Z_callVI (as := []) zRm_M zcv_X9_isKey_X9_length_216 (ci := 13) rfl rfl rfl rfl (zle rfl) dX9_isKey_32 ⟨Nat.le_refl _, Nat.le_refl _⟩ h (fun x2 M1 h => ?_)
  refine Z_icmp_ge (tgt := 65) dX9_isKey_35 (by decide) (fun q => ?_) (fun q => ?_)
  · have h := h.1 q
    refine Z_iconst (v := 1) (by decide) dX9_isKey_65 ?_
    exact Z_iret rfl (by decide) dX9_isKey_66 (Nat.le_refl _) (Nat.le_refl _) ⟨_, rfl, h⟩
  · have h := h.2 q
    refine Z_aload_n dX9_isKey_38 rfl 0 rfl ?_
    refine Z_getR (s1 := 37) (i1 := 0) zfl_X9_29 rfl (fun q => by first | exact q | decide) dX9_isKey_39 ?_
    refine Z_aload_n dX9_isKey_42 rfl 0 rfl ?_
    refine Z_getI zfl_X9_194 dX9_isKey_43 ?_
    refine Z_iload_n dX9_isKey_46 rfl 2 rfl ?_
    refine Z_iadd dX9_isKey_47 ?_
    obtain ⟨g3, h⟩ := h
    refine Z_iald (n := 500) rfl g3 dX9_isKey_48 ?_
    refine Z_aloadA_n dX9_isKey_49 rfl 1 rfl ?_
    refine Z_iload_n dX9_isKey_50 rfl 2 rfl ?_
    obtain ⟨g6, h⟩ := h
    refine Z_callTI (as := [vi y2]) zRm_M zcv_X9_isKey_J0_charAt_5068e_222 g6 rfl rfl (zle rfl) dX9_isKey_51 ⟨Nat.le_refl _, Nat.le_refl _⟩ h (fun x5 M4 h => ?_)
    refine Z_icmp_eq (tgt := 59) dX9_isKey_54 (by decide) (fun q => ?_) (fun q => ?_)
    · have h := h.1 q
      refine Z_iinc (v := (y2 + 1)) (lv2 := [(2, vi (y2 + 1)), (0, vr 30 0), (1, va y1)]) dX9_isKey_59 2 rfl rfl (by decide) rfl ?_
      refine Z_goto (tgt := 30) dX9_isKey_62 (by decide) ?_
      exact Z_pick [1, 2, 0] rfl h
    · have h := h.2 q
      refine Z_iconst (v := 0) (by decide) dX9_isKey_57 ?_
      exact Z_iret rfl (by decide) dX9_isKey_58 (Nat.le_refl _) (Nat.le_refl _) ⟨_, rfl, h⟩
-- X9_newFlow
set_option maxRecDepth 100000 in
set_option maxHeartbeats 4000000 in
theorem zm_X9_newFlow {l : Launch} {G : zG} {M : zM} {Kf : zM → Prop} (h : ((¬ (zmI M 31 0 11) = 6 → zAt l G Y_X9_newFlow (zEV G Y_X9_newFlow Kf) 20 [(0, vr 30 0), (1, vi (zmI M 31 0 11))] [vi 0, vr 30 0] M 0 0) ∧ ((zmI M 31 0 11) = 6 → zAt l G Y_X9_newFlow (zEV G Y_X9_newFlow Kf) 20 [(0, vr 30 0), (1, vi (zmI M 31 0 11))] [vi 1, vr 30 0] M 0 0))) : zCalV l G Y_X9_newFlow 0 0 [vr 30 0] M Kf := by
  refine zCal_of (lv := [(0, vr 30 0)]) (by decide) rfl (zle rfl) rfl (fun hv => zlv_args (lv := [(0, vr 30 0)]) rfl hv) ?_
  refine Z_aload_n dX9_newFlow_0 rfl 0 rfl ?_
  refine Z_getR (s1 := 31) (i1 := 0) zfl_X9_9 rfl (fun q => by first | exact q | decide) dX9_newFlow_1 ?_
  refine Z_bipush (v := 11) (by decide) dX9_newFlow_4 ?_
  refine Z_ialdK (n := 484) (j := 11) rfl (by decide) (zvin (by decide)) dX9_newFlow_6 ?_
  refine Z_istore_n (lv2 := [(1, vi (zmI M 31 0 11)), (0, vr 30 0)]) dX9_newFlow_7 rfl (by decide) rfl ?_
  refine Z_aload_n dX9_newFlow_8 rfl 1 rfl ?_
  refine Z_iload_n dX9_newFlow_9 rfl 0 rfl ?_
  refine Z_bipush (v := 6) (by decide) dX9_newFlow_10 ?_
  refine Z_icmp_ne (tgt := 19) dX9_newFlow_12 (by decide) (fun q => ?_) (fun q => ?_)
  · have h := h.1 q
    refine Z_iconst (v := 0) (by decide) dX9_newFlow_19 ?_
    exact Z_pick [1, 0] rfl h
  · have h := h.2 q
    refine Z_iconst (v := 1) (by decide) dX9_newFlow_15 ?_
    refine Z_goto (tgt := 20) dX9_newFlow_16 (by decide) ?_
    exact Z_pick [1, 0] rfl h
set_option maxRecDepth 100000 in
set_option maxHeartbeats 4000000 in
theorem zb_X9_newFlow_20 {l : Launch} {G : zG} {y1 : Int32} {s0 : Int32} {M : zM} {Kf : zM → Prop} (h : (zCalI l G Y_X9_wrong 0 0 [vr 30 0, vi s0, vi 5] M (fun x2 M1 => ((x2 = 0 → (zCalV l G Y_X9_advance 0 0 [vr 30 0] M1 (fun M3 => (zCalI l G Y_X9_noName 0 0 [vr 30 0] M3 (fun x5 M4 => ((¬ x5 = 0 → (Kf M4)) ∧ (x5 = 0 → (zCalI l G Y_X9_found 0 0 [vr 30 0] M4 (fun x7 M6 => ((x7 = (-1) → zAt l G Y_X9_newFlow (zEV G Y_X9_newFlow Kf) 53 [(0, vr 30 0), (1, vi y1)] [vi 0, vr 30 0] M6 0 0) ∧ (¬ x7 = (-1) → zAt l G Y_X9_newFlow (zEV G Y_X9_newFlow Kf) 53 [(0, vr 30 0), (1, vi y1)] [vi 1, vr 30 0] M6 0 0))))))))))) ∧ (¬ x2 = 0 → (Kf M1)))))) : zAt l G Y_X9_newFlow (zEV G Y_X9_newFlow Kf) 20 [(0, vr 30 0), (1, vi y1)] [vi s0, vr 30 0] M 0 0 := by
  refine Z_iconst (v := 5) (by decide) dX9_newFlow_20 ?_
  refine Z_callVI (as := [vi s0, vi 5]) zRm_M zcv_X9_newFlow_X9_wrong_229 (ci := 13) rfl rfl rfl rfl (zle rfl) dX9_newFlow_21 ⟨Nat.le_refl _, Nat.le_refl _⟩ h (fun x2 M1 h => ?_)
  refine Z_if_eq (tgt := 28) dX9_newFlow_24 (by decide) (fun q => ?_) (fun q => ?_)
  · have h := h.1 q
    refine Z_aload_n dX9_newFlow_28 rfl 0 rfl ?_
    refine Z_callVV (as := []) zRm_M zcv_X9_newFlow_X9_advance_233 (ci := 13) rfl rfl rfl rfl (zle rfl) dX9_newFlow_29 ⟨Nat.le_refl _, Nat.le_refl _⟩ h (fun M3 h => ?_)
    refine Z_aload_n dX9_newFlow_32 rfl 0 rfl ?_
    refine Z_callVI (as := []) zRm_M zcv_X9_newFlow_X9_noName_239 (ci := 13) rfl rfl rfl rfl (zle rfl) dX9_newFlow_33 ⟨Nat.le_refl _, Nat.le_refl _⟩ h (fun x5 M4 h => ?_)
    refine Z_if_ne (tgt := 60) dX9_newFlow_36 (by decide) (fun q => ?_) (fun q => ?_)
    · have h := h.1 q
      exact Z_vret rfl dX9_newFlow_60 (Nat.le_refl _) (Nat.le_refl _) ⟨rfl, h⟩
    · have h := h.2 q
      refine Z_aload_n dX9_newFlow_39 rfl 0 rfl ?_
      refine Z_aload_n dX9_newFlow_40 rfl 0 rfl ?_
      refine Z_callVI (as := []) zRm_M zcv_X9_newFlow_X9_found_243 (ci := 13) rfl rfl rfl rfl (zle rfl) dX9_newFlow_41 ⟨Nat.le_refl _, Nat.le_refl _⟩ h (fun x7 M6 h => ?_)
      refine Z_iconst (v := (-1)) (by decide) dX9_newFlow_44 ?_
      refine Z_icmp_eq (tgt := 52) dX9_newFlow_45 (by decide) (fun q => ?_) (fun q => ?_)
      · have h := h.1 q
        refine Z_iconst (v := 0) (by decide) dX9_newFlow_52 ?_
        exact h
      · have h := h.2 q
        refine Z_iconst (v := 1) (by decide) dX9_newFlow_48 ?_
        refine Z_goto (tgt := 53) dX9_newFlow_49 (by decide) ?_
        exact h
  · have h := h.2 q
    exact Z_vret rfl dX9_newFlow_27 (Nat.le_refl _) (Nat.le_refl _) ⟨rfl, h⟩
set_option maxRecDepth 100000 in
set_option maxHeartbeats 4000000 in
theorem zb_X9_newFlow_53 {l : Launch} {G : zG} {y1 : Int32} {s0 : Int32} {M : zM} {Kf : zM → Prop} (h : (zCalI l G Y_X9_wrong 0 0 [vr 30 0, vi s0, vi 3] M (fun x2 M1 => ((x2 = 0 → (zCalI l G Y_X9_length 0 0 [vr 30 0] M1 (fun x4 M3 => (vp_in ((16 + (26 * y1)) + 9) 484 ∧ zAt l G Y_X9_newFlow (zEV G Y_X9_newFlow Kf) 84 [(0, vr 30 0), (2, vi (16 + (26 * y1))), (3, vi 0)] [] (zsI M3 31 0 ((16 + (26 * y1)) + 9).toNatClampNeg x4) 0 0)))) ∧ (¬ x2 = 0 → (Kf M1)))))) : zAt l G Y_X9_newFlow (zEV G Y_X9_newFlow Kf) 53 [(0, vr 30 0), (1, vi y1)] [vi s0, vr 30 0] M 0 0 := by
  refine Z_iconst (v := 3) (by decide) dX9_newFlow_53 ?_
  refine Z_callVI (as := [vi s0, vi 3]) zRm_M zcv_X9_newFlow_X9_wrong_229 (ci := 13) rfl rfl rfl rfl (zle rfl) dX9_newFlow_54 ⟨Nat.le_refl _, Nat.le_refl _⟩ h (fun x2 M1 h => ?_)
  refine Z_if_eq (tgt := 61) dX9_newFlow_57 (by decide) (fun q => ?_) (fun q => ?_)
  · have h := h.1 q
    refine Z_bipush (v := 16) (by decide) dX9_newFlow_61 ?_
    refine Z_bipush (v := 26) (by decide) dX9_newFlow_63 ?_
    refine Z_iload_n dX9_newFlow_65 rfl 1 rfl ?_
    refine Z_imul dX9_newFlow_66 ?_
    refine Z_iadd dX9_newFlow_67 ?_
    refine Z_istore_n (lv2 := [(2, vi (16 + (26 * y1))), (0, vr 30 0), (1, vi y1)]) dX9_newFlow_68 rfl (by decide) rfl ?_
    refine Z_aload_n dX9_newFlow_69 rfl 1 rfl ?_
    refine Z_getR (s1 := 31) (i1 := 0) zfl_X9_9 rfl (fun q => by first | exact q | decide) dX9_newFlow_70 ?_
    refine Z_iload_n dX9_newFlow_73 rfl 0 rfl ?_
    refine Z_bipush (v := 9) (by decide) dX9_newFlow_74 ?_
    refine Z_iadd dX9_newFlow_76 ?_
    refine Z_aload_n dX9_newFlow_77 rfl 1 rfl ?_
    refine Z_callVI (as := []) zRm_M zcv_X9_newFlow_X9_length_216 (ci := 13) rfl rfl rfl rfl (zle rfl) dX9_newFlow_78 ⟨Nat.le_refl _, Nat.le_refl _⟩ h (fun x4 M3 h => ?_)
    obtain ⟨g5, h⟩ := h
    refine Z_iast (n := 484) rfl g5 dX9_newFlow_81 ?_
    refine Z_iconst (v := 0) (by decide) dX9_newFlow_82 ?_
    refine Z_istore_n (lv2 := [(3, vi 0), (2, vi (16 + (26 * y1))), (0, vr 30 0), (1, vi y1)]) dX9_newFlow_83 rfl (by decide) rfl ?_
    exact Z_pick [2, 1, 0] rfl h
  · have h := h.2 q
    exact Z_vret rfl dX9_newFlow_60 (Nat.le_refl _) (Nat.le_refl _) ⟨rfl, h⟩
set_option maxRecDepth 100000 in
set_option maxHeartbeats 4000000 in
theorem zb_X9_newFlow_84 {l : Launch} {G : zG} {y2 : Int32} {y3 : Int32} {M : zM} {Kf : zM → Prop} (h : (zCalI l G Y_X9_length 0 0 [vr 30 0] M (fun x2 M1 => ((x2 ≤ y3 → (zCalV l G Y_X9_advance 0 0 [vr 30 0] M1 (fun M3 => (zCalI l G Y_X9_number 0 0 [vr 30 0, vi 1, vi 99] M3 (fun x5 M4 => (vp_in (y2 + 0) 484 ∧ (zCalI l G Y_X9_number 0 0 [vr 30 0, vi 1, vi 50] (zsI M4 31 0 (y2 + 0).toNatClampNeg x5) (fun x8 M7 => (vp_in (y2 + 1) 484 ∧ (zCalI l G Y_X9_number 0 0 [vr 30 0, vi 1, vi 9] (zsI M7 31 0 (y2 + 1).toNatClampNeg x8) (fun x11 M10 => (vp_in (y2 + 2) 484 ∧ (vp_in (y2 + 2) 484 ∧ (zCalI l G Y_X9_number 0 0 [vr 30 0, vi (zmI (zsI M10 31 0 (y2 + 2).toNatClampNeg x11) 31 0 (y2 + 2).toNatClampNeg), vi 9] (zsI M10 31 0 (y2 + 2).toNatClampNeg x11) (fun x15 M14 => (vp_in (y2 + 3) 484 ∧ (vp_in (y2 + 2) 484 ∧ (vp_in (y2 + 6) 484 ∧ (vp_in (y2 + 5) 484 ∧ (∀ a20 : Nat, zmT (zsI (zsI (zsI M14 31 0 (y2 + 3).toNatClampNeg x15) 31 0 (y2 + 6).toNatClampNeg (zmI (zsI M14 31 0 (y2 + 3).toNatClampNeg x15) 31 0 (y2 + 2).toNatClampNeg)) 31 0 (y2 + 5).toNatClampNeg 1) a20 = some [109, 97, 114, 107, 115] → (zCalI l G Y_X9_isKey 0 0 [vr 30 0, va a20] (zsI (zsI (zsI M14 31 0 (y2 + 3).toNatClampNeg x15) 31 0 (y2 + 6).toNatClampNeg (zmI (zsI M14 31 0 (y2 + 3).toNatClampNeg x15) 31 0 (y2 + 2).toNatClampNeg)) 31 0 (y2 + 5).toNatClampNeg 1) (fun x22 M21 => (zCalI l G Y_X9_one 0 0 [vi x22] M21 (fun x24 M23 => (vp_in (y2 + 4) 484 ∧ (∀ a26 : Nat, zmT (zsI M23 31 0 (y2 + 4).toNatClampNeg x24) a26 = some [109, 97, 114, 107, 115] → (zCalI l G Y_X9_isKey 0 0 [vr 30 0, va a26] (zsI M23 31 0 (y2 + 4).toNatClampNeg x24) (fun x28 M27 => ((x28 = 0 → (Kf (zsI M27 31 0 11 ((zmI M27 31 0 11) + 1)))) ∧ (¬ x28 = 0 → (zCalV l G Y_X9_advance 0 0 [vr 30 0] M27 (fun M31 => (Kf (zsI M31 31 0 11 ((zmI M31 31 0 11) + 1))))))))))))))))))))))))))))))))))) ∧ (¬ x2 ≤ y3 → (vp_in ((zmI M1 30 0 11) + y3) 500 ∧ (vp_in (((y2 + 9) + 1) + y3) 484 ∧ zAt l G Y_X9_newFlow (zEV G Y_X9_newFlow Kf) 84 [(0, vr 30 0), (2, vi y2), (3, vi (y3 + 1))] [] (zsI M1 31 0 (((y2 + 9) + 1) + y3).toNatClampNeg (zmI M1 37 0 ((zmI M1 30 0 11) + y3).toNatClampNeg)) 0 0))))))) : zAt l G Y_X9_newFlow (zEV G Y_X9_newFlow Kf) 84 [(0, vr 30 0), (2, vi y2), (3, vi y3)] [] M 0 0 := by
  refine Z_iload_n dX9_newFlow_84 rfl 2 rfl ?_
  refine Z_aload_n dX9_newFlow_85 rfl 0 rfl ?_
  refine Z_callVI (as := []) zRm_M zcv_X9_newFlow_X9_length_216 (ci := 13) rfl rfl rfl rfl (zle rfl) dX9_newFlow_86 ⟨Nat.le_refl _, Nat.le_refl _⟩ h (fun x2 M1 h => ?_)
  refine Z_icmp_ge (tgt := 122) dX9_newFlow_89 (by decide) (fun q => ?_) (fun q => ?_)
  · have h := h.1 q
    refine Z_aload_n dX9_newFlow_122 rfl 0 rfl ?_
    refine Z_callVV (as := []) zRm_M zcv_X9_newFlow_X9_advance_233 (ci := 13) rfl rfl rfl rfl (zle rfl) dX9_newFlow_123 ⟨Nat.le_refl _, Nat.le_refl _⟩ h (fun M3 h => ?_)
    refine Z_aload_n dX9_newFlow_126 rfl 0 rfl ?_
    refine Z_getR (s1 := 31) (i1 := 0) zfl_X9_9 rfl (fun q => by first | exact q | decide) dX9_newFlow_127 ?_
    refine Z_iload_n dX9_newFlow_130 rfl 1 rfl ?_
    refine Z_iconst (v := 0) (by decide) dX9_newFlow_131 ?_
    refine Z_iadd dX9_newFlow_132 ?_
    refine Z_aload_n dX9_newFlow_133 rfl 0 rfl ?_
    refine Z_iconst (v := 1) (by decide) dX9_newFlow_134 ?_
    refine Z_bipush (v := 99) (by decide) dX9_newFlow_135 ?_
    refine Z_callVI (as := [vi 1, vi 99]) zRm_M zcv_X9_newFlow_X9_number_246 (ci := 13) rfl rfl rfl rfl (zle rfl) dX9_newFlow_137 ⟨Nat.le_refl _, Nat.le_refl _⟩ h (fun x5 M4 h => ?_)
    obtain ⟨g6, h⟩ := h
    refine Z_iast (n := 484) rfl g6 dX9_newFlow_140 ?_
    refine Z_aload_n dX9_newFlow_141 rfl 0 rfl ?_
    refine Z_getR (s1 := 31) (i1 := 0) zfl_X9_9 rfl (fun q => by first | exact q | decide) dX9_newFlow_142 ?_
    refine Z_iload_n dX9_newFlow_145 rfl 1 rfl ?_
    refine Z_iconst (v := 1) (by decide) dX9_newFlow_146 ?_
    refine Z_iadd dX9_newFlow_147 ?_
    refine Z_aload_n dX9_newFlow_148 rfl 0 rfl ?_
    refine Z_iconst (v := 1) (by decide) dX9_newFlow_149 ?_
    refine Z_bipush (v := 50) (by decide) dX9_newFlow_150 ?_
    refine Z_callVI (as := [vi 1, vi 50]) zRm_M zcv_X9_newFlow_X9_number_246 (ci := 13) rfl rfl rfl rfl (zle rfl) dX9_newFlow_152 ⟨Nat.le_refl _, Nat.le_refl _⟩ h (fun x8 M7 h => ?_)
    obtain ⟨g9, h⟩ := h
    refine Z_iast (n := 484) rfl g9 dX9_newFlow_155 ?_
    refine Z_aload_n dX9_newFlow_156 rfl 0 rfl ?_
    refine Z_getR (s1 := 31) (i1 := 0) zfl_X9_9 rfl (fun q => by first | exact q | decide) dX9_newFlow_157 ?_
    refine Z_iload_n dX9_newFlow_160 rfl 1 rfl ?_
    refine Z_iconst (v := 2) (by decide) dX9_newFlow_161 ?_
    refine Z_iadd dX9_newFlow_162 ?_
    refine Z_aload_n dX9_newFlow_163 rfl 0 rfl ?_
    refine Z_iconst (v := 1) (by decide) dX9_newFlow_164 ?_
    refine Z_bipush (v := 9) (by decide) dX9_newFlow_165 ?_
    refine Z_callVI (as := [vi 1, vi 9]) zRm_M zcv_X9_newFlow_X9_number_246 (ci := 13) rfl rfl rfl rfl (zle rfl) dX9_newFlow_167 ⟨Nat.le_refl _, Nat.le_refl _⟩ h (fun x11 M10 h => ?_)
    obtain ⟨g12, h⟩ := h
    refine Z_iast (n := 484) rfl g12 dX9_newFlow_170 ?_
    refine Z_aload_n dX9_newFlow_171 rfl 0 rfl ?_
    refine Z_getR (s1 := 31) (i1 := 0) zfl_X9_9 rfl (fun q => by first | exact q | decide) dX9_newFlow_172 ?_
    refine Z_iload_n dX9_newFlow_175 rfl 1 rfl ?_
    refine Z_iconst (v := 3) (by decide) dX9_newFlow_176 ?_
    refine Z_iadd dX9_newFlow_177 ?_
    refine Z_aload_n dX9_newFlow_178 rfl 0 rfl ?_
    refine Z_aload_n dX9_newFlow_179 rfl 0 rfl ?_
    refine Z_getR (s1 := 31) (i1 := 0) zfl_X9_9 rfl (fun q => by first | exact q | decide) dX9_newFlow_180 ?_
    refine Z_iload_n dX9_newFlow_183 rfl 1 rfl ?_
    refine Z_iconst (v := 2) (by decide) dX9_newFlow_184 ?_
    refine Z_iadd dX9_newFlow_185 ?_
    obtain ⟨g13, h⟩ := h
    refine Z_iald (n := 484) rfl g13 dX9_newFlow_186 ?_
    refine Z_bipush (v := 9) (by decide) dX9_newFlow_187 ?_
    refine Z_callVI (as := [vi (zmI (zsI M10 31 0 (y2 + 2).toNatClampNeg x11) 31 0 (y2 + 2).toNatClampNeg), vi 9]) zRm_M zcv_X9_newFlow_X9_number_246 (ci := 13) rfl rfl rfl rfl (zle rfl) dX9_newFlow_189 ⟨Nat.le_refl _, Nat.le_refl _⟩ h (fun x15 M14 h => ?_)
    obtain ⟨g16, h⟩ := h
    refine Z_iast (n := 484) rfl g16 dX9_newFlow_192 ?_
    refine Z_aload_n dX9_newFlow_193 rfl 0 rfl ?_
    refine Z_getR (s1 := 31) (i1 := 0) zfl_X9_9 rfl (fun q => by first | exact q | decide) dX9_newFlow_194 ?_
    refine Z_iload_n dX9_newFlow_197 rfl 1 rfl ?_
    refine Z_bipush (v := 6) (by decide) dX9_newFlow_198 ?_
    refine Z_iadd dX9_newFlow_200 ?_
    refine Z_aload_n dX9_newFlow_201 rfl 0 rfl ?_
    refine Z_getR (s1 := 31) (i1 := 0) zfl_X9_9 rfl (fun q => by first | exact q | decide) dX9_newFlow_202 ?_
    refine Z_iload_n dX9_newFlow_205 rfl 1 rfl ?_
    refine Z_iconst (v := 2) (by decide) dX9_newFlow_206 ?_
    refine Z_iadd dX9_newFlow_207 ?_
    obtain ⟨g17, h⟩ := h
    refine Z_iald (n := 484) rfl g17 dX9_newFlow_208 ?_
    obtain ⟨g18, h⟩ := h
    refine Z_iast (n := 484) rfl g18 dX9_newFlow_209 ?_
    refine Z_aload_n dX9_newFlow_210 rfl 0 rfl ?_
    refine Z_getR (s1 := 31) (i1 := 0) zfl_X9_9 rfl (fun q => by first | exact q | decide) dX9_newFlow_211 ?_
    refine Z_iload_n dX9_newFlow_214 rfl 1 rfl ?_
    refine Z_iconst (v := 5) (by decide) dX9_newFlow_215 ?_
    refine Z_iadd dX9_newFlow_216 ?_
    refine Z_iconst (v := 1) (by decide) dX9_newFlow_217 ?_
    obtain ⟨g19, h⟩ := h
    refine Z_iast (n := 484) rfl g19 dX9_newFlow_218 ?_
    refine Z_aload_n dX9_newFlow_219 rfl 0 rfl ?_
    refine Z_getR (s1 := 31) (i1 := 0) zfl_X9_9 rfl (fun q => by first | exact q | decide) dX9_newFlow_220 ?_
    refine Z_iload_n dX9_newFlow_223 rfl 1 rfl ?_
    refine Z_iconst (v := 4) (by decide) dX9_newFlow_224 ?_
    refine Z_iadd dX9_newFlow_225 ?_
    refine Z_aload_n dX9_newFlow_226 rfl 0 rfl ?_
    refine Z_ldcS (tx := "marks") (zLits_at 28 rfl) dX9_newFlow_227 (fun a20 qa20 => ?_)
    have h := h a20 qa20
    refine Z_callVI (as := [va a20]) zRm_M zcv_X9_newFlow_X9_isKey_251 (ci := 13) rfl rfl rfl rfl (zle rfl) dX9_newFlow_229 ⟨Nat.le_refl _, Nat.le_refl _⟩ h (fun x22 M21 h => ?_)
    refine Z_callSI (as := [vi x22]) zRm_M zcs_X9_newFlow_X9_one_99 rfl rfl (zle rfl) dX9_newFlow_232 ⟨Nat.le_refl _, Nat.le_refl _⟩ h (fun x24 M23 h => ?_)
    obtain ⟨g25, h⟩ := h
    refine Z_iast (n := 484) rfl g25 dX9_newFlow_235 ?_
    refine Z_aload_n dX9_newFlow_236 rfl 0 rfl ?_
    refine Z_ldcS (tx := "marks") (zLits_at 28 rfl) dX9_newFlow_237 (fun a26 qa26 => ?_)
    have h := h a26 qa26
    refine Z_callVI (as := [va a26]) zRm_M zcv_X9_newFlow_X9_isKey_251 (ci := 13) rfl rfl rfl rfl (zle rfl) dX9_newFlow_239 ⟨Nat.le_refl _, Nat.le_refl _⟩ h (fun x28 M27 h => ?_)
    refine Z_if_eq (tgt := 249) dX9_newFlow_242 (by decide) (fun q => ?_) (fun q => ?_)
    · have h := h.1 q
      refine Z_aload_n dX9_newFlow_249 rfl 0 rfl ?_
      refine Z_getR (s1 := 31) (i1 := 0) zfl_X9_9 rfl (fun q => by first | exact q | decide) dX9_newFlow_250 ?_
      refine Z_bipush (v := 11) (by decide) dX9_newFlow_253 ?_
      refine Z_dup2 rfl rfl dX9_newFlow_255 ?_
      refine Z_ialdK (n := 484) (j := 11) rfl (by decide) (zvin (by decide)) dX9_newFlow_256 ?_
      refine Z_iconst (v := 1) (by decide) dX9_newFlow_257 ?_
      refine Z_iadd dX9_newFlow_258 ?_
      refine Z_iastK (n := 484) (j := 11) rfl (by decide) (zvin (by decide)) dX9_newFlow_259 ?_
      exact Z_vret rfl dX9_newFlow_260 (Nat.le_refl _) (Nat.le_refl _) ⟨rfl, h⟩
    · have h := h.2 q
      refine Z_aload_n dX9_newFlow_245 rfl 0 rfl ?_
      refine Z_callVV (as := []) zRm_M zcv_X9_newFlow_X9_advance_233 (ci := 13) rfl rfl rfl rfl (zle rfl) dX9_newFlow_246 ⟨Nat.le_refl _, Nat.le_refl _⟩ h (fun M31 h => ?_)
      refine Z_aload_n dX9_newFlow_249 rfl 0 rfl ?_
      refine Z_getR (s1 := 31) (i1 := 0) zfl_X9_9 rfl (fun q => by first | exact q | decide) dX9_newFlow_250 ?_
      refine Z_bipush (v := 11) (by decide) dX9_newFlow_253 ?_
      refine Z_dup2 rfl rfl dX9_newFlow_255 ?_
      refine Z_ialdK (n := 484) (j := 11) rfl (by decide) (zvin (by decide)) dX9_newFlow_256 ?_
      refine Z_iconst (v := 1) (by decide) dX9_newFlow_257 ?_
      refine Z_iadd dX9_newFlow_258 ?_
      refine Z_iastK (n := 484) (j := 11) rfl (by decide) (zvin (by decide)) dX9_newFlow_259 ?_
      exact Z_vret rfl dX9_newFlow_260 (Nat.le_refl _) (Nat.le_refl _) ⟨rfl, h⟩
  · have h := h.2 q
    refine Z_aload_n dX9_newFlow_92 rfl 0 rfl ?_
    refine Z_getR (s1 := 31) (i1 := 0) zfl_X9_9 rfl (fun q => by first | exact q | decide) dX9_newFlow_93 ?_
    refine Z_iload_n dX9_newFlow_96 rfl 1 rfl ?_
    refine Z_bipush (v := 9) (by decide) dX9_newFlow_97 ?_
    refine Z_iadd dX9_newFlow_99 ?_
    refine Z_iconst (v := 1) (by decide) dX9_newFlow_100 ?_
    refine Z_iadd dX9_newFlow_101 ?_
    refine Z_iload_n dX9_newFlow_102 rfl 2 rfl ?_
    refine Z_iadd dX9_newFlow_103 ?_
    refine Z_aload_n dX9_newFlow_104 rfl 0 rfl ?_
    refine Z_getR (s1 := 37) (i1 := 0) zfl_X9_29 rfl (fun q => by first | exact q | decide) dX9_newFlow_105 ?_
    refine Z_aload_n dX9_newFlow_108 rfl 0 rfl ?_
    refine Z_getI zfl_X9_194 dX9_newFlow_109 ?_
    refine Z_iload_n dX9_newFlow_112 rfl 2 rfl ?_
    refine Z_iadd dX9_newFlow_113 ?_
    obtain ⟨g34, h⟩ := h
    refine Z_iald (n := 500) rfl g34 dX9_newFlow_114 ?_
    obtain ⟨g35, h⟩ := h
    refine Z_iast (n := 484) rfl g35 dX9_newFlow_115 ?_
    refine Z_iinc (v := (y3 + 1)) (lv2 := [(3, vi (y3 + 1)), (0, vr 30 0), (2, vi y2)]) dX9_newFlow_116 2 rfl rfl (by decide) rfl ?_
    refine Z_goto (tgt := 84) dX9_newFlow_119 (by decide) ?_
    exact Z_pick [1, 2, 0] rfl h
-- X9_orderHere
set_option maxRecDepth 100000 in
set_option maxHeartbeats 4000000 in
theorem zm_X9_orderHere {l : Launch} {G : zG} {M : zM} {Kf : Int32 → zM → Prop} (h : (∀ a1 : Nat, zmT M a1 = some [116, 105, 99, 107] → (zCalI l G Y_X9_isKey 0 0 [vr 30 0, va a1] M (fun x3 M2 => ((x3 = 0 → (∀ a4 : Nat, zmT M2 a4 = some [115, 101, 110, 100] → (zCalI l G Y_X9_isKey 0 0 [vr 30 0, va a4] M2 (fun x6 M5 => ((x6 = 0 → (∀ a7 : Nat, zmT M5 a7 = some [108, 105, 109, 105, 116, 115] → (zCalI l G Y_X9_isKey 0 0 [vr 30 0, va a7] M5 (fun x9 M8 => ((x9 = 0 → (∀ a10 : Nat, zmT M8 a10 = some [116, 111, 112] → (zCalI l G Y_X9_isKey 0 0 [vr 30 0, va a10] M8 (fun x12 M11 => ((x12 = 0 → (∀ a13 : Nat, zmT M11 a13 = some [119, 101, 105, 103, 104, 116] → (zCalI l G Y_X9_isKey 0 0 [vr 30 0, va a13] M11 (fun x15 M14 => ((x15 = 0 → (∀ a16 : Nat, zmT M14 a16 = some [103, 101, 110, 116, 108, 101] → (zCalI l G Y_X9_isKey 0 0 [vr 30 0, va a16] M14 (fun x18 M17 => ((x18 = 0 → (∀ a19 : Nat, zmT M17 a19 = some [115, 116, 111, 112] → (zCalI l G Y_X9_isKey 0 0 [vr 30 0, va a19] M17 (fun x21 M20 => ((x21 = 0 → (∀ a22 : Nat, zmT M20 a22 = some [115, 116, 97, 114, 116] → (zCalI l G Y_X9_isKey 0 0 [vr 30 0, va a22] M20 (fun x24 M23 => ((x24 = 0 → (∀ a25 : Nat, zmT M23 a25 = some [97, 103, 97, 105, 110] → (zCalI l G Y_X9_isKey 0 0 [vr 30 0, va a25] M23 (fun x27 M26 => ((x27 = 0 → (Kf (-1) M26)) ∧ (¬ x27 = 0 → (Kf 8 M26))))))) ∧ (¬ x24 = 0 → (Kf 7 M23))))))) ∧ (¬ x21 = 0 → (Kf 6 M20))))))) ∧ (¬ x18 = 0 → (Kf 5 M17))))))) ∧ (¬ x15 = 0 → (Kf 4 M14))))))) ∧ (¬ x12 = 0 → (Kf 3 M11))))))) ∧ (¬ x9 = 0 → (Kf 2 M8))))))) ∧ (¬ x6 = 0 → (Kf 1 M5))))))) ∧ (¬ x3 = 0 → (Kf 0 M2))))))) : zCalI l G Y_X9_orderHere 0 0 [vr 30 0] M Kf := by
  refine zCal_of (lv := [(0, vr 30 0)]) (by decide) rfl (zle rfl) rfl (fun hv => zlv_args (lv := [(0, vr 30 0)]) rfl hv) ?_
  refine Z_aload_n dX9_orderHere_0 rfl 0 rfl ?_
  refine Z_ldcSW (tx := "tick") (zLits_at 29 rfl) dX9_orderHere_1 (fun a1 qa1 => ?_)
  have h := h a1 qa1
  refine Z_callVI (as := [va a1]) zRm_M zcv_X9_orderHere_X9_isKey_251 (ci := 13) rfl rfl rfl rfl (zle rfl) dX9_orderHere_4 ⟨Nat.le_refl _, Nat.le_refl _⟩ h (fun x3 M2 h => ?_)
  refine Z_if_eq (tgt := 12) dX9_orderHere_7 (by decide) (fun q => ?_) (fun q => ?_)
  · have h := h.1 q
    refine Z_aload_n dX9_orderHere_12 rfl 0 rfl ?_
    refine Z_ldcSW (tx := "send") (zLits_at 30 rfl) dX9_orderHere_13 (fun a4 qa4 => ?_)
    have h := h a4 qa4
    refine Z_callVI (as := [va a4]) zRm_M zcv_X9_orderHere_X9_isKey_251 (ci := 13) rfl rfl rfl rfl (zle rfl) dX9_orderHere_16 ⟨Nat.le_refl _, Nat.le_refl _⟩ h (fun x6 M5 h => ?_)
    refine Z_if_eq (tgt := 24) dX9_orderHere_19 (by decide) (fun q => ?_) (fun q => ?_)
    · have h := h.1 q
      refine Z_aload_n dX9_orderHere_24 rfl 0 rfl ?_
      refine Z_ldcSW (tx := "limits") (zLits_at 22 rfl) dX9_orderHere_25 (fun a7 qa7 => ?_)
      have h := h a7 qa7
      refine Z_callVI (as := [va a7]) zRm_M zcv_X9_orderHere_X9_isKey_251 (ci := 13) rfl rfl rfl rfl (zle rfl) dX9_orderHere_28 ⟨Nat.le_refl _, Nat.le_refl _⟩ h (fun x9 M8 h => ?_)
      refine Z_if_eq (tgt := 36) dX9_orderHere_31 (by decide) (fun q => ?_) (fun q => ?_)
      · have h := h.1 q
        refine Z_aload_n dX9_orderHere_36 rfl 0 rfl ?_
        refine Z_ldcSW (tx := "top") (zLits_at 23 rfl) dX9_orderHere_37 (fun a10 qa10 => ?_)
        have h := h a10 qa10
        refine Z_callVI (as := [va a10]) zRm_M zcv_X9_orderHere_X9_isKey_251 (ci := 13) rfl rfl rfl rfl (zle rfl) dX9_orderHere_40 ⟨Nat.le_refl _, Nat.le_refl _⟩ h (fun x12 M11 h => ?_)
        refine Z_if_eq (tgt := 48) dX9_orderHere_43 (by decide) (fun q => ?_) (fun q => ?_)
        · have h := h.1 q
          refine Z_aload_n dX9_orderHere_48 rfl 0 rfl ?_
          refine Z_ldcSW (tx := "weight") (zLits_at 24 rfl) dX9_orderHere_49 (fun a13 qa13 => ?_)
          have h := h a13 qa13
          refine Z_callVI (as := [va a13]) zRm_M zcv_X9_orderHere_X9_isKey_251 (ci := 13) rfl rfl rfl rfl (zle rfl) dX9_orderHere_52 ⟨Nat.le_refl _, Nat.le_refl _⟩ h (fun x15 M14 h => ?_)
          refine Z_if_eq (tgt := 60) dX9_orderHere_55 (by decide) (fun q => ?_) (fun q => ?_)
          · have h := h.1 q
            refine Z_aload_n dX9_orderHere_60 rfl 0 rfl ?_
            refine Z_ldcSW (tx := "gentle") (zLits_at 25 rfl) dX9_orderHere_61 (fun a16 qa16 => ?_)
            have h := h a16 qa16
            refine Z_callVI (as := [va a16]) zRm_M zcv_X9_orderHere_X9_isKey_251 (ci := 13) rfl rfl rfl rfl (zle rfl) dX9_orderHere_64 ⟨Nat.le_refl _, Nat.le_refl _⟩ h (fun x18 M17 h => ?_)
            refine Z_if_eq (tgt := 72) dX9_orderHere_67 (by decide) (fun q => ?_) (fun q => ?_)
            · have h := h.1 q
              refine Z_aload_n dX9_orderHere_72 rfl 0 rfl ?_
              refine Z_ldcSW (tx := "stop") (zLits_at 31 rfl) dX9_orderHere_73 (fun a19 qa19 => ?_)
              have h := h a19 qa19
              refine Z_callVI (as := [va a19]) zRm_M zcv_X9_orderHere_X9_isKey_251 (ci := 13) rfl rfl rfl rfl (zle rfl) dX9_orderHere_76 ⟨Nat.le_refl _, Nat.le_refl _⟩ h (fun x21 M20 h => ?_)
              refine Z_if_eq (tgt := 85) dX9_orderHere_79 (by decide) (fun q => ?_) (fun q => ?_)
              · have h := h.1 q
                refine Z_aload_n dX9_orderHere_85 rfl 0 rfl ?_
                refine Z_ldcSW (tx := "start") (zLits_at 32 rfl) dX9_orderHere_86 (fun a22 qa22 => ?_)
                have h := h a22 qa22
                refine Z_callVI (as := [va a22]) zRm_M zcv_X9_orderHere_X9_isKey_251 (ci := 13) rfl rfl rfl rfl (zle rfl) dX9_orderHere_89 ⟨Nat.le_refl _, Nat.le_refl _⟩ h (fun x24 M23 h => ?_)
                refine Z_if_eq (tgt := 98) dX9_orderHere_92 (by decide) (fun q => ?_) (fun q => ?_)
                · have h := h.1 q
                  refine Z_aload_n dX9_orderHere_98 rfl 0 rfl ?_
                  refine Z_ldcSW (tx := "again") (zLits_at 33 rfl) dX9_orderHere_99 (fun a25 qa25 => ?_)
                  have h := h a25 qa25
                  refine Z_callVI (as := [va a25]) zRm_M zcv_X9_orderHere_X9_isKey_251 (ci := 13) rfl rfl rfl rfl (zle rfl) dX9_orderHere_102 ⟨Nat.le_refl _, Nat.le_refl _⟩ h (fun x27 M26 h => ?_)
                  refine Z_if_eq (tgt := 113) dX9_orderHere_105 (by decide) (fun q => ?_) (fun q => ?_)
                  · have h := h.1 q
                    refine Z_iconst (v := (-1)) (by decide) dX9_orderHere_113 ?_
                    exact Z_iret rfl rfl dX9_orderHere_114 (Nat.le_refl _) (Nat.le_refl _) ⟨_, rfl, h⟩
                  · have h := h.2 q
                    refine Z_bipush (v := 8) (by decide) dX9_orderHere_108 ?_
                    refine Z_goto (tgt := 114) dX9_orderHere_110 (by decide) ?_
                    exact Z_iret rfl rfl dX9_orderHere_114 (Nat.le_refl _) (Nat.le_refl _) ⟨_, rfl, h⟩
                · have h := h.2 q
                  refine Z_bipush (v := 7) (by decide) dX9_orderHere_95 ?_
                  exact Z_iret rfl rfl dX9_orderHere_97 (Nat.le_refl _) (Nat.le_refl _) ⟨_, rfl, h⟩
              · have h := h.2 q
                refine Z_bipush (v := 6) (by decide) dX9_orderHere_82 ?_
                exact Z_iret rfl rfl dX9_orderHere_84 (Nat.le_refl _) (Nat.le_refl _) ⟨_, rfl, h⟩
            · have h := h.2 q
              refine Z_iconst (v := 5) (by decide) dX9_orderHere_70 ?_
              exact Z_iret rfl rfl dX9_orderHere_71 (Nat.le_refl _) (Nat.le_refl _) ⟨_, rfl, h⟩
          · have h := h.2 q
            refine Z_iconst (v := 4) (by decide) dX9_orderHere_58 ?_
            exact Z_iret rfl rfl dX9_orderHere_59 (Nat.le_refl _) (Nat.le_refl _) ⟨_, rfl, h⟩
        · have h := h.2 q
          refine Z_iconst (v := 3) (by decide) dX9_orderHere_46 ?_
          exact Z_iret rfl rfl dX9_orderHere_47 (Nat.le_refl _) (Nat.le_refl _) ⟨_, rfl, h⟩
      · have h := h.2 q
        refine Z_iconst (v := 2) (by decide) dX9_orderHere_34 ?_
        exact Z_iret rfl rfl dX9_orderHere_35 (Nat.le_refl _) (Nat.le_refl _) ⟨_, rfl, h⟩
    · have h := h.2 q
      refine Z_iconst (v := 1) (by decide) dX9_orderHere_22 ?_
      exact Z_iret rfl rfl dX9_orderHere_23 (Nat.le_refl _) (Nat.le_refl _) ⟨_, rfl, h⟩
  · have h := h.2 q
    refine Z_iconst (v := 0) (by decide) dX9_orderHere_10 ?_
    exact Z_iret rfl rfl dX9_orderHere_11 (Nat.le_refl _) (Nat.le_refl _) ⟨_, rfl, h⟩
-- X9_statement
set_option maxRecDepth 100000 in
set_option maxHeartbeats 4000000 in
theorem zm_X9_statement {l : Launch} {G : zG} {M : zM} {Kf : zM → Prop} (h : (∀ a1 : Nat, zmT M a1 = some [108, 105, 109, 105, 116, 115] → (zCalI l G Y_X9_isKey 0 0 [vr 30 0, va a1] M (fun x3 M2 => ((x3 = 0 → (∀ a4 : Nat, zmT M2 a4 = some [116, 111, 112] → (zCalI l G Y_X9_isKey 0 0 [vr 30 0, va a4] M2 (fun x6 M5 => ((x6 = 0 → (∀ a7 : Nat, zmT M5 a7 = some [119, 101, 105, 103, 104, 116] → (zCalI l G Y_X9_isKey 0 0 [vr 30 0, va a7] M5 (fun x9 M8 => ((x9 = 0 → (∀ a10 : Nat, zmT M8 a10 = some [103, 101, 110, 116, 108, 101] → (zCalI l G Y_X9_isKey 0 0 [vr 30 0, va a10] M8 (fun x12 M11 => ((x12 = 0 → (∀ a13 : Nat, zmT M11 a13 = some [115, 101, 101, 100] → (zCalI l G Y_X9_isKey 0 0 [vr 30 0, va a13] M11 (fun x15 M14 => ((x15 = 0 → (∀ a16 : Nat, zmT M14 a16 = some [102, 108, 111, 119] → (zCalI l G Y_X9_isKey 0 0 [vr 30 0, va a16] M14 (fun x18 M17 => ((x18 = 0 → (zCalI l G Y_X9_wrong 0 0 [vr 30 0, vi 1, vi 1] M17 (fun x20 M19 => (Kf M19)))) ∧ (¬ x18 = 0 → (zCalV l G Y_X9_newFlow 0 0 [vr 30 0] M17 (fun M21 => (Kf M21))))))))) ∧ (¬ x15 = 0 → (zCalV l G Y_X9_setting 0 0 [vr 30 0, vi 4, vi 13, vi 9999] M14 (fun M22 => (Kf M22))))))))) ∧ (¬ x12 = 0 → (zCalV l G Y_X9_setting 0 0 [vr 30 0, vi 3, vi 6, vi 1] M11 (fun M23 => (Kf M23))))))))) ∧ (¬ x9 = 0 → (zCalV l G Y_X9_setting 0 0 [vr 30 0, vi 2, vi 5, vi 10] M8 (fun M24 => (Kf M24))))))))) ∧ (¬ x6 = 0 → (zCalV l G Y_X9_setting 0 0 [vr 30 0, vi 1, vi 4, vi 65536] M5 (fun M25 => (Kf M25))))))))) ∧ (¬ x3 = 0 → (zCalV l G Y_X9_limits 0 0 [vr 30 0] M2 (fun M26 => (Kf M26))))))))) : zCalV l G Y_X9_statement 0 0 [vr 30 0] M Kf := by
  refine zCal_of (lv := [(0, vr 30 0)]) (by decide) rfl (zle rfl) rfl (fun hv => zlv_args (lv := [(0, vr 30 0)]) rfl hv) ?_
  refine Z_aload_n dX9_statement_0 rfl 0 rfl ?_
  refine Z_ldcSW (tx := "limits") (zLits_at 22 rfl) dX9_statement_1 (fun a1 qa1 => ?_)
  have h := h a1 qa1
  refine Z_callVI (as := [va a1]) zRm_M zcv_X9_statement_X9_isKey_251 (ci := 13) rfl rfl rfl rfl (zle rfl) dX9_statement_4 ⟨Nat.le_refl _, Nat.le_refl _⟩ h (fun x3 M2 h => ?_)
  refine Z_if_eq (tgt := 17) dX9_statement_7 (by decide) (fun q => ?_) (fun q => ?_)
  · have h := h.1 q
    refine Z_aload_n dX9_statement_17 rfl 0 rfl ?_
    refine Z_ldcSW (tx := "top") (zLits_at 23 rfl) dX9_statement_18 (fun a4 qa4 => ?_)
    have h := h a4 qa4
    refine Z_callVI (as := [va a4]) zRm_M zcv_X9_statement_X9_isKey_251 (ci := 13) rfl rfl rfl rfl (zle rfl) dX9_statement_21 ⟨Nat.le_refl _, Nat.le_refl _⟩ h (fun x6 M5 h => ?_)
    refine Z_if_eq (tgt := 38) dX9_statement_24 (by decide) (fun q => ?_) (fun q => ?_)
    · have h := h.1 q
      refine Z_aload_n dX9_statement_38 rfl 0 rfl ?_
      refine Z_ldcSW (tx := "weight") (zLits_at 24 rfl) dX9_statement_39 (fun a7 qa7 => ?_)
      have h := h a7 qa7
      refine Z_callVI (as := [va a7]) zRm_M zcv_X9_statement_X9_isKey_251 (ci := 13) rfl rfl rfl rfl (zle rfl) dX9_statement_42 ⟨Nat.le_refl _, Nat.le_refl _⟩ h (fun x9 M8 h => ?_)
      refine Z_if_eq (tgt := 59) dX9_statement_45 (by decide) (fun q => ?_) (fun q => ?_)
      · have h := h.1 q
        refine Z_aload_n dX9_statement_59 rfl 0 rfl ?_
        refine Z_ldcSW (tx := "gentle") (zLits_at 25 rfl) dX9_statement_60 (fun a10 qa10 => ?_)
        have h := h a10 qa10
        refine Z_callVI (as := [va a10]) zRm_M zcv_X9_statement_X9_isKey_251 (ci := 13) rfl rfl rfl rfl (zle rfl) dX9_statement_63 ⟨Nat.le_refl _, Nat.le_refl _⟩ h (fun x12 M11 h => ?_)
        refine Z_if_eq (tgt := 80) dX9_statement_66 (by decide) (fun q => ?_) (fun q => ?_)
        · have h := h.1 q
          refine Z_aload_n dX9_statement_80 rfl 0 rfl ?_
          refine Z_ldcSW (tx := "seed") (zLits_at 26 rfl) dX9_statement_81 (fun a13 qa13 => ?_)
          have h := h a13 qa13
          refine Z_callVI (as := [va a13]) zRm_M zcv_X9_statement_X9_isKey_251 (ci := 13) rfl rfl rfl rfl (zle rfl) dX9_statement_84 ⟨Nat.le_refl _, Nat.le_refl _⟩ h (fun x15 M14 h => ?_)
          refine Z_if_eq (tgt := 103) dX9_statement_87 (by decide) (fun q => ?_) (fun q => ?_)
          · have h := h.1 q
            refine Z_aload_n dX9_statement_103 rfl 0 rfl ?_
            refine Z_ldcSW (tx := "flow") (zLits_at 27 rfl) dX9_statement_104 (fun a16 qa16 => ?_)
            have h := h a16 qa16
            refine Z_callVI (as := [va a16]) zRm_M zcv_X9_statement_X9_isKey_251 (ci := 13) rfl rfl rfl rfl (zle rfl) dX9_statement_107 ⟨Nat.le_refl _, Nat.le_refl _⟩ h (fun x18 M17 h => ?_)
            refine Z_if_eq (tgt := 120) dX9_statement_110 (by decide) (fun q => ?_) (fun q => ?_)
            · have h := h.1 q
              refine Z_aload_n dX9_statement_120 rfl 0 rfl ?_
              refine Z_iconst (v := 1) (by decide) dX9_statement_121 ?_
              refine Z_iconst (v := 1) (by decide) dX9_statement_122 ?_
              refine Z_callVI (as := [vi 1, vi 1]) zRm_M zcv_X9_statement_X9_wrong_229 (ci := 13) rfl rfl rfl rfl (zle rfl) dX9_statement_123 ⟨Nat.le_refl _, Nat.le_refl _⟩ h (fun x20 M19 h => ?_)
              refine Z_pop rfl dX9_statement_126 ?_
              exact Z_vret rfl dX9_statement_127 (Nat.le_refl _) (Nat.le_refl _) ⟨rfl, h⟩
            · have h := h.2 q
              refine Z_aload_n dX9_statement_113 rfl 0 rfl ?_
              refine Z_callVV (as := []) zRm_M zcv_X9_statement_X9_newFlow_278 (ci := 13) rfl rfl rfl rfl (zle rfl) dX9_statement_114 ⟨Nat.le_refl _, Nat.le_refl _⟩ h (fun M21 h => ?_)
              refine Z_goto (tgt := 127) dX9_statement_117 (by decide) ?_
              exact Z_vret rfl dX9_statement_127 (Nat.le_refl _) (Nat.le_refl _) ⟨rfl, h⟩
          · have h := h.2 q
            refine Z_aload_n dX9_statement_90 rfl 0 rfl ?_
            refine Z_iconst (v := 4) (by decide) dX9_statement_91 ?_
            refine Z_bipush (v := 13) (by decide) dX9_statement_92 ?_
            refine Z_sipush (v := 9999) (by decide) dX9_statement_94 ?_
            refine Z_callVV (as := [vi 4, vi 13, vi 9999]) zRm_M zcv_X9_statement_X9_setting_267 (ci := 13) rfl rfl rfl rfl (zle rfl) dX9_statement_97 ⟨Nat.le_refl _, Nat.le_refl _⟩ h (fun M22 h => ?_)
            refine Z_goto (tgt := 127) dX9_statement_100 (by decide) ?_
            exact Z_vret rfl dX9_statement_127 (Nat.le_refl _) (Nat.le_refl _) ⟨rfl, h⟩
        · have h := h.2 q
          refine Z_aload_n dX9_statement_69 rfl 0 rfl ?_
          refine Z_iconst (v := 3) (by decide) dX9_statement_70 ?_
          refine Z_bipush (v := 6) (by decide) dX9_statement_71 ?_
          refine Z_iconst (v := 1) (by decide) dX9_statement_73 ?_
          refine Z_callVV (as := [vi 3, vi 6, vi 1]) zRm_M zcv_X9_statement_X9_setting_267 (ci := 13) rfl rfl rfl rfl (zle rfl) dX9_statement_74 ⟨Nat.le_refl _, Nat.le_refl _⟩ h (fun M23 h => ?_)
          refine Z_goto (tgt := 127) dX9_statement_77 (by decide) ?_
          exact Z_vret rfl dX9_statement_127 (Nat.le_refl _) (Nat.le_refl _) ⟨rfl, h⟩
      · have h := h.2 q
        refine Z_aload_n dX9_statement_48 rfl 0 rfl ?_
        refine Z_iconst (v := 2) (by decide) dX9_statement_49 ?_
        refine Z_iconst (v := 5) (by decide) dX9_statement_50 ?_
        refine Z_bipush (v := 10) (by decide) dX9_statement_51 ?_
        refine Z_callVV (as := [vi 2, vi 5, vi 10]) zRm_M zcv_X9_statement_X9_setting_267 (ci := 13) rfl rfl rfl rfl (zle rfl) dX9_statement_53 ⟨Nat.le_refl _, Nat.le_refl _⟩ h (fun M24 h => ?_)
        refine Z_goto (tgt := 127) dX9_statement_56 (by decide) ?_
        exact Z_vret rfl dX9_statement_127 (Nat.le_refl _) (Nat.le_refl _) ⟨rfl, h⟩
    · have h := h.2 q
      refine Z_aload_n dX9_statement_27 rfl 0 rfl ?_
      refine Z_iconst (v := 1) (by decide) dX9_statement_28 ?_
      refine Z_iconst (v := 4) (by decide) dX9_statement_29 ?_
      refine Z_ldc (v := 65536) zw_1775 dX9_statement_30 ?_
      refine Z_callVV (as := [vi 1, vi 4, vi 65536]) zRm_M zcv_X9_statement_X9_setting_267 (ci := 13) rfl rfl rfl rfl (zle rfl) dX9_statement_32 ⟨Nat.le_refl _, Nat.le_refl _⟩ h (fun M25 h => ?_)
      refine Z_goto (tgt := 127) dX9_statement_35 (by decide) ?_
      exact Z_vret rfl dX9_statement_127 (Nat.le_refl _) (Nat.le_refl _) ⟨rfl, h⟩
  · have h := h.2 q
    refine Z_aload_n dX9_statement_10 rfl 0 rfl ?_
    refine Z_callVV (as := []) zRm_M zcv_X9_statement_X9_limits_263 (ci := 13) rfl rfl rfl rfl (zle rfl) dX9_statement_11 ⟨Nat.le_refl _, Nat.le_refl _⟩ h (fun M26 h => ?_)
    refine Z_goto (tgt := 127) dX9_statement_14 (by decide) ?_
    exact Z_vret rfl dX9_statement_127 (Nat.le_refl _) (Nat.le_refl _) ⟨rfl, h⟩
-- X9_setup
set_option maxRecDepth 100000 in
set_option maxHeartbeats 4000000 in
theorem zm_X9_setup {l : Launch} {G : zG} {M : zM} {Kf : zM → Prop} (h : (zCalV l G Y_X9_advance 0 0 [vr 30 0] (zsI (zsI (zsI M 30 0 12 0) 30 0 15 0) 30 0 18 0) (fun M1 => (zCalV l G Y_X9_begins 0 0 [vr 30 0] M1 (fun M2 => (∀ a3 : Nat, zmT M2 a3 = some [114, 111, 117, 116, 101, 114] → (zCalI l G Y_X9_isKey 0 0 [vr 30 0, va a3] M2 (fun x5 M4 => ((¬ x5 = 0 → zAt l G Y_X9_setup (zEV G Y_X9_setup Kf) 39 [(0, vr 30 0)] [vi 0, vr 30 0] M4 0 0) ∧ (x5 = 0 → zAt l G Y_X9_setup (zEV G Y_X9_setup Kf) 39 [(0, vr 30 0)] [vi 1, vr 30 0] M4 0 0)))))))))) : zCalV l G Y_X9_setup 0 0 [vr 30 0] M Kf := by
  refine zCal_of (lv := [(0, vr 30 0)]) (by decide) rfl (zle rfl) rfl (fun hv => zlv_args (lv := [(0, vr 30 0)]) rfl hv) ?_
  refine Z_aload_n dX9_setup_0 rfl 0 rfl ?_
  refine Z_iconst (v := 0) (by decide) dX9_setup_1 ?_
  refine Z_putI zfp_X9_191 rfl rfl dX9_setup_2 ?_
  refine Z_aload_n dX9_setup_5 rfl 0 rfl ?_
  refine Z_iconst (v := 0) (by decide) dX9_setup_6 ?_
  refine Z_putI zfp_X9_210 rfl rfl dX9_setup_7 ?_
  refine Z_aload_n dX9_setup_10 rfl 0 rfl ?_
  refine Z_iconst (v := 0) (by decide) dX9_setup_11 ?_
  refine Z_putI zfp_X9_255 rfl rfl dX9_setup_12 ?_
  refine Z_aload_n dX9_setup_15 rfl 0 rfl ?_
  refine Z_callVV (as := []) zRm_M zcv_X9_setup_X9_advance_233 (ci := 13) rfl rfl rfl rfl (zle rfl) dX9_setup_16 ⟨Nat.le_refl _, Nat.le_refl _⟩ h (fun M1 h => ?_)
  refine Z_aload_n dX9_setup_19 rfl 0 rfl ?_
  refine Z_callVV (as := []) zRm_M zcv_X9_setup_X9_begins_57 (ci := 13) rfl rfl rfl rfl (zle rfl) dX9_setup_20 ⟨Nat.le_refl _, Nat.le_refl _⟩ h (fun M2 h => ?_)
  refine Z_aload_n dX9_setup_23 rfl 0 rfl ?_
  refine Z_aload_n dX9_setup_24 rfl 0 rfl ?_
  refine Z_ldcSW (tx := "router") (zLits_at 21 rfl) dX9_setup_25 (fun a3 qa3 => ?_)
  have h := h a3 qa3
  refine Z_callVI (as := [va a3]) zRm_M zcv_X9_setup_X9_isKey_251 (ci := 13) rfl rfl rfl rfl (zle rfl) dX9_setup_28 ⟨Nat.le_refl _, Nat.le_refl _⟩ h (fun x5 M4 h => ?_)
  refine Z_if_ne (tgt := 38) dX9_setup_31 (by decide) (fun q => ?_) (fun q => ?_)
  · have h := h.1 q
    refine Z_iconst (v := 0) (by decide) dX9_setup_38 ?_
    exact h
  · have h := h.2 q
    refine Z_iconst (v := 1) (by decide) dX9_setup_34 ?_
    refine Z_goto (tgt := 39) dX9_setup_35 (by decide) ?_
    exact h
set_option maxRecDepth 100000 in
set_option maxHeartbeats 4000000 in
theorem zb_X9_setup_39 {l : Launch} {G : zG} {s0 : Int32} {M : zM} {Kf : zM → Prop} (h : (zCalI l G Y_X9_wrong 0 0 [vr 30 0, vi s0, vi 1] M (fun x2 M1 => ((x2 = 0 → (zCalV l G Y_X9_advance 0 0 [vr 30 0] M1 (fun M3 => (zCalI l G Y_X9_number 0 0 [vr 30 0, vi 1, vi 40] M3 (fun x5 M4 => (zCalI l G Y_X9_number 0 0 [vr 30 0, vi 1, vi 9] (zsI M4 31 0 0 x5) (fun x8 M7 => zAt l G Y_X9_setup (zEV G Y_X9_setup Kf) 77 [(0, vr 30 0)] [] (zsI M7 31 0 1 x8) 0 0))))))) ∧ (¬ x2 = 0 → (Kf M1)))))) : zAt l G Y_X9_setup (zEV G Y_X9_setup Kf) 39 [(0, vr 30 0)] [vi s0, vr 30 0] M 0 0 := by
  refine Z_iconst (v := 1) (by decide) dX9_setup_39 ?_
  refine Z_callVI (as := [vi s0, vi 1]) zRm_M zcv_X9_setup_X9_wrong_229 (ci := 13) rfl rfl rfl rfl (zle rfl) dX9_setup_40 ⟨Nat.le_refl _, Nat.le_refl _⟩ h (fun x2 M1 h => ?_)
  refine Z_if_eq (tgt := 47) dX9_setup_43 (by decide) (fun q => ?_) (fun q => ?_)
  · have h := h.1 q
    refine Z_aload_n dX9_setup_47 rfl 0 rfl ?_
    refine Z_callVV (as := []) zRm_M zcv_X9_setup_X9_advance_233 (ci := 13) rfl rfl rfl rfl (zle rfl) dX9_setup_48 ⟨Nat.le_refl _, Nat.le_refl _⟩ h (fun M3 h => ?_)
    refine Z_aload_n dX9_setup_51 rfl 0 rfl ?_
    refine Z_getR (s1 := 31) (i1 := 0) zfl_X9_9 rfl (fun q => by first | exact q | decide) dX9_setup_52 ?_
    refine Z_iconst (v := 0) (by decide) dX9_setup_55 ?_
    refine Z_aload_n dX9_setup_56 rfl 0 rfl ?_
    refine Z_iconst (v := 1) (by decide) dX9_setup_57 ?_
    refine Z_bipush (v := 40) (by decide) dX9_setup_58 ?_
    refine Z_callVI (as := [vi 1, vi 40]) zRm_M zcv_X9_setup_X9_number_246 (ci := 13) rfl rfl rfl rfl (zle rfl) dX9_setup_60 ⟨Nat.le_refl _, Nat.le_refl _⟩ h (fun x5 M4 h => ?_)
    refine Z_iastK (n := 484) (j := 0) rfl (by decide) (zvin (by decide)) dX9_setup_63 ?_
    refine Z_aload_n dX9_setup_64 rfl 0 rfl ?_
    refine Z_getR (s1 := 31) (i1 := 0) zfl_X9_9 rfl (fun q => by first | exact q | decide) dX9_setup_65 ?_
    refine Z_iconst (v := 1) (by decide) dX9_setup_68 ?_
    refine Z_aload_n dX9_setup_69 rfl 0 rfl ?_
    refine Z_iconst (v := 1) (by decide) dX9_setup_70 ?_
    refine Z_bipush (v := 9) (by decide) dX9_setup_71 ?_
    refine Z_callVI (as := [vi 1, vi 9]) zRm_M zcv_X9_setup_X9_number_246 (ci := 13) rfl rfl rfl rfl (zle rfl) dX9_setup_73 ⟨Nat.le_refl _, Nat.le_refl _⟩ h (fun x8 M7 h => ?_)
    refine Z_iastK (n := 484) (j := 1) rfl (by decide) (zvin (by decide)) dX9_setup_76 ?_
    exact h
  · have h := h.2 q
    exact Z_vret rfl dX9_setup_46 (Nat.le_refl _) (Nat.le_refl _) ⟨rfl, h⟩
set_option maxRecDepth 100000 in
set_option maxHeartbeats 4000000 in
theorem zb_X9_setup_77 {l : Launch} {G : zG}  {M : zM} {Kf : zM → Prop} (h : (zCalI l G Y_X9_isSign 0 0 [vr 30 0, vi 59] M (fun x2 M1 => ((x2 = 0 → (((zmI M1 30 0 13) = 0 → zAt l G Y_X9_setup (zEV G Y_X9_setup Kf) 110 [] [vi 0, vr 30 0] M1 0 0) ∧ (¬ (zmI M1 30 0 13) = 0 → zAt l G Y_X9_setup (zEV G Y_X9_setup Kf) 110 [] [vi 1, vr 30 0] M1 0 0))) ∧ (¬ x2 = 0 → (zCalV l G Y_X9_advance 0 0 [vr 30 0] M1 (fun M3 => (zCalV l G Y_X9_statement 0 0 [vr 30 0] M3 (fun M4 => zAt l G Y_X9_setup (zEV G Y_X9_setup Kf) 77 [(0, vr 30 0)] [] M4 0 0))))))))) : zAt l G Y_X9_setup (zEV G Y_X9_setup Kf) 77 [(0, vr 30 0)] [] M 0 0 := by
  refine Z_aload_n dX9_setup_77 rfl 0 rfl ?_
  refine Z_bipush (v := 59) (by decide) dX9_setup_78 ?_
  refine Z_callVI (as := [vi 59]) zRm_M zcv_X9_setup_X9_isSign_226 (ci := 13) rfl rfl rfl rfl (zle rfl) dX9_setup_80 ⟨Nat.le_refl _, Nat.le_refl _⟩ h (fun x2 M1 h => ?_)
  refine Z_if_eq (tgt := 97) dX9_setup_83 (by decide) (fun q => ?_) (fun q => ?_)
  · have h := h.1 q
    refine Z_aload_n dX9_setup_97 rfl 0 rfl ?_
    refine Z_aload_n dX9_setup_98 rfl 0 rfl ?_
    refine Z_getI zfl_X9_200 dX9_setup_99 ?_
    refine Z_if_eq (tgt := 109) dX9_setup_102 (by decide) (fun q => ?_) (fun q => ?_)
    · have h := h.1 q
      refine Z_iconst (v := 0) (by decide) dX9_setup_109 ?_
      exact Z_pick [] rfl h
    · have h := h.2 q
      refine Z_iconst (v := 1) (by decide) dX9_setup_105 ?_
      refine Z_goto (tgt := 110) dX9_setup_106 (by decide) ?_
      exact Z_pick [] rfl h
  · have h := h.2 q
    refine Z_aload_n dX9_setup_86 rfl 0 rfl ?_
    refine Z_callVV (as := []) zRm_M zcv_X9_setup_X9_advance_233 (ci := 13) rfl rfl rfl rfl (zle rfl) dX9_setup_87 ⟨Nat.le_refl _, Nat.le_refl _⟩ h (fun M3 h => ?_)
    refine Z_aload_n dX9_setup_90 rfl 0 rfl ?_
    refine Z_callVV (as := []) zRm_M zcv_X9_setup_X9_statement_283 (ci := 13) rfl rfl rfl rfl (zle rfl) dX9_setup_91 ⟨Nat.le_refl _, Nat.le_refl _⟩ h (fun M4 h => ?_)
    refine Z_goto (tgt := 77) dX9_setup_94 (by decide) ?_
    exact h
set_option maxRecDepth 100000 in
set_option maxHeartbeats 4000000 in
theorem zb_X9_setup_110 {l : Launch} {G : zG} {s0 : Int32} {M : zM} {Kf : zM → Prop} (h : (zCalI l G Y_X9_wrong 0 0 [vr 30 0, vi s0, vi 1] M (fun x2 M1 => (Kf M1)))) : zAt l G Y_X9_setup (zEV G Y_X9_setup Kf) 110 [] [vi s0, vr 30 0] M 0 0 := by
  refine Z_iconst (v := 1) (by decide) dX9_setup_110 ?_
  refine Z_callVI (as := [vi s0, vi 1]) zRm_M zcv_X9_setup_X9_wrong_229 (ci := 13) rfl rfl rfl rfl (zle rfl) dX9_setup_111 ⟨Nat.le_refl _, Nat.le_refl _⟩ h (fun x2 M1 h => ?_)
  refine Z_istore_n (lv2 := [(1, vi x2)]) dX9_setup_114 rfl (by decide) rfl ?_
  exact Z_vret rfl dX9_setup_115 (Nat.le_refl _) (Nat.le_refl _) ⟨rfl, h⟩
-- X9_load
set_option maxRecDepth 100000 in
set_option maxHeartbeats 4000000 in
theorem zm_X9_load {l : Launch} {G : zG} {M : zM} {Kf : Int32 → zM → Prop} (h : (zCalV l G Y_X9_aside 0 0 [vr 30 0] (zsI M 30 0 7 0) (fun M1 => (zCalV l G Y_X9_setup 0 0 [vr 30 0] M1 (fun M2 => (zCalI l G Y_X9_ended 0 0 [vr 30 0] M2 (fun x4 M3 => ((0 ≤ x4 → (Kf (zmI (zsI (zsI (zsI M3 30 0 6 0) 36 0 0 0) 36 0 1 0) 31 0 11) (zsI (zsI (zsI M3 30 0 6 0) 36 0 0 0) 36 0 1 0))) ∧ (¬ 0 ≤ x4 → (zCalI l G Y_X9_back 0 0 [vr 30 0, vi x4] M3 (fun x9 M8 => (Kf x9 M8)))))))))))) : zCalI l G Y_X9_load 0 0 [vr 30 0] M Kf := by
  refine zCal_of (lv := [(0, vr 30 0)]) (by decide) rfl (zle rfl) rfl (fun hv => zlv_args (lv := [(0, vr 30 0)]) rfl hv) ?_
  refine Z_aload_n dX9_load_0 rfl 0 rfl ?_
  refine Z_iconst (v := 0) (by decide) dX9_load_1 ?_
  refine Z_putI zfp_X9_60 rfl rfl dX9_load_2 ?_
  refine Z_aload_n dX9_load_5 rfl 0 rfl ?_
  refine Z_callVV (as := []) zRm_M zcv_X9_load_X9_aside_286 (ci := 13) rfl rfl rfl rfl (zle rfl) dX9_load_6 ⟨Nat.le_refl _, Nat.le_refl _⟩ h (fun M1 h => ?_)
  refine Z_aload_n dX9_load_9 rfl 0 rfl ?_
  refine Z_callVV (as := []) zRm_M zcv_X9_load_X9_setup_289 (ci := 13) rfl rfl rfl rfl (zle rfl) dX9_load_10 ⟨Nat.le_refl _, Nat.le_refl _⟩ h (fun M2 h => ?_)
  refine Z_aload_n dX9_load_13 rfl 0 rfl ?_
  refine Z_callVI (as := []) zRm_M zcv_X9_load_X9_ended_292 (ci := 13) rfl rfl rfl rfl (zle rfl) dX9_load_14 ⟨Nat.le_refl _, Nat.le_refl _⟩ h (fun x4 M3 h => ?_)
  refine Z_istore_n (lv2 := [(1, vi x4), (0, vr 30 0)]) dX9_load_17 rfl (by decide) rfl ?_
  refine Z_iload_n dX9_load_18 rfl 0 rfl ?_
  refine Z_if_ge (tgt := 28) dX9_load_19 (by decide) (fun q => ?_) (fun q => ?_)
  · have h := h.1 q
    refine Z_aload_n dX9_load_28 rfl 1 rfl ?_
    refine Z_iconst (v := 0) (by decide) dX9_load_29 ?_
    refine Z_putI zfp_X9_298 rfl rfl dX9_load_30 ?_
    refine Z_aload_n dX9_load_33 rfl 1 rfl ?_
    refine Z_getR (s1 := 36) (i1 := 0) zfl_X9_25 rfl (fun q => by first | exact q | decide) dX9_load_34 ?_
    refine Z_iconst (v := 0) (by decide) dX9_load_37 ?_
    refine Z_iconst (v := 0) (by decide) dX9_load_38 ?_
    refine Z_zastK (n := 2) (j := 0) rfl (by decide) (zvin (by decide)) (by decide) dX9_load_39 ?_
    refine Z_aload_n dX9_load_40 rfl 1 rfl ?_
    refine Z_getR (s1 := 36) (i1 := 0) zfl_X9_25 rfl (fun q => by first | exact q | decide) dX9_load_41 ?_
    refine Z_iconst (v := 1) (by decide) dX9_load_44 ?_
    refine Z_iconst (v := 0) (by decide) dX9_load_45 ?_
    refine Z_zastK (n := 2) (j := 1) rfl (by decide) (zvin (by decide)) (by decide) dX9_load_46 ?_
    refine Z_aload_n dX9_load_47 rfl 1 rfl ?_
    refine Z_getR (s1 := 31) (i1 := 0) zfl_X9_9 rfl (fun q => by first | exact q | decide) dX9_load_48 ?_
    refine Z_bipush (v := 11) (by decide) dX9_load_51 ?_
    refine Z_ialdK (n := 484) (j := 11) rfl (by decide) (zvin (by decide)) dX9_load_53 ?_
    exact Z_iret rfl rfl dX9_load_54 (Nat.le_refl _) (Nat.le_refl _) ⟨_, rfl, h⟩
  · have h := h.2 q
    refine Z_aload_n dX9_load_22 rfl 1 rfl ?_
    refine Z_iload_n dX9_load_23 rfl 0 rfl ?_
    refine Z_callVI (as := [vi x4]) zRm_M zcv_X9_load_X9_back_295 (ci := 13) rfl rfl rfl rfl (zle rfl) dX9_load_24 ⟨Nat.le_refl _, Nat.le_refl _⟩ h (fun x9 M8 h => ?_)
    exact Z_iret rfl rfl dX9_load_27 (Nat.le_refl _) (Nat.le_refl _) ⟨_, rfl, h⟩
-- X9_chanceOf
set_option maxRecDepth 100000 in
set_option maxHeartbeats 4000000 in
theorem zm_X9_chanceOf {l : Launch} {G : zG} {p1 : Int64} {p2 : Int32} {M : zM} {Kf : Int32 → zM → Prop} (h : ((0 < (lg_cmp (65536 - (((p2 : Int32).toInt64) * p1)) 0) → (¬ (65536 - (((p2 : Int32).toInt64) * p1)) = 0 ∧ (Kf (((if ((65536 * p1) / (65536 - (((p2 : Int32).toInt64) * p1))) < 65536 then ((65536 * p1) / (65536 - (((p2 : Int32).toInt64) * p1))) else 65536) : Int64).toInt32) M))) ∧ (¬ 0 < (lg_cmp (65536 - (((p2 : Int32).toInt64) * p1)) 0) → (Kf 65536 M)))) : zCalI l G Y_X9_chanceOf 0 0 [vl p1, vi p2] M Kf := by
  refine zCal_of (lv := [(0, vl p1), (2, vi p2)]) (by decide) rfl (zle rfl) rfl (fun hv => zlv_args (lv := [(0, vl p1), (2, vi p2)]) rfl hv) ?_
  refine Z_ldc2 (v := 65536) zw_1948 dX9_chanceOf_0 ?_
  refine Z_iload_n dX9_chanceOf_3 rfl 1 rfl ?_
  refine Z_i2l dX9_chanceOf_4 ?_
  refine Z_lload_n dX9_chanceOf_5 rfl 0 rfl ?_
  refine Z_lmul dX9_chanceOf_6 ?_
  refine Z_lsub dX9_chanceOf_7 ?_
  refine Z_lstore_n (lv2 := [(3, vl (65536 - (((p2 : Int32).toInt64) * p1))), (0, vl p1), (2, vi p2)]) dX9_chanceOf_8 rfl (by decide) rfl ?_
  refine Z_lload_n dX9_chanceOf_9 rfl 0 rfl ?_
  refine Z_lconst (v := 0) (by decide) dX9_chanceOf_10 ?_
  refine Z_lcmp dX9_chanceOf_11 ?_
  refine Z_if_gt (tgt := 20) dX9_chanceOf_12 (by decide) (fun q => ?_) (fun q => ?_)
  · have h := h.1 q
    refine Z_ldc2 (v := 65536) zw_1948 dX9_chanceOf_20 ?_
    refine Z_ldc2 (v := 65536) zw_1948 dX9_chanceOf_23 ?_
    refine Z_lload_n dX9_chanceOf_26 rfl 1 rfl ?_
    refine Z_lmul dX9_chanceOf_27 ?_
    refine Z_lload_n dX9_chanceOf_28 rfl 0 rfl ?_
    obtain ⟨g1, h⟩ := h
    refine Z_ldiv dX9_chanceOf_29 g1 ?_
    refine Z_mminL zw_1952 zw_1953 zw_129 zw_1954 zRm_M (by decide) (zle rfl) (Nat.zero_le _) (Nat.zero_le _) dX9_chanceOf_30 ?_
    refine Z_l2i dX9_chanceOf_33 ?_
    exact Z_iret rfl rfl dX9_chanceOf_34 (Nat.le_refl _) (Nat.le_refl _) ⟨_, rfl, h⟩
  · have h := h.2 q
    refine Z_ldc (v := 65536) zw_1775 dX9_chanceOf_15 ?_
    refine Z_goto (tgt := 34) dX9_chanceOf_17 (by decide) ?_
    exact Z_iret rfl rfl dX9_chanceOf_34 (Nat.le_refl _) (Nat.le_refl _) ⟨_, rfl, h⟩
-- X9_readsOrder
set_option maxRecDepth 100000 in
set_option maxHeartbeats 4000000 in
theorem zm_X9_readsOrder {l : Launch} {G : zG} {M : zM} {Kf : zM → Prop} (h : (zCalI l G Y_X9_orderHere 0 0 [vr 30 0] M (fun x2 M1 => ((¬ x2 = (-1) → zAt l G Y_X9_readsOrder (zEV G Y_X9_readsOrder Kf) 16 [(0, vr 30 0), (1, vi x2)] [vi 0, vr 30 0] M1 0 0) ∧ (x2 = (-1) → zAt l G Y_X9_readsOrder (zEV G Y_X9_readsOrder Kf) 16 [(0, vr 30 0), (1, vi x2)] [vi 1, vr 30 0] M1 0 0))))) : zCalV l G Y_X9_readsOrder 0 0 [vr 30 0] M Kf := by
  refine zCal_of (lv := [(0, vr 30 0)]) (by decide) rfl (zle rfl) rfl (fun hv => zlv_args (lv := [(0, vr 30 0)]) rfl hv) ?_
  refine Z_aload_n dX9_readsOrder_0 rfl 0 rfl ?_
  refine Z_callVI (as := []) zRm_M zcv_X9_readsOrder_X9_orderHere_314 (ci := 13) rfl rfl rfl rfl (zle rfl) dX9_readsOrder_1 ⟨Nat.le_refl _, Nat.le_refl _⟩ h (fun x2 M1 h => ?_)
  refine Z_istore_n (lv2 := [(1, vi x2), (0, vr 30 0)]) dX9_readsOrder_4 rfl (by decide) rfl ?_
  refine Z_aload_n dX9_readsOrder_5 rfl 1 rfl ?_
  refine Z_iload_n dX9_readsOrder_6 rfl 0 rfl ?_
  refine Z_iconst (v := (-1)) (by decide) dX9_readsOrder_7 ?_
  refine Z_icmp_ne (tgt := 15) dX9_readsOrder_8 (by decide) (fun q => ?_) (fun q => ?_)
  · have h := h.1 q
    refine Z_iconst (v := 0) (by decide) dX9_readsOrder_15 ?_
    exact Z_pick [1, 0] rfl h
  · have h := h.2 q
    refine Z_iconst (v := 1) (by decide) dX9_readsOrder_11 ?_
    refine Z_goto (tgt := 16) dX9_readsOrder_12 (by decide) ?_
    exact Z_pick [1, 0] rfl h
set_option maxRecDepth 100000 in
set_option maxHeartbeats 4000000 in
theorem zb_X9_readsOrder_16 {l : Launch} {G : zG} {y1 : Int32} {s0 : Int32} {M : zM} {Kf : zM → Prop} (h : (zCalI l G Y_X9_wrong 0 0 [vr 30 0, vi s0, vi 1] M (fun x2 M1 => ((¬ x2 = 0 → (Kf M1)) ∧ (x2 = 0 → ((¬ (zmI M1 30 0 26) = 30 → zAt l G Y_X9_readsOrder (zEV G Y_X9_readsOrder Kf) 38 [(0, vr 30 0), (1, vi y1)] [vi 0, vr 30 0] M1 0 0) ∧ ((zmI M1 30 0 26) = 30 → zAt l G Y_X9_readsOrder (zEV G Y_X9_readsOrder Kf) 38 [(0, vr 30 0), (1, vi y1)] [vi 1, vr 30 0] M1 0 0))))))) : zAt l G Y_X9_readsOrder (zEV G Y_X9_readsOrder Kf) 16 [(0, vr 30 0), (1, vi y1)] [vi s0, vr 30 0] M 0 0 := by
  refine Z_iconst (v := 1) (by decide) dX9_readsOrder_16 ?_
  refine Z_callVI (as := [vi s0, vi 1]) zRm_M zcv_X9_readsOrder_X9_wrong_229 (ci := 13) rfl rfl rfl rfl (zle rfl) dX9_readsOrder_17 ⟨Nat.le_refl _, Nat.le_refl _⟩ h (fun x2 M1 h => ?_)
  refine Z_if_ne (tgt := 45) dX9_readsOrder_20 (by decide) (fun q => ?_) (fun q => ?_)
  · have h := h.1 q
    exact Z_vret rfl dX9_readsOrder_45 (Nat.le_refl _) (Nat.le_refl _) ⟨rfl, h⟩
  · have h := h.2 q
    refine Z_aload_n dX9_readsOrder_23 rfl 0 rfl ?_
    refine Z_aload_n dX9_readsOrder_24 rfl 0 rfl ?_
    refine Z_getI zfl_X9_317 dX9_readsOrder_25 ?_
    refine Z_bipush (v := 30) (by decide) dX9_readsOrder_28 ?_
    refine Z_icmp_ne (tgt := 37) dX9_readsOrder_30 (by decide) (fun q => ?_) (fun q => ?_)
    · have h := h.1 q
      refine Z_iconst (v := 0) (by decide) dX9_readsOrder_37 ?_
      exact h
    · have h := h.2 q
      refine Z_iconst (v := 1) (by decide) dX9_readsOrder_33 ?_
      refine Z_goto (tgt := 38) dX9_readsOrder_34 (by decide) ?_
      exact h
set_option maxRecDepth 100000 in
set_option maxHeartbeats 4000000 in
theorem zb_X9_readsOrder_38 {l : Launch} {G : zG} {y1 : Int32} {s0 : Int32} {M : zM} {Kf : zM → Prop} (h : (zCalI l G Y_X9_wrong 0 0 [vr 30 0, vi s0, vi 5] M (fun x2 M1 => ((x2 = 0 → (zCalV l G Y_X9_advance 0 0 [vr 30 0] (zsI M1 30 0 26 ((zmI M1 30 0 26) + 1)) (fun M3 => (vp_in (zmI M3 30 0 25) 64 ∧ (zCalI l G Y_X9_firstHere 0 0 [vr 30 0, vi y1] (zsI M3 38 0 (zmI M3 30 0 25).toNatClampNeg y1) (fun x6 M5 => (vp_in (zmI (zsI M3 38 0 (zmI M3 30 0 25).toNatClampNeg y1) 30 0 25) 64 ∧ (vp_in (zmI (zsI M5 39 0 (zmI (zsI M3 38 0 (zmI M3 30 0 25).toNatClampNeg y1) 30 0 25).toNatClampNeg x6) 30 0 25) 64 ∧ (zCalI l G Y_X9_secondHere 0 0 [vr 30 0, vi y1, vi (zmI (zsI M5 39 0 (zmI (zsI M3 38 0 (zmI M3 30 0 25).toNatClampNeg y1) 30 0 25).toNatClampNeg x6) 39 0 (zmI (zsI M5 39 0 (zmI (zsI M3 38 0 (zmI M3 30 0 25).toNatClampNeg y1) 30 0 25).toNatClampNeg x6) 30 0 25).toNatClampNeg)] (zsI M5 39 0 (zmI (zsI M3 38 0 (zmI M3 30 0 25).toNatClampNeg y1) 30 0 25).toNatClampNeg x6) (fun x10 M9 => (vp_in (zmI (zsI M5 39 0 (zmI (zsI M3 38 0 (zmI M3 30 0 25).toNatClampNeg y1) 30 0 25).toNatClampNeg x6) 30 0 25) 64 ∧ ((y1 = 8 → (zCalI l G Y_X9_isSign 0 0 [vr 30 0, vi 40] (zsI M9 40 0 (zmI (zsI M5 39 0 (zmI (zsI M3 38 0 (zmI M3 30 0 25).toNatClampNeg y1) 30 0 25).toNatClampNeg x6) 30 0 25).toNatClampNeg x10) (fun x13 M12 => ((x13 = 0 → zAt l G Y_X9_readsOrder (zEV G Y_X9_readsOrder Kf) 152 [(0, vr 30 0)] [vr 30 0] M12 0 0) ∧ (¬ x13 = 0 → ((¬ (zmI M12 30 0 27) = 2 → zAt l G Y_X9_readsOrder (zEV G Y_X9_readsOrder Kf) 152 [(0, vr 30 0)] [vr 30 0] M12 0 0) ∧ ((zmI M12 30 0 27) = 2 → zAt l G Y_X9_readsOrder (zEV G Y_X9_readsOrder Kf) 153 [(0, vr 30 0)] [vi 1, vr 30 0] M12 0 0))))))) ∧ (¬ y1 = 8 → (zCalV l G Y_X9_takesSign 0 0 [vr 30 0, vi 59] (zsI (zsI M9 40 0 (zmI (zsI M5 39 0 (zmI (zsI M3 38 0 (zmI M3 30 0 25).toNatClampNeg y1) 30 0 25).toNatClampNeg x6) 30 0 25).toNatClampNeg x10) 30 0 25 ((zmI (zsI M9 40 0 (zmI (zsI M5 39 0 (zmI (zsI M3 38 0 (zmI M3 30 0 25).toNatClampNeg y1) 30 0 25).toNatClampNeg x6) 30 0 25).toNatClampNeg x10) 30 0 25) + 1)) (fun M14 => (Kf M14)))))))))))))))) ∧ (¬ x2 = 0 → (Kf M1)))))) : zAt l G Y_X9_readsOrder (zEV G Y_X9_readsOrder Kf) 38 [(0, vr 30 0), (1, vi y1)] [vi s0, vr 30 0] M 0 0 := by
  refine Z_iconst (v := 5) (by decide) dX9_readsOrder_38 ?_
  refine Z_callVI (as := [vi s0, vi 5]) zRm_M zcv_X9_readsOrder_X9_wrong_229 (ci := 13) rfl rfl rfl rfl (zle rfl) dX9_readsOrder_39 ⟨Nat.le_refl _, Nat.le_refl _⟩ h (fun x2 M1 h => ?_)
  refine Z_if_eq (tgt := 46) dX9_readsOrder_42 (by decide) (fun q => ?_) (fun q => ?_)
  · have h := h.1 q
    refine Z_aload_n dX9_readsOrder_46 rfl 0 rfl ?_
    refine Z_dup rfl dX9_readsOrder_47 ?_
    refine Z_getI zfl_X9_317 dX9_readsOrder_48 ?_
    refine Z_iconst (v := 1) (by decide) dX9_readsOrder_51 ?_
    refine Z_iadd dX9_readsOrder_52 ?_
    refine Z_putI zfp_X9_317 rfl rfl dX9_readsOrder_53 ?_
    refine Z_aload_n dX9_readsOrder_56 rfl 0 rfl ?_
    refine Z_callVV (as := []) zRm_M zcv_X9_readsOrder_X9_advance_233 (ci := 13) rfl rfl rfl rfl (zle rfl) dX9_readsOrder_57 ⟨Nat.le_refl _, Nat.le_refl _⟩ h (fun M3 h => ?_)
    refine Z_aload_n dX9_readsOrder_60 rfl 0 rfl ?_
    refine Z_getR (s1 := 38) (i1 := 0) zfl_X9_36 rfl (fun q => by first | exact q | decide) dX9_readsOrder_61 ?_
    refine Z_aload_n dX9_readsOrder_64 rfl 0 rfl ?_
    refine Z_getI zfl_X9_320 dX9_readsOrder_65 ?_
    refine Z_iload_n dX9_readsOrder_68 rfl 1 rfl ?_
    obtain ⟨g4, h⟩ := h
    refine Z_iast (n := 64) rfl g4 dX9_readsOrder_69 ?_
    refine Z_aload_n dX9_readsOrder_70 rfl 0 rfl ?_
    refine Z_getR (s1 := 39) (i1 := 0) zfl_X9_39 rfl (fun q => by first | exact q | decide) dX9_readsOrder_71 ?_
    refine Z_aload_n dX9_readsOrder_74 rfl 0 rfl ?_
    refine Z_getI zfl_X9_320 dX9_readsOrder_75 ?_
    refine Z_aload_n dX9_readsOrder_78 rfl 0 rfl ?_
    refine Z_iload_n dX9_readsOrder_79 rfl 1 rfl ?_
    refine Z_callVI (as := [vi y1]) zRm_M zcv_X9_readsOrder_X9_firstHere_323 (ci := 13) rfl rfl rfl rfl (zle rfl) dX9_readsOrder_80 ⟨Nat.le_refl _, Nat.le_refl _⟩ h (fun x6 M5 h => ?_)
    obtain ⟨g7, h⟩ := h
    refine Z_iast (n := 64) rfl g7 dX9_readsOrder_83 ?_
    refine Z_aload_n dX9_readsOrder_84 rfl 0 rfl ?_
    refine Z_getR (s1 := 40) (i1 := 0) zfl_X9_42 rfl (fun q => by first | exact q | decide) dX9_readsOrder_85 ?_
    refine Z_aload_n dX9_readsOrder_88 rfl 0 rfl ?_
    refine Z_getI zfl_X9_320 dX9_readsOrder_89 ?_
    refine Z_aload_n dX9_readsOrder_92 rfl 0 rfl ?_
    refine Z_iload_n dX9_readsOrder_93 rfl 1 rfl ?_
    refine Z_aload_n dX9_readsOrder_94 rfl 0 rfl ?_
    refine Z_getR (s1 := 39) (i1 := 0) zfl_X9_39 rfl (fun q => by first | exact q | decide) dX9_readsOrder_95 ?_
    refine Z_aload_n dX9_readsOrder_98 rfl 0 rfl ?_
    refine Z_getI zfl_X9_320 dX9_readsOrder_99 ?_
    obtain ⟨g8, h⟩ := h
    refine Z_iald (n := 64) rfl g8 dX9_readsOrder_102 ?_
    refine Z_callVI (as := [vi y1, vi (zmI (zsI M5 39 0 (zmI (zsI M3 38 0 (zmI M3 30 0 25).toNatClampNeg y1) 30 0 25).toNatClampNeg x6) 39 0 (zmI (zsI M5 39 0 (zmI (zsI M3 38 0 (zmI M3 30 0 25).toNatClampNeg y1) 30 0 25).toNatClampNeg x6) 30 0 25).toNatClampNeg)]) zRm_M zcv_X9_readsOrder_X9_secondHere_326 (ci := 13) rfl rfl rfl rfl (zle rfl) dX9_readsOrder_103 ⟨Nat.le_refl _, Nat.le_refl _⟩ h (fun x10 M9 h => ?_)
    obtain ⟨g11, h⟩ := h
    refine Z_iast (n := 64) rfl g11 dX9_readsOrder_106 ?_
    refine Z_iload_n dX9_readsOrder_107 rfl 1 rfl ?_
    refine Z_bipush (v := 8) (by decide) dX9_readsOrder_108 ?_
    refine Z_icmp_eq (tgt := 130) dX9_readsOrder_110 (by decide) (fun q => ?_) (fun q => ?_)
    · have h := h.1 q
      refine Z_aload_n dX9_readsOrder_130 rfl 0 rfl ?_
      refine Z_aload_n dX9_readsOrder_131 rfl 0 rfl ?_
      refine Z_bipush (v := 40) (by decide) dX9_readsOrder_132 ?_
      refine Z_callVI (as := [vi 40]) zRm_M zcv_X9_readsOrder_X9_isSign_226 (ci := 13) rfl rfl rfl rfl (zle rfl) dX9_readsOrder_134 ⟨Nat.le_refl _, Nat.le_refl _⟩ h (fun x13 M12 h => ?_)
      refine Z_if_eq (tgt := 152) dX9_readsOrder_137 (by decide) (fun q => ?_) (fun q => ?_)
      · have h := h.1 q
        exact Z_pick [0] rfl h
      · have h := h.2 q
        refine Z_aload_n dX9_readsOrder_140 rfl 0 rfl ?_
        refine Z_getI zfl_X9_332 dX9_readsOrder_141 ?_
        refine Z_iconst (v := 2) (by decide) dX9_readsOrder_144 ?_
        refine Z_icmp_ne (tgt := 152) dX9_readsOrder_145 (by decide) (fun q => ?_) (fun q => ?_)
        · have h := h.1 q
          exact Z_pick [0] rfl h
        · have h := h.2 q
          refine Z_iconst (v := 1) (by decide) dX9_readsOrder_148 ?_
          refine Z_goto (tgt := 153) dX9_readsOrder_149 (by decide) ?_
          exact Z_pick [0] rfl h
    · have h := h.2 q
      refine Z_aload_n dX9_readsOrder_113 rfl 0 rfl ?_
      refine Z_dup rfl dX9_readsOrder_114 ?_
      refine Z_getI zfl_X9_320 dX9_readsOrder_115 ?_
      refine Z_iconst (v := 1) (by decide) dX9_readsOrder_118 ?_
      refine Z_iadd dX9_readsOrder_119 ?_
      refine Z_putI zfp_X9_320 rfl rfl dX9_readsOrder_120 ?_
      refine Z_aload_n dX9_readsOrder_123 rfl 0 rfl ?_
      refine Z_bipush (v := 59) (by decide) dX9_readsOrder_124 ?_
      refine Z_callVV (as := [vi 59]) zRm_M zcv_X9_readsOrder_X9_takesSign_329 (ci := 13) rfl rfl rfl rfl (zle rfl) dX9_readsOrder_126 ⟨Nat.le_refl _, Nat.le_refl _⟩ h (fun M14 h => ?_)
      exact Z_vret rfl dX9_readsOrder_129 (Nat.le_refl _) (Nat.le_refl _) ⟨rfl, h⟩
  · have h := h.2 q
    exact Z_vret rfl dX9_readsOrder_45 (Nat.le_refl _) (Nat.le_refl _) ⟨rfl, h⟩
set_option maxRecDepth 100000 in
set_option maxHeartbeats 4000000 in
theorem zb_X9_readsOrder_152 {l : Launch} {G : zG}  {M : zM} {Kf : zM → Prop} (h : zAt l G Y_X9_readsOrder (zEV G Y_X9_readsOrder Kf) 153 [(0, vr 30 0)] [vi 0, vr 30 0] M 0 0) : zAt l G Y_X9_readsOrder (zEV G Y_X9_readsOrder Kf) 152 [(0, vr 30 0)] [vr 30 0] M 0 0 := by
  refine Z_iconst (v := 0) (by decide) dX9_readsOrder_152 ?_
  exact h
set_option maxRecDepth 100000 in
set_option maxHeartbeats 4000000 in
theorem zb_X9_readsOrder_153 {l : Launch} {G : zG} {s0 : Int32} {M : zM} {Kf : zM → Prop} (h : (zCalI l G Y_X9_wrong 0 0 [vr 30 0, vi s0, vi 5] M (fun x2 M1 => ((x2 = 0 → (zCalV l G Y_X9_takesSign 0 0 [vr 30 0, vi 40] M1 (fun M3 => (vp_in (if 1 < (zmI M3 30 0 27) then 1 else (zmI M3 30 0 27)) 2 ∧ (Kf (zsI (zsI (zsI M3 42 0 (if 1 < (zmI M3 30 0 27) then 1 else (zmI M3 30 0 27)).toNatClampNeg (zmI M3 30 0 25)) 30 0 27 ((zmI (zsI M3 42 0 (if 1 < (zmI M3 30 0 27) then 1 else (zmI M3 30 0 27)).toNatClampNeg (zmI M3 30 0 25)) 30 0 27) + 1)) 30 0 25 ((zmI (zsI (zsI M3 42 0 (if 1 < (zmI M3 30 0 27) then 1 else (zmI M3 30 0 27)).toNatClampNeg (zmI M3 30 0 25)) 30 0 27 ((zmI (zsI M3 42 0 (if 1 < (zmI M3 30 0 27) then 1 else (zmI M3 30 0 27)).toNatClampNeg (zmI M3 30 0 25)) 30 0 27) + 1)) 30 0 25) + 1))))))) ∧ (¬ x2 = 0 → (Kf M1)))))) : zAt l G Y_X9_readsOrder (zEV G Y_X9_readsOrder Kf) 153 [(0, vr 30 0)] [vi s0, vr 30 0] M 0 0 := by
  refine Z_iconst (v := 5) (by decide) dX9_readsOrder_153 ?_
  refine Z_callVI (as := [vi s0, vi 5]) zRm_M zcv_X9_readsOrder_X9_wrong_229 (ci := 13) rfl rfl rfl rfl (zle rfl) dX9_readsOrder_154 ⟨Nat.le_refl _, Nat.le_refl _⟩ h (fun x2 M1 h => ?_)
  refine Z_if_eq (tgt := 161) dX9_readsOrder_157 (by decide) (fun q => ?_) (fun q => ?_)
  · have h := h.1 q
    refine Z_aload_n dX9_readsOrder_161 rfl 0 rfl ?_
    refine Z_bipush (v := 40) (by decide) dX9_readsOrder_162 ?_
    refine Z_callVV (as := [vi 40]) zRm_M zcv_X9_readsOrder_X9_takesSign_329 (ci := 13) rfl rfl rfl rfl (zle rfl) dX9_readsOrder_164 ⟨Nat.le_refl _, Nat.le_refl _⟩ h (fun M3 h => ?_)
    refine Z_aload_n dX9_readsOrder_167 rfl 0 rfl ?_
    refine Z_getR (s1 := 42) (i1 := 0) zfl_X9_48 rfl (fun q => by first | exact q | decide) dX9_readsOrder_168 ?_
    refine Z_aload_n dX9_readsOrder_171 rfl 0 rfl ?_
    refine Z_getI zfl_X9_332 dX9_readsOrder_172 ?_
    refine Z_iconst (v := 1) (by decide) dX9_readsOrder_175 ?_
    refine Z_mmin zw_1850 zw_797 zw_129 zw_798 zRm_M (by decide) (zle rfl) (Nat.zero_le _) (Nat.zero_le _) dX9_readsOrder_176 ?_
    refine Z_aload_n dX9_readsOrder_179 rfl 0 rfl ?_
    refine Z_getI zfl_X9_320 dX9_readsOrder_180 ?_
    obtain ⟨g4, h⟩ := h
    refine Z_iast (n := 2) rfl g4 dX9_readsOrder_183 ?_
    refine Z_aload_n dX9_readsOrder_184 rfl 0 rfl ?_
    refine Z_dup rfl dX9_readsOrder_185 ?_
    refine Z_getI zfl_X9_332 dX9_readsOrder_186 ?_
    refine Z_iconst (v := 1) (by decide) dX9_readsOrder_189 ?_
    refine Z_iadd dX9_readsOrder_190 ?_
    refine Z_putI zfp_X9_332 rfl rfl dX9_readsOrder_191 ?_
    refine Z_aload_n dX9_readsOrder_194 rfl 0 rfl ?_
    refine Z_dup rfl dX9_readsOrder_195 ?_
    refine Z_getI zfl_X9_320 dX9_readsOrder_196 ?_
    refine Z_iconst (v := 1) (by decide) dX9_readsOrder_199 ?_
    refine Z_iadd dX9_readsOrder_200 ?_
    refine Z_putI zfp_X9_320 rfl rfl dX9_readsOrder_201 ?_
    exact Z_vret rfl dX9_readsOrder_204 (Nat.le_refl _) (Nat.le_refl _) ⟨rfl, h⟩
  · have h := h.2 q
    exact Z_vret rfl dX9_readsOrder_160 (Nat.le_refl _) (Nat.le_refl _) ⟨rfl, h⟩
-- X9_arrives
set_option maxRecDepth 100000 in
set_option maxHeartbeats 4000000 in
theorem zm_X9_arrives {l : Launch} {G : zG} {p1 : Int32} {M : zM} {Kf : Int32 → zM → Prop} (h : (zCalV l G Y_X9_counts 0 0 [vr 30 0, vi p1, vi 0, vi 1] M (fun M1 => (zCalI l G Y_X9_moved 0 0 [vr 30 0, vi (zmI M1 31 0 9), vi (zmI M1 31 0 8)] M1 (fun x5 M4 => (zCalI l G Y_X9_howOf 0 0 [vr 30 0, vi (zmI (zsI M4 31 0 9 x5) 31 0 9), vi (zmI (zsI M4 31 0 9 x5) 31 0 8)] (zsI M4 31 0 9 x5) (fun x10 M9 => (((zmI M9 30 0 8) = 0 → zAt l G Y_X9_arrives (zEI G Y_X9_arrives Kf) 70 [(0, vr 30 0), (1, vi p1), (2, vi x10)] [] M9 0 0) ∧ (¬ (zmI M9 30 0 8) = 0 → ((x10 = 0 → zAt l G Y_X9_arrives (zEI G Y_X9_arrives Kf) 70 [(0, vr 30 0), (1, vi p1), (2, vi x10)] [] M9 0 0) ∧ (¬ x10 = 0 → (zCalV l G Y_X9_letsIn 0 0 [vr 30 0, vi p1, vi 0] M9 (fun M11 => (Kf 0 M11)))))))))))))) : zCalI l G Y_X9_arrives 0 0 [vr 30 0, vi p1] M Kf := by
  refine zCal_of (lv := [(0, vr 30 0), (1, vi p1)]) (by decide) rfl (zle rfl) rfl (fun hv => zlv_args (lv := [(0, vr 30 0), (1, vi p1)]) rfl hv) ?_
  refine Z_aload_n dX9_arrives_0 rfl 0 rfl ?_
  refine Z_iload_n dX9_arrives_1 rfl 1 rfl ?_
  refine Z_iconst (v := 0) (by decide) dX9_arrives_2 ?_
  refine Z_iconst (v := 1) (by decide) dX9_arrives_3 ?_
  refine Z_callVV (as := [vi p1, vi 0, vi 1]) zRm_M zcv_X9_arrives_X9_counts_103 (ci := 13) rfl rfl rfl rfl (zle rfl) dX9_arrives_4 ⟨Nat.le_refl _, Nat.le_refl _⟩ h (fun M1 h => ?_)
  refine Z_aload_n dX9_arrives_7 rfl 0 rfl ?_
  refine Z_getR (s1 := 31) (i1 := 0) zfl_X9_9 rfl (fun q => by first | exact q | decide) dX9_arrives_8 ?_
  refine Z_bipush (v := 9) (by decide) dX9_arrives_11 ?_
  refine Z_aload_n dX9_arrives_13 rfl 0 rfl ?_
  refine Z_aload_n dX9_arrives_14 rfl 0 rfl ?_
  refine Z_getR (s1 := 31) (i1 := 0) zfl_X9_9 rfl (fun q => by first | exact q | decide) dX9_arrives_15 ?_
  refine Z_bipush (v := 9) (by decide) dX9_arrives_18 ?_
  refine Z_ialdK (n := 484) (j := 9) rfl (by decide) (zvin (by decide)) dX9_arrives_20 ?_
  refine Z_aload_n dX9_arrives_21 rfl 0 rfl ?_
  refine Z_getR (s1 := 31) (i1 := 0) zfl_X9_9 rfl (fun q => by first | exact q | decide) dX9_arrives_22 ?_
  refine Z_bipush (v := 8) (by decide) dX9_arrives_25 ?_
  refine Z_ialdK (n := 484) (j := 8) rfl (by decide) (zvin (by decide)) dX9_arrives_27 ?_
  refine Z_callVI (as := [vi (zmI M1 31 0 9), vi (zmI M1 31 0 8)]) zRm_M zcv_X9_arrives_X9_moved_106 (ci := 13) rfl rfl rfl rfl (zle rfl) dX9_arrives_28 ⟨Nat.le_refl _, Nat.le_refl _⟩ h (fun x5 M4 h => ?_)
  refine Z_iastK (n := 484) (j := 9) rfl (by decide) (zvin (by decide)) dX9_arrives_31 ?_
  refine Z_aload_n dX9_arrives_32 rfl 0 rfl ?_
  refine Z_aload_n dX9_arrives_33 rfl 0 rfl ?_
  refine Z_getR (s1 := 31) (i1 := 0) zfl_X9_9 rfl (fun q => by first | exact q | decide) dX9_arrives_34 ?_
  refine Z_bipush (v := 9) (by decide) dX9_arrives_37 ?_
  refine Z_ialdK (n := 484) (j := 9) rfl (by decide) (zvin (by decide)) dX9_arrives_39 ?_
  refine Z_aload_n dX9_arrives_40 rfl 0 rfl ?_
  refine Z_getR (s1 := 31) (i1 := 0) zfl_X9_9 rfl (fun q => by first | exact q | decide) dX9_arrives_41 ?_
  refine Z_bipush (v := 8) (by decide) dX9_arrives_44 ?_
  refine Z_ialdK (n := 484) (j := 8) rfl (by decide) (zvin (by decide)) dX9_arrives_46 ?_
  refine Z_callVI (as := [vi (zmI (zsI M4 31 0 9 x5) 31 0 9), vi (zmI (zsI M4 31 0 9 x5) 31 0 8)]) zRm_M zcv_X9_arrives_X9_howOf_109 (ci := 13) rfl rfl rfl rfl (zle rfl) dX9_arrives_47 ⟨Nat.le_refl _, Nat.le_refl _⟩ h (fun x10 M9 h => ?_)
  refine Z_istore_n (lv2 := [(2, vi x10), (0, vr 30 0), (1, vi p1)]) dX9_arrives_50 rfl (by decide) rfl ?_
  refine Z_aload_n dX9_arrives_51 rfl 1 rfl ?_
  refine Z_getI zfl_X9_112 dX9_arrives_52 ?_
  refine Z_if_eq (tgt := 70) dX9_arrives_55 (by decide) (fun q => ?_) (fun q => ?_)
  · have h := h.1 q
    exact Z_pick [1, 2, 0] rfl h
  · have h := h.2 q
    refine Z_iload_n dX9_arrives_58 rfl 0 rfl ?_
    refine Z_if_eq (tgt := 70) dX9_arrives_59 (by decide) (fun q => ?_) (fun q => ?_)
    · have h := h.1 q
      exact Z_pick [1, 2, 0] rfl h
    · have h := h.2 q
      refine Z_aload_n dX9_arrives_62 rfl 1 rfl ?_
      refine Z_iload_n dX9_arrives_63 rfl 2 rfl ?_
      refine Z_iconst (v := 0) (by decide) dX9_arrives_64 ?_
      refine Z_callVV (as := [vi p1, vi 0]) zRm_M zcv_X9_arrives_X9_letsIn_116 (ci := 13) rfl rfl rfl rfl (zle rfl) dX9_arrives_65 ⟨Nat.le_refl _, Nat.le_refl _⟩ h (fun M11 h => ?_)
      refine Z_iconst (v := 0) (by decide) dX9_arrives_68 ?_
      exact Z_iret rfl rfl dX9_arrives_69 (Nat.le_refl _) (Nat.le_refl _) ⟨_, rfl, h⟩
set_option maxRecDepth 100000 in
set_option maxHeartbeats 4000000 in
theorem zb_X9_arrives_70 {l : Launch} {G : zG} {y1 : Int32} {y2 : Int32} {M : zM} {Kf : Int32 → zM → Prop} (h : ((y2 = 3 → (zCalL l G Y_X9_baseOf 0 0 [vr 30 0, vi (zmI (zsI M 31 0 10 ((zmI M 31 0 10) + 1)) 31 0 9)] (zsI M 31 0 10 ((zmI M 31 0 10) + 1)) (fun x6 M5 => (zCalI l G Y_X9_chanceOf 0 0 [vl x6, vi (zmI (zsI M 31 0 10 ((zmI M 31 0 10) + 1)) 31 0 10)] M5 (fun x8 M7 => (zCalI l G Y_X9_draws 0 0 [vr 30 0] M7 (fun x10 M9 => (zCalI l G Y_X9_between 0 0 [vr 30 0, vi y1, vi x8, vi x10] M9 (fun x12 M11 => (zCalV l G Y_X9_keeps 0 0 [vr 30 0, vi y1, vi y2, vi (zmI (zsI M 31 0 10 ((zmI M 31 0 10) + 1)) 31 0 10), vi x8, vi x10, vi x12] M11 (fun M13 => ((¬ x12 = 2 → ((¬ x12 = 1 → zAt l G Y_X9_arrives (zEI G Y_X9_arrives Kf) 246 [(0, vr 30 0), (1, vi y1), (6, vi x12)] [] M13 0 0) ∧ (x12 = 1 → (zCalV l G Y_X9_drops 0 0 [vr 30 0, vi y1, vi 1] M13 (fun M14 => zAt l G Y_X9_arrives (zEI G Y_X9_arrives Kf) 246 [(0, vr 30 0), (1, vi y1), (6, vi x12)] [] M14 0 0))))) ∧ (x12 = 2 → (zCalV l G Y_X9_drops 0 0 [vr 30 0, vi y1, vi 2] M13 (fun M15 => (Kf x12 M15)))))))))))))))) ∧ (¬ y2 = 3 → ((¬ y2 = 1 → zAt l G Y_X9_arrives (zEI G Y_X9_arrives Kf) 91 [(0, vr 30 0), (1, vi y1), (2, vi y2)] [vi 0, vi 10, vr 31 0] M 0 0) ∧ (y2 = 1 → zAt l G Y_X9_arrives (zEI G Y_X9_arrives Kf) 91 [(0, vr 30 0), (1, vi y1), (2, vi y2)] [vi (-1), vi 10, vr 31 0] M 0 0))))) : zAt l G Y_X9_arrives (zEI G Y_X9_arrives Kf) 70 [(0, vr 30 0), (1, vi y1), (2, vi y2)] [] M 0 0 := by
  refine Z_iload_n dX9_arrives_70 rfl 2 rfl ?_
  refine Z_iconst (v := 3) (by decide) dX9_arrives_71 ?_
  refine Z_icmp_eq (tgt := 153) dX9_arrives_72 (by decide) (fun q => ?_) (fun q => ?_)
  · have h := h.1 q
    refine Z_aload_n dX9_arrives_153 rfl 0 rfl ?_
    refine Z_getR (s1 := 31) (i1 := 0) zfl_X9_9 rfl (fun q => by first | exact q | decide) dX9_arrives_154 ?_
    refine Z_bipush (v := 10) (by decide) dX9_arrives_157 ?_
    refine Z_dup2 rfl rfl dX9_arrives_159 ?_
    refine Z_ialdK (n := 484) (j := 10) rfl (by decide) (zvin (by decide)) dX9_arrives_160 ?_
    refine Z_iconst (v := 1) (by decide) dX9_arrives_161 ?_
    refine Z_iadd dX9_arrives_162 ?_
    refine Z_iastK (n := 484) (j := 10) rfl (by decide) (zvin (by decide)) dX9_arrives_163 ?_
    refine Z_aload_n dX9_arrives_164 rfl 0 rfl ?_
    refine Z_getR (s1 := 31) (i1 := 0) zfl_X9_9 rfl (fun q => by first | exact q | decide) dX9_arrives_165 ?_
    refine Z_bipush (v := 10) (by decide) dX9_arrives_168 ?_
    refine Z_ialdK (n := 484) (j := 10) rfl (by decide) (zvin (by decide)) dX9_arrives_170 ?_
    refine Z_istore_n (lv2 := [(3, vi (zmI (zsI M 31 0 10 ((zmI M 31 0 10) + 1)) 31 0 10)), (0, vr 30 0), (1, vi y1), (2, vi y2)]) dX9_arrives_171 rfl (by decide) rfl ?_
    refine Z_aload_n dX9_arrives_172 rfl 1 rfl ?_
    refine Z_aload_n dX9_arrives_173 rfl 1 rfl ?_
    refine Z_getR (s1 := 31) (i1 := 0) zfl_X9_9 rfl (fun q => by first | exact q | decide) dX9_arrives_174 ?_
    refine Z_bipush (v := 9) (by decide) dX9_arrives_177 ?_
    refine Z_ialdK (n := 484) (j := 9) rfl (by decide) (zvin (by decide)) dX9_arrives_179 ?_
    refine Z_callVL (as := [vi (zmI (zsI M 31 0 10 ((zmI M 31 0 10) + 1)) 31 0 9)]) zRm_M zcv_X9_arrives_X9_baseOf_128 (ci := 13) rfl rfl rfl rfl (zle rfl) dX9_arrives_180 ⟨Nat.le_refl _, Nat.le_refl _⟩ h (fun x6 M5 h => ?_)
    refine Z_iload_n dX9_arrives_183 rfl 0 rfl ?_
    refine Z_callSI (as := [vl x6, vi (zmI (zsI M 31 0 10 ((zmI M 31 0 10) + 1)) 31 0 10)]) zRm_M zcs_X9_arrives_X9_chanceOf_132 rfl rfl (zle rfl) dX9_arrives_184 ⟨Nat.le_refl _, Nat.le_refl _⟩ h (fun x8 M7 h => ?_)
    refine Z_istore (lv2 := [(4, vi x8), (3, vi (zmI (zsI M 31 0 10 ((zmI M 31 0 10) + 1)) 31 0 10)), (0, vr 30 0), (1, vi y1), (2, vi y2)]) dX9_arrives_187 (by decide) rfl ?_
    refine Z_aload_n dX9_arrives_189 rfl 2 rfl ?_
    refine Z_callVI (as := []) zRm_M zcv_X9_arrives_X9_draws_136 (ci := 13) rfl rfl rfl rfl (zle rfl) dX9_arrives_190 ⟨Nat.le_refl _, Nat.le_refl _⟩ h (fun x10 M9 h => ?_)
    refine Z_istore (lv2 := [(5, vi x10), (4, vi x8), (3, vi (zmI (zsI M 31 0 10 ((zmI M 31 0 10) + 1)) 31 0 10)), (0, vr 30 0), (1, vi y1), (2, vi y2)]) dX9_arrives_193 (by decide) rfl ?_
    refine Z_aload_n dX9_arrives_195 rfl 3 rfl ?_
    refine Z_iload_n dX9_arrives_196 rfl 4 rfl ?_
    refine Z_iload dX9_arrives_197 1 rfl ?_
    refine Z_iload dX9_arrives_199 0 rfl ?_
    refine Z_callVI (as := [vi y1, vi x8, vi x10]) zRm_M zcv_X9_arrives_X9_between_139 (ci := 13) rfl rfl rfl rfl (zle rfl) dX9_arrives_201 ⟨Nat.le_refl _, Nat.le_refl _⟩ h (fun x12 M11 h => ?_)
    refine Z_istore (lv2 := [(6, vi x12), (5, vi x10), (4, vi x8), (3, vi (zmI (zsI M 31 0 10 ((zmI M 31 0 10) + 1)) 31 0 10)), (0, vr 30 0), (1, vi y1), (2, vi y2)]) dX9_arrives_204 (by decide) rfl ?_
    refine Z_aload_n dX9_arrives_206 rfl 4 rfl ?_
    refine Z_iload_n dX9_arrives_207 rfl 5 rfl ?_
    refine Z_iload_n dX9_arrives_208 rfl 6 rfl ?_
    refine Z_iload_n dX9_arrives_209 rfl 3 rfl ?_
    refine Z_iload dX9_arrives_210 2 rfl ?_
    refine Z_iload dX9_arrives_212 1 rfl ?_
    refine Z_iload dX9_arrives_214 0 rfl ?_
    refine Z_callVV (as := [vi y1, vi y2, vi (zmI (zsI M 31 0 10 ((zmI M 31 0 10) + 1)) 31 0 10), vi x8, vi x10, vi x12]) zRm_M zcv_X9_arrives_X9_keeps_120 (ci := 13) rfl rfl rfl rfl (zle rfl) dX9_arrives_216 ⟨Nat.le_refl _, Nat.le_refl _⟩ h (fun M13 h => ?_)
    refine Z_iload dX9_arrives_219 0 rfl ?_
    refine Z_iconst (v := 2) (by decide) dX9_arrives_221 ?_
    refine Z_icmp_ne (tgt := 234) dX9_arrives_222 (by decide) (fun q => ?_) (fun q => ?_)
    · have h := h.1 q
      refine Z_iload dX9_arrives_234 0 rfl ?_
      refine Z_iconst (v := 1) (by decide) dX9_arrives_236 ?_
      refine Z_icmp_ne (tgt := 246) dX9_arrives_237 (by decide) (fun q => ?_) (fun q => ?_)
      · have h := h.1 q
        exact Z_pick [4, 5, 0] rfl h
      · have h := h.2 q
        refine Z_aload_n dX9_arrives_240 rfl 4 rfl ?_
        refine Z_iload_n dX9_arrives_241 rfl 5 rfl ?_
        refine Z_iconst (v := 1) (by decide) dX9_arrives_242 ?_
        refine Z_callVV (as := [vi y1, vi 1]) zRm_M zcv_X9_arrives_X9_drops_124 (ci := 13) rfl rfl rfl rfl (zle rfl) dX9_arrives_243 ⟨Nat.le_refl _, Nat.le_refl _⟩ h (fun M14 h => ?_)
        exact Z_pick [4, 5, 0] rfl h
    · have h := h.2 q
      refine Z_aload_n dX9_arrives_225 rfl 4 rfl ?_
      refine Z_iload_n dX9_arrives_226 rfl 5 rfl ?_
      refine Z_iconst (v := 2) (by decide) dX9_arrives_227 ?_
      refine Z_callVV (as := [vi y1, vi 2]) zRm_M zcv_X9_arrives_X9_drops_124 (ci := 13) rfl rfl rfl rfl (zle rfl) dX9_arrives_228 ⟨Nat.le_refl _, Nat.le_refl _⟩ h (fun M15 h => ?_)
      refine Z_iload dX9_arrives_231 0 rfl ?_
      exact Z_iret rfl rfl dX9_arrives_233 (Nat.le_refl _) (Nat.le_refl _) ⟨_, rfl, h⟩
  · have h := h.2 q
    refine Z_aload_n dX9_arrives_75 rfl 0 rfl ?_
    refine Z_getR (s1 := 31) (i1 := 0) zfl_X9_9 rfl (fun q => by first | exact q | decide) dX9_arrives_76 ?_
    refine Z_bipush (v := 10) (by decide) dX9_arrives_79 ?_
    refine Z_iload_n dX9_arrives_81 rfl 2 rfl ?_
    refine Z_iconst (v := 1) (by decide) dX9_arrives_82 ?_
    refine Z_icmp_ne (tgt := 90) dX9_arrives_83 (by decide) (fun q => ?_) (fun q => ?_)
    · have h := h.1 q
      refine Z_iconst (v := 0) (by decide) dX9_arrives_90 ?_
      exact h
    · have h := h.2 q
      refine Z_iconst (v := (-1)) (by decide) dX9_arrives_86 ?_
      refine Z_goto (tgt := 91) dX9_arrives_87 (by decide) ?_
      exact h
set_option maxRecDepth 100000 in
set_option maxHeartbeats 4000000 in
theorem zb_X9_arrives_246 {l : Launch} {G : zG} {y1 : Int32} {y6 : Int32} {M : zM} {Kf : Int32 → zM → Prop} (h : ((¬ y6 = 1 → zAt l G Y_X9_arrives (zEI G Y_X9_arrives Kf) 259 [(6, vi y6)] [vi 0, vi y1, vr 30 0] M 0 0) ∧ (y6 = 1 → zAt l G Y_X9_arrives (zEI G Y_X9_arrives Kf) 259 [(6, vi y6)] [vi 1, vi y1, vr 30 0] M 0 0))) : zAt l G Y_X9_arrives (zEI G Y_X9_arrives Kf) 246 [(0, vr 30 0), (1, vi y1), (6, vi y6)] [] M 0 0 := by
  refine Z_aload_n dX9_arrives_246 rfl 0 rfl ?_
  refine Z_iload_n dX9_arrives_247 rfl 1 rfl ?_
  refine Z_iload dX9_arrives_248 2 rfl ?_
  refine Z_iconst (v := 1) (by decide) dX9_arrives_250 ?_
  refine Z_icmp_ne (tgt := 258) dX9_arrives_251 (by decide) (fun q => ?_) (fun q => ?_)
  · have h := h.1 q
    refine Z_iconst (v := 0) (by decide) dX9_arrives_258 ?_
    exact Z_pick [2] rfl h
  · have h := h.2 q
    refine Z_iconst (v := 1) (by decide) dX9_arrives_254 ?_
    refine Z_goto (tgt := 259) dX9_arrives_255 (by decide) ?_
    exact Z_pick [2] rfl h
set_option maxRecDepth 100000 in
set_option maxHeartbeats 4000000 in
theorem zb_X9_arrives_91 {l : Launch} {G : zG} {y1 : Int32} {y2 : Int32} {s0 : Int32} {s1 : Int32} {M : zM} {Kf : Int32 → zM → Prop} (h : (vp_in s1 484 ∧ ((¬ y2 = 1 → zAt l G Y_X9_arrives (zEI G Y_X9_arrives Kf) 102 [(0, vr 30 0), (1, vi y1), (2, vi y2)] [vi 2] (zsI M 31 0 s1.toNatClampNeg s0) 0 0) ∧ (y2 = 1 → zAt l G Y_X9_arrives (zEI G Y_X9_arrives Kf) 102 [(0, vr 30 0), (1, vi y1), (2, vi y2)] [vi 0] (zsI M 31 0 s1.toNatClampNeg s0) 0 0)))) : zAt l G Y_X9_arrives (zEI G Y_X9_arrives Kf) 91 [(0, vr 30 0), (1, vi y1), (2, vi y2)] [vi s0, vi s1, vr 31 0] M 0 0 := by
  obtain ⟨g1, h⟩ := h
  refine Z_iast (n := 484) rfl g1 dX9_arrives_91 ?_
  refine Z_iload_n dX9_arrives_92 rfl 2 rfl ?_
  refine Z_iconst (v := 1) (by decide) dX9_arrives_93 ?_
  refine Z_icmp_ne (tgt := 101) dX9_arrives_94 (by decide) (fun q => ?_) (fun q => ?_)
  · have h := h.1 q
    refine Z_iconst (v := 2) (by decide) dX9_arrives_101 ?_
    exact h
  · have h := h.2 q
    refine Z_iconst (v := 0) (by decide) dX9_arrives_97 ?_
    refine Z_goto (tgt := 102) dX9_arrives_98 (by decide) ?_
    exact h
set_option maxRecDepth 100000 in
set_option maxHeartbeats 4000000 in
theorem zb_X9_arrives_259 {l : Launch} {G : zG} {y6 : Int32} {s0 : Int32} {s1 : Int32} {M : zM} {Kf : Int32 → zM → Prop} (h : (zCalV l G Y_X9_letsIn 0 0 [vr 30 0, vi s1, vi s0] M (fun M1 => (Kf y6 M1)))) : zAt l G Y_X9_arrives (zEI G Y_X9_arrives Kf) 259 [(6, vi y6)] [vi s0, vi s1, vr 30 0] M 0 0 := by
  refine Z_callVV (as := [vi s1, vi s0]) zRm_M zcv_X9_arrives_X9_letsIn_116 (ci := 13) rfl rfl rfl rfl (zle rfl) dX9_arrives_259 ⟨Nat.le_refl _, Nat.le_refl _⟩ h (fun M1 h => ?_)
  refine Z_iload dX9_arrives_262 0 rfl ?_
  exact Z_iret rfl rfl dX9_arrives_264 (Nat.le_refl _) (Nat.le_refl _) ⟨_, rfl, h⟩
set_option maxRecDepth 100000 in
set_option maxHeartbeats 4000000 in
theorem zb_X9_arrives_102 {l : Launch} {G : zG} {y1 : Int32} {y2 : Int32} {s0 : Int32} {M : zM} {Kf : Int32 → zM → Prop} (h : ((¬ y2 = 1 → zAt l G Y_X9_arrives (zEI G Y_X9_arrives Kf) 118 [(0, vr 30 0), (1, vi y1), (2, vi y2), (3, vi s0)] [vi 65536, vi 0, vi y2, vi y1, vr 30 0] M 0 0) ∧ (y2 = 1 → zAt l G Y_X9_arrives (zEI G Y_X9_arrives Kf) 118 [(0, vr 30 0), (1, vi y1), (2, vi y2), (3, vi s0)] [vi 0, vi 0, vi y2, vi y1, vr 30 0] M 0 0))) : zAt l G Y_X9_arrives (zEI G Y_X9_arrives Kf) 102 [(0, vr 30 0), (1, vi y1), (2, vi y2)] [vi s0] M 0 0 := by
  refine Z_istore_n (lv2 := [(3, vi s0), (0, vr 30 0), (1, vi y1), (2, vi y2)]) dX9_arrives_102 rfl (by decide) rfl ?_
  refine Z_aload_n dX9_arrives_103 rfl 1 rfl ?_
  refine Z_iload_n dX9_arrives_104 rfl 2 rfl ?_
  refine Z_iload_n dX9_arrives_105 rfl 3 rfl ?_
  refine Z_iconst (v := 0) (by decide) dX9_arrives_106 ?_
  refine Z_iload_n dX9_arrives_107 rfl 3 rfl ?_
  refine Z_iconst (v := 1) (by decide) dX9_arrives_108 ?_
  refine Z_icmp_ne (tgt := 116) dX9_arrives_109 (by decide) (fun q => ?_) (fun q => ?_)
  · have h := h.1 q
    refine Z_ldc (v := 65536) zw_1775 dX9_arrives_116 ?_
    exact Z_pick [1, 2, 3, 0] rfl h
  · have h := h.2 q
    refine Z_iconst (v := 0) (by decide) dX9_arrives_112 ?_
    refine Z_goto (tgt := 118) dX9_arrives_113 (by decide) ?_
    exact Z_pick [1, 2, 3, 0] rfl h
set_option maxRecDepth 100000 in
set_option maxHeartbeats 4000000 in
theorem zb_X9_arrives_118 {l : Launch} {G : zG} {y1 : Int32} {y2 : Int32} {y3 : Int32} {s0 : Int32} {s1 : Int32} {s2 : Int32} {s3 : Int32} {M : zM} {Kf : Int32 → zM → Prop} (h : (zCalV l G Y_X9_keeps 0 0 [vr 30 0, vi s3, vi s2, vi s1, vi s0, vi (-1), vi y3] M (fun M1 => ((¬ y2 = 1 → ((¬ y2 = 0 → zAt l G Y_X9_arrives (zEI G Y_X9_arrives Kf) 148 [(3, vi y3)] [vi 3, vi y1, vr 30 0] M1 0 0) ∧ (y2 = 0 → zAt l G Y_X9_arrives (zEI G Y_X9_arrives Kf) 148 [(3, vi y3)] [vi 4, vi y1, vr 30 0] M1 0 0))) ∧ (y2 = 1 → (zCalV l G Y_X9_letsIn 0 0 [vr 30 0, vi y1, vi 0] M1 (fun M2 => (Kf y3 M2)))))))) : zAt l G Y_X9_arrives (zEI G Y_X9_arrives Kf) 118 [(0, vr 30 0), (1, vi y1), (2, vi y2), (3, vi y3)] [vi s0, vi s1, vi s2, vi s3, vr 30 0] M 0 0 := by
  refine Z_iconst (v := (-1)) (by decide) dX9_arrives_118 ?_
  refine Z_iload_n dX9_arrives_119 rfl 3 rfl ?_
  refine Z_callVV (as := [vi s3, vi s2, vi s1, vi s0, vi (-1), vi y3]) zRm_M zcv_X9_arrives_X9_keeps_120 (ci := 13) rfl rfl rfl rfl (zle rfl) dX9_arrives_120 ⟨Nat.le_refl _, Nat.le_refl _⟩ h (fun M1 h => ?_)
  refine Z_iload_n dX9_arrives_123 rfl 2 rfl ?_
  refine Z_iconst (v := 1) (by decide) dX9_arrives_124 ?_
  refine Z_icmp_ne (tgt := 137) dX9_arrives_125 (by decide) (fun q => ?_) (fun q => ?_)
  · have h := h.1 q
    refine Z_aload_n dX9_arrives_137 rfl 0 rfl ?_
    refine Z_iload_n dX9_arrives_138 rfl 1 rfl ?_
    refine Z_iload_n dX9_arrives_139 rfl 2 rfl ?_
    refine Z_if_ne (tgt := 147) dX9_arrives_140 (by decide) (fun q => ?_) (fun q => ?_)
    · have h := h.1 q
      refine Z_iconst (v := 3) (by decide) dX9_arrives_147 ?_
      exact Z_pick [3] rfl h
    · have h := h.2 q
      refine Z_iconst (v := 4) (by decide) dX9_arrives_143 ?_
      refine Z_goto (tgt := 148) dX9_arrives_144 (by decide) ?_
      exact Z_pick [3] rfl h
  · have h := h.2 q
    refine Z_aload_n dX9_arrives_128 rfl 0 rfl ?_
    refine Z_iload_n dX9_arrives_129 rfl 1 rfl ?_
    refine Z_iconst (v := 0) (by decide) dX9_arrives_130 ?_
    refine Z_callVV (as := [vi y1, vi 0]) zRm_M zcv_X9_arrives_X9_letsIn_116 (ci := 13) rfl rfl rfl rfl (zle rfl) dX9_arrives_131 ⟨Nat.le_refl _, Nat.le_refl _⟩ h (fun M2 h => ?_)
    refine Z_goto (tgt := 151) dX9_arrives_134 (by decide) ?_
    refine Z_iload_n dX9_arrives_151 rfl 3 rfl ?_
    exact Z_iret rfl rfl dX9_arrives_152 (Nat.le_refl _) (Nat.le_refl _) ⟨_, rfl, h⟩
set_option maxRecDepth 100000 in
set_option maxHeartbeats 4000000 in
theorem zb_X9_arrives_148 {l : Launch} {G : zG} {y3 : Int32} {s0 : Int32} {s1 : Int32} {M : zM} {Kf : Int32 → zM → Prop} (h : (zCalV l G Y_X9_drops 0 0 [vr 30 0, vi s1, vi s0] M (fun M1 => (Kf y3 M1)))) : zAt l G Y_X9_arrives (zEI G Y_X9_arrives Kf) 148 [(3, vi y3)] [vi s0, vi s1, vr 30 0] M 0 0 := by
  refine Z_callVV (as := [vi s1, vi s0]) zRm_M zcv_X9_arrives_X9_drops_124 (ci := 13) rfl rfl rfl rfl (zle rfl) dX9_arrives_148 ⟨Nat.le_refl _, Nat.le_refl _⟩ h (fun M1 h => ?_)
  refine Z_iload_n dX9_arrives_151 rfl 0 rfl ?_
  exact Z_iret rfl rfl dX9_arrives_152 (Nat.le_refl _) (Nat.le_refl _) ⟨_, rfl, h⟩
