/-! printed by wip/whole/drive.py -/
abbrev Y_X9_chance : zY := (yX9_chance, cX9_chance, 3, (some .int), 18, [])
theorem zcs_X9_chance_X9_in_63 : zLS Y_X9_chance 63 Y_X9_in 3 := ⟨zw_1730, zw_1731, zw_124, zw_1732, by decide +kernel, by decide, by decide⟩
theorem zcv_X9_chance_X9_fails_366 : zLV Y_X9_chance 366 Y_X9_fails 2 RX9 := ⟨zw_1993, zw_1995, zw_88, zw_124, zw_1996, by decide +kernel, by decide, by decide⟩
theorem zcv_X9_chance_X9_baseOf_128 : zLV Y_X9_chance 128 Y_X9_baseOf 1 RX9 := ⟨zw_1944, zw_1946, zw_79, zw_124, zw_1947, by decide +kernel, by decide, by decide⟩
theorem zcs_X9_chance_X9_chanceOf_132 : zLS Y_X9_chance 132 Y_X9_chanceOf 2 := ⟨zw_1949, zw_1950, zw_124, zw_1951, by decide +kernel, by decide, by decide⟩
abbrev Y_X9_chanceBy : zY := (yX9_chanceBy, cX9_chanceBy, 5, (some .int), 18, [])
theorem zcv_X9_chanceBy_X9_howOf_109 : zLV Y_X9_chanceBy 109 Y_X9_howOf 2 RX9 := ⟨zw_1916, zw_1918, zw_72, zw_124, zw_1919, by decide +kernel, by decide, by decide⟩
theorem zcv_X9_chanceBy_X9_baseOf_128 : zLV Y_X9_chanceBy 128 Y_X9_baseOf 1 RX9 := ⟨zw_1944, zw_1946, zw_79, zw_124, zw_1947, by decide +kernel, by decide, by decide⟩
theorem zcs_X9_chanceBy_X9_chanceOf_132 : zLS Y_X9_chanceBy 132 Y_X9_chanceOf 2 := ⟨zw_1949, zw_1950, zw_124, zw_1951, by decide +kernel, by decide, by decide⟩
abbrev Y_X9_script : zY := (yX9_script, cX9_script, 2, none, 18, [])
theorem zcv_X9_script_X9_advance_233 : zLV Y_X9_script 233 Y_X9_advance 0 RX9 := ⟨zw_1718, zw_1720, zw_30, zw_124, zw_1721, by decide +kernel, by decide, by decide⟩
theorem zw_1821 : Cond.methodLink RX9 335 yX9_readsOrder ∈ zAll := zin 1821 (by decide +kernel) (by decide +kernel)
theorem zw_1824 : Cond.code yX9_readsOrder cX9_readsOrder 2 none ∈ zAll := zin 1824 (by decide +kernel) (by decide +kernel)
theorem zw_1823 : Cond.instanceMethod yX9_readsOrder ∈ zAll := zin 1823 (by decide +kernel) (by decide +kernel)
theorem zw_50 : Cond.selects RX9 yX9_readsOrder yX9_readsOrder ∈ zAll := zin 50 (by decide +kernel) (by decide +kernel)
theorem zcv_X9_script_X9_readsOrder_335 : zLV Y_X9_script 335 Y_X9_readsOrder 0 RX9 := ⟨zw_1821, zw_1823, zw_50, zw_124, zw_1824, by decide +kernel, by decide, by decide⟩
theorem zw_1851 : Cond.methodLink RX9 338 yX9_closes ∈ zAll := zin 1851 (by decide +kernel) (by decide +kernel)
theorem zw_1854 : Cond.code yX9_closes cX9_closes 1 none ∈ zAll := zin 1854 (by decide +kernel) (by decide +kernel)
theorem zw_1853 : Cond.instanceMethod yX9_closes ∈ zAll := zin 1853 (by decide +kernel) (by decide +kernel)
theorem zw_56 : Cond.selects RX9 yX9_closes yX9_closes ∈ zAll := zin 56 (by decide +kernel) (by decide +kernel)
theorem zcv_X9_script_X9_closes_338 : zLV Y_X9_script 338 Y_X9_closes 0 RX9 := ⟨zw_1851, zw_1853, zw_56, zw_124, zw_1854, by decide +kernel, by decide, by decide⟩
theorem zcv_X9_script_X9_wrong_229 : zLV Y_X9_script 229 Y_X9_wrong 2 RX9 := ⟨zw_1749, zw_1751, zw_36, zw_124, zw_1752, by decide +kernel, by decide, by decide⟩
abbrev Y_X9_arriveMany : zY := (yX9_arriveMany, cX9_arriveMany, 5, (some .int), 19, [])
theorem zw_1904 : Cond.methodLink RX9 143 yX9_arrives ∈ zAll := zin 1904 (by decide +kernel) (by decide +kernel)
theorem zw_1907 : Cond.code yX9_arrives cX9_arrives 7 (some .int) ∈ zAll := zin 1907 (by decide +kernel) (by decide +kernel)
theorem zw_1906 : Cond.instanceMethod yX9_arrives ∈ zAll := zin 1906 (by decide +kernel) (by decide +kernel)
theorem zw_69 : Cond.selects RX9 yX9_arrives yX9_arrives ∈ zAll := zin 69 (by decide +kernel) (by decide +kernel)
theorem zcv_X9_arriveMany_X9_arrives_143 : zLV Y_X9_arriveMany 143 Y_X9_arrives 1 RX9 := ⟨zw_1904, zw_1906, zw_69, zw_124, zw_1907, by decide +kernel, by decide, by decide⟩
theorem zcs_X9_arriveMany_X9_one_99 : zLS Y_X9_arriveMany 99 Y_X9_one 1 := ⟨zw_1696, zw_1697, zw_124, zw_1698, by decide +kernel, by decide, by decide⟩
abbrev Y_X9_burstOf : zY := (yX9_burstOf, cX9_burstOf, 9, (some .double), 19, [])
theorem zcv_X9_burstOf_X9_moved_106 : zLV Y_X9_burstOf 106 Y_X9_moved 2 RX9 := ⟨zw_1912, zw_1914, zw_71, zw_124, zw_1915, by decide +kernel, by decide, by decide⟩
theorem zw_2091 : Cond.methodLink RX9 399 yX9_chanceBy ∈ zAll := zin 2091 (by decide +kernel) (by decide +kernel)
theorem zw_2094 : Cond.code yX9_chanceBy cX9_chanceBy 5 (some .int) ∈ zAll := zin 2094 (by decide +kernel) (by decide +kernel)
theorem zw_2093 : Cond.instanceMethod yX9_chanceBy ∈ zAll := zin 2093 (by decide +kernel) (by decide +kernel)
theorem zw_98 : Cond.selects RX9 yX9_chanceBy yX9_chanceBy ∈ zAll := zin 98 (by decide +kernel) (by decide +kernel)
theorem zcv_X9_burstOf_X9_chanceBy_399 : zLV Y_X9_burstOf 399 Y_X9_chanceBy 3 RX9 := ⟨zw_2091, zw_2093, zw_98, zw_124, zw_2094, by decide +kernel, by decide, by decide⟩
theorem zw_2103 : Cond.constantDouble RX9 402 4679240012837945344 ∈ zAll := zin 2103 (by decide +kernel) (by decide +kernel)
theorem zcv_X9_burstOf_X9_low_82 : zLV Y_X9_burstOf 82 Y_X9_low 0 RX9 := ⟨zw_1920, zw_1922, zw_73, zw_124, zw_1923, by decide +kernel, by decide, by decide⟩
abbrev Y_X9_nextChance : zY := (yX9_nextChance, cX9_nextChance, 1, (some .int), 19, [])
theorem zcv_X9_nextChance_X9_moved_106 : zLV Y_X9_nextChance 106 Y_X9_moved 2 RX9 := ⟨zw_1912, zw_1914, zw_71, zw_124, zw_1915, by decide +kernel, by decide, by decide⟩
theorem zcv_X9_nextChance_X9_chanceBy_399 : zLV Y_X9_nextChance 399 Y_X9_chanceBy 3 RX9 := ⟨zw_2091, zw_2093, zw_98, zw_124, zw_2094, by decide +kernel, by decide, by decide⟩
abbrev Y_X9_burst : zY := (yX9_burst, cX9_burst, 2, (some .double), 20, [])
theorem zcs_X9_burst_X9_in_63 : zLS Y_X9_burst 63 Y_X9_in 3 := ⟨zw_1730, zw_1731, zw_124, zw_1732, by decide +kernel, by decide, by decide⟩
theorem zcv_X9_burst_X9_fails_366 : zLV Y_X9_burst 366 Y_X9_fails 2 RX9 := ⟨zw_1993, zw_1995, zw_88, zw_124, zw_1996, by decide +kernel, by decide, by decide⟩
theorem zw_2099 : Cond.methodLink RX9 404 yX9_burstOf ∈ zAll := zin 2099 (by decide +kernel) (by decide +kernel)
theorem zw_2102 : Cond.code yX9_burstOf cX9_burstOf 9 (some .double) ∈ zAll := zin 2102 (by decide +kernel) (by decide +kernel)
theorem zw_2101 : Cond.instanceMethod yX9_burstOf ∈ zAll := zin 2101 (by decide +kernel) (by decide +kernel)
theorem zw_99 : Cond.selects RX9 yX9_burstOf yX9_burstOf ∈ zAll := zin 99 (by decide +kernel) (by decide +kernel)
theorem zcv_X9_burst_X9_burstOf_404 : zLV Y_X9_burst 404 Y_X9_burstOf 1 RX9 := ⟨zw_2099, zw_2101, zw_99, zw_124, zw_2102, by decide +kernel, by decide, by decide⟩
abbrev Y_X9_send : zY := (yX9_send, cX9_send, 3, (some .int), 20, [])
theorem zcv_X9_send_X9_noFlow_375 : zLV Y_X9_send 375 Y_X9_noFlow 1 RX9 := ⟨zw_2001, zw_2003, zw_89, zw_124, zw_2004, by decide +kernel, by decide, by decide⟩
theorem zcs_X9_send_X9_in_63 : zLS Y_X9_send 63 Y_X9_in 3 := ⟨zw_1730, zw_1731, zw_124, zw_1732, by decide +kernel, by decide, by decide⟩
theorem zcv_X9_send_X9_fails_366 : zLV Y_X9_send 366 Y_X9_fails 2 RX9 := ⟨zw_1993, zw_1995, zw_88, zw_124, zw_1996, by decide +kernel, by decide, by decide⟩
theorem zcv_X9_send_X9_starts_423 : zLV Y_X9_send 423 Y_X9_starts 0 RX9 := ⟨zw_2161, zw_2163, zw_103, zw_124, zw_2164, by decide +kernel, by decide, by decide⟩
theorem zw_1900 : Cond.methodLink RX9 156 yX9_arriveMany ∈ zAll := zin 1900 (by decide +kernel) (by decide +kernel)
theorem zw_1903 : Cond.code yX9_arriveMany cX9_arriveMany 5 (some .int) ∈ zAll := zin 1903 (by decide +kernel) (by decide +kernel)
theorem zw_1902 : Cond.instanceMethod yX9_arriveMany ∈ zAll := zin 1902 (by decide +kernel) (by decide +kernel)
theorem zw_68 : Cond.selects RX9 yX9_arriveMany yX9_arriveMany ∈ zAll := zin 68 (by decide +kernel) (by decide +kernel)
theorem zcv_X9_send_X9_arriveMany_156 : zLV Y_X9_send 156 Y_X9_arriveMany 2 RX9 := ⟨zw_1900, zw_1902, zw_68, zw_124, zw_1903, by decide +kernel, by decide, by decide⟩
theorem zcv_X9_send_X9_recorded_426 : zLV Y_X9_send 426 Y_X9_recorded 1 RX9 := ⟨zw_2165, zw_2167, zw_104, zw_124, zw_2168, by decide +kernel, by decide, by decide⟩
abbrev Y_X9_sends : zY := (yX9_sends, cX9_sends, 4, none, 20, [])
theorem zcv_X9_sends_X9_ofFlow_67 : zLV Y_X9_sends 67 Y_X9_ofFlow 2 RX9 := ⟨zw_1887, zw_1889, zw_65, zw_124, zw_1890, by decide +kernel, by decide, by decide⟩
theorem zw_1895 : Cond.methodLink RX9 151 Lib.Math.max.name ∈ zAll := zin 1895 (by decide +kernel) (by decide +kernel)
theorem zw_829 : Cond.static Lib.Math.max.name ∈ zAll := zin 829 (by decide +kernel) (by decide +kernel)
theorem zw_830 : Cond.code Lib.Math.max.name Lib.Math.max.code 2 (some .int) ∈ zAll := zin 830 (by decide +kernel) (by decide +kernel)
theorem zcv_X9_sends_X9_putsFlow_71 : zLV Y_X9_sends 71 Y_X9_putsFlow 3 RX9 := ⟨zw_1896, zw_1898, zw_67, zw_124, zw_1899, by decide +kernel, by decide, by decide⟩
theorem zcv_X9_sends_X9_arriveMany_156 : zLV Y_X9_sends 156 Y_X9_arriveMany 2 RX9 := ⟨zw_1900, zw_1902, zw_68, zw_124, zw_1903, by decide +kernel, by decide, by decide⟩
abbrev Y_X9_sureBurst : zY := (yX9_sureBurst, cX9_sureBurst, 3, (some .int), 20, [])
theorem zcs_X9_sureBurst_X9_in_63 : zLS Y_X9_sureBurst 63 Y_X9_in 3 := ⟨zw_1730, zw_1731, zw_124, zw_1732, by decide +kernel, by decide, by decide⟩
theorem zcv_X9_sureBurst_X9_fails_366 : zLV Y_X9_sureBurst 366 Y_X9_fails 2 RX9 := ⟨zw_1993, zw_1995, zw_88, zw_124, zw_1996, by decide +kernel, by decide, by decide⟩
theorem zcv_X9_sureBurst_X9_burstOf_404 : zLV Y_X9_sureBurst 404 Y_X9_burstOf 1 RX9 := ⟨zw_2099, zw_2101, zw_99, zw_124, zw_2102, by decide +kernel, by decide, by decide⟩
theorem zw_2108 : Cond.constantDouble RX9 408 4636737291354636288 ∈ zAll := zin 2108 (by decide +kernel) (by decide +kernel)
abbrev Y_X9_passes : zY := (yX9_passes, cX9_passes, 3, none, 21, [])
theorem zw_1879 : Cond.methodLink RX9 162 yX9_sendsNow ∈ zAll := zin 1879 (by decide +kernel) (by decide +kernel)
theorem zw_1882 : Cond.code yX9_sendsNow cX9_sendsNow 2 (some .boolean) ∈ zAll := zin 1882 (by decide +kernel) (by decide +kernel)
theorem zw_1881 : Cond.instanceMethod yX9_sendsNow ∈ zAll := zin 1881 (by decide +kernel) (by decide +kernel)
theorem zw_63 : Cond.selects RX9 yX9_sendsNow yX9_sendsNow ∈ zAll := zin 63 (by decide +kernel) (by decide +kernel)
theorem zcv_X9_passes_X9_sendsNow_162 : zLV Y_X9_passes 162 Y_X9_sendsNow 1 RX9 := ⟨zw_1879, zw_1881, zw_63, zw_124, zw_1882, by decide +kernel, by decide, by decide⟩
theorem zw_1891 : Cond.methodLink RX9 165 yX9_sends ∈ zAll := zin 1891 (by decide +kernel) (by decide +kernel)
theorem zw_1894 : Cond.code yX9_sends cX9_sends 4 none ∈ zAll := zin 1894 (by decide +kernel) (by decide +kernel)
theorem zw_1893 : Cond.instanceMethod yX9_sends ∈ zAll := zin 1893 (by decide +kernel) (by decide +kernel)
theorem zw_66 : Cond.selects RX9 yX9_sends yX9_sends ∈ zAll := zin 66 (by decide +kernel) (by decide +kernel)
theorem zcv_X9_passes_X9_sends_165 : zLV Y_X9_passes 165 Y_X9_sends 1 RX9 := ⟨zw_1891, zw_1893, zw_66, zw_124, zw_1894, by decide +kernel, by decide, by decide⟩
theorem zw_1965 : Cond.methodLink RX9 169 yX9_leaves ∈ zAll := zin 1965 (by decide +kernel) (by decide +kernel)
theorem zw_1968 : Cond.code yX9_leaves cX9_leaves 3 none ∈ zAll := zin 1968 (by decide +kernel) (by decide +kernel)
theorem zw_1967 : Cond.instanceMethod yX9_leaves ∈ zAll := zin 1967 (by decide +kernel) (by decide +kernel)
theorem zw_82 : Cond.selects RX9 yX9_leaves yX9_leaves ∈ zAll := zin 82 (by decide +kernel) (by decide +kernel)
theorem zcv_X9_passes_X9_leaves_169 : zLV Y_X9_passes 169 Y_X9_leaves 1 RX9 := ⟨zw_1965, zw_1967, zw_82, zw_124, zw_1968, by decide +kernel, by decide, by decide⟩
abbrev Y_X9_dropIn : zY := (yX9_dropIn, cX9_dropIn, 3, (some .int), 22, [])
theorem zcv_X9_dropIn_X9_aside_286 : zLV Y_X9_dropIn 286 Y_X9_aside 0 RX9 := ⟨zw_1707, zw_1709, zw_28, zw_124, zw_1710, by decide +kernel, by decide, by decide⟩
theorem zcv_X9_dropIn_X9_dropped_395 : zLV Y_X9_dropIn 395 Y_X9_dropped 0 RX9 := ⟨zw_2062, zw_2064, zw_97, zw_124, zw_2065, by decide +kernel, by decide, by decide⟩
theorem zw_1875 : Cond.methodLink RX9 172 yX9_passes ∈ zAll := zin 1875 (by decide +kernel) (by decide +kernel)
theorem zw_1878 : Cond.code yX9_passes cX9_passes 3 none ∈ zAll := zin 1878 (by decide +kernel) (by decide +kernel)
theorem zw_1877 : Cond.instanceMethod yX9_passes ∈ zAll := zin 1877 (by decide +kernel) (by decide +kernel)
theorem zw_62 : Cond.selects RX9 yX9_passes yX9_passes ∈ zAll := zin 62 (by decide +kernel) (by decide +kernel)
theorem zcv_X9_dropIn_X9_passes_172 : zLV Y_X9_dropIn 172 Y_X9_passes 0 RX9 := ⟨zw_1875, zw_1877, zw_62, zw_124, zw_1878, by decide +kernel, by decide, by decide⟩
theorem zcv_X9_dropIn_X9_back_295 : zLV Y_X9_dropIn 295 Y_X9_back 1 RX9 := ⟨zw_1805, zw_1807, zw_48, zw_124, zw_1808, by decide +kernel, by decide, by decide⟩
abbrev Y_X9_longest : zY := (yX9_longest, cX9_longest, 4, (some .int), 22, [])
theorem zw_2113 : Cond.methodLink RX9 410 yX9_noTicks ∈ zAll := zin 2113 (by decide +kernel) (by decide +kernel)
theorem zw_2116 : Cond.code yX9_noTicks cX9_noTicks 5 (some .boolean) ∈ zAll := zin 2116 (by decide +kernel) (by decide +kernel)
theorem zw_2115 : Cond.instanceMethod yX9_noTicks ∈ zAll := zin 2115 (by decide +kernel) (by decide +kernel)
theorem zw_100 : Cond.selects RX9 yX9_noTicks yX9_noTicks ∈ zAll := zin 100 (by decide +kernel) (by decide +kernel)
theorem zcv_X9_longest_X9_noTicks_410 : zLV Y_X9_longest 410 Y_X9_noTicks 4 RX9 := ⟨zw_2113, zw_2115, zw_100, zw_124, zw_2116, by decide +kernel, by decide, by decide⟩
theorem zcv_X9_longest_X9_aside_286 : zLV Y_X9_longest 286 Y_X9_aside 0 RX9 := ⟨zw_1707, zw_1709, zw_28, zw_124, zw_1710, by decide +kernel, by decide, by decide⟩
theorem zcv_X9_longest_X9_back_295 : zLV Y_X9_longest 295 Y_X9_back 1 RX9 := ⟨zw_1805, zw_1807, zw_48, zw_124, zw_1808, by decide +kernel, by decide, by decide⟩
theorem zcv_X9_longest_X9_passes_172 : zLV Y_X9_longest 172 Y_X9_passes 0 RX9 := ⟨zw_1875, zw_1877, zw_62, zw_124, zw_1878, by decide +kernel, by decide, by decide⟩
abbrev Y_X9_passesMany : zY := (yX9_passesMany, cX9_passesMany, 3, none, 22, [])
theorem zcv_X9_passesMany_X9_passes_172 : zLV Y_X9_passesMany 172 Y_X9_passes 0 RX9 := ⟨zw_1875, zw_1877, zw_62, zw_124, zw_1878, by decide +kernel, by decide, by decide⟩
abbrev Y_X9_accountIn : zY := (yX9_accountIn, cX9_accountIn, 5, (some .long), 23, [])
theorem zcv_X9_accountIn_X9_noFlows_384 : zLV Y_X9_accountIn 384 Y_X9_noFlows 1 RX9 := ⟨zw_2029, zw_2031, zw_93, zw_124, zw_2032, by decide +kernel, by decide, by decide⟩
theorem zcv_X9_accountIn_X9_noAccount_387 : zLV Y_X9_accountIn 387 Y_X9_noAccount 1 RX9 := ⟨zw_2033, zw_2035, zw_94, zw_124, zw_2036, by decide +kernel, by decide, by decide⟩
theorem zcv_X9_accountIn_X9_noTicks_410 : zLV Y_X9_accountIn 410 Y_X9_noTicks 4 RX9 := ⟨zw_2113, zw_2115, zw_100, zw_124, zw_2116, by decide +kernel, by decide, by decide⟩
theorem zcv_X9_accountIn_X9_aside_286 : zLV Y_X9_accountIn 286 Y_X9_aside 0 RX9 := ⟨zw_1707, zw_1709, zw_28, zw_124, zw_1710, by decide +kernel, by decide, by decide⟩
theorem zcv_X9_accountIn_X9_accountOf_75 : zLV Y_X9_accountIn 75 Y_X9_accountOf 2 RX9 := ⟨zw_2037, zw_2039, zw_95, zw_124, zw_2040, by decide +kernel, by decide, by decide⟩
theorem zw_1871 : Cond.methodLink RX9 414 yX9_passesMany ∈ zAll := zin 1871 (by decide +kernel) (by decide +kernel)
theorem zw_1874 : Cond.code yX9_passesMany cX9_passesMany 3 none ∈ zAll := zin 1874 (by decide +kernel) (by decide +kernel)
theorem zw_1873 : Cond.instanceMethod yX9_passesMany ∈ zAll := zin 1873 (by decide +kernel) (by decide +kernel)
theorem zw_61 : Cond.selects RX9 yX9_passesMany yX9_passesMany ∈ zAll := zin 61 (by decide +kernel) (by decide +kernel)
theorem zcv_X9_accountIn_X9_passesMany_414 : zLV Y_X9_accountIn 414 Y_X9_passesMany 1 RX9 := ⟨zw_1871, zw_1873, zw_61, zw_124, zw_1874, by decide +kernel, by decide, by decide⟩
theorem zcv_X9_accountIn_X9_back_295 : zLV Y_X9_accountIn 295 Y_X9_back 1 RX9 := ⟨zw_1805, zw_1807, zw_48, zw_124, zw_1808, by decide +kernel, by decide, by decide⟩
abbrev Y_X9_averageIn : zY := (yX9_averageIn, cX9_averageIn, 2, (some .int), 23, [])
theorem zcv_X9_averageIn_X9_noTicks_410 : zLV Y_X9_averageIn 410 Y_X9_noTicks 4 RX9 := ⟨zw_2113, zw_2115, zw_100, zw_124, zw_2116, by decide +kernel, by decide, by decide⟩
theorem zcv_X9_averageIn_X9_aside_286 : zLV Y_X9_averageIn 286 Y_X9_aside 0 RX9 := ⟨zw_1707, zw_1709, zw_28, zw_124, zw_1710, by decide +kernel, by decide, by decide⟩
theorem zcv_X9_averageIn_X9_passesMany_414 : zLV Y_X9_averageIn 414 Y_X9_passesMany 1 RX9 := ⟨zw_1871, zw_1873, zw_61, zw_124, zw_1874, by decide +kernel, by decide, by decide⟩
theorem zcv_X9_averageIn_X9_back_295 : zLV Y_X9_averageIn 295 Y_X9_back 1 RX9 := ⟨zw_1805, zw_1807, zw_48, zw_124, zw_1808, by decide +kernel, by decide, by decide⟩
abbrev Y_X9_droppedIn : zY := (yX9_droppedIn, cX9_droppedIn, 3, (some .int), 23, [])
theorem zcv_X9_droppedIn_X9_dropped_395 : zLV Y_X9_droppedIn 395 Y_X9_dropped 0 RX9 := ⟨zw_2062, zw_2064, zw_97, zw_124, zw_2065, by decide +kernel, by decide, by decide⟩
theorem zcv_X9_droppedIn_X9_passesMany_414 : zLV Y_X9_droppedIn 414 Y_X9_passesMany 1 RX9 := ⟨zw_1871, zw_1873, zw_61, zw_124, zw_1874, by decide +kernel, by decide, by decide⟩
abbrev Y_X9_queueIn : zY := (yX9_queueIn, cX9_queueIn, 2, (some .int), 23, [])
theorem zcv_X9_queueIn_X9_noTicks_410 : zLV Y_X9_queueIn 410 Y_X9_noTicks 4 RX9 := ⟨zw_2113, zw_2115, zw_100, zw_124, zw_2116, by decide +kernel, by decide, by decide⟩
theorem zcv_X9_queueIn_X9_aside_286 : zLV Y_X9_queueIn 286 Y_X9_aside 0 RX9 := ⟨zw_1707, zw_1709, zw_28, zw_124, zw_1710, by decide +kernel, by decide, by decide⟩
theorem zcv_X9_queueIn_X9_passesMany_414 : zLV Y_X9_queueIn 414 Y_X9_passesMany 1 RX9 := ⟨zw_1871, zw_1873, zw_61, zw_124, zw_1874, by decide +kernel, by decide, by decide⟩
theorem zcv_X9_queueIn_X9_back_295 : zLV Y_X9_queueIn 295 Y_X9_back 1 RX9 := ⟨zw_1805, zw_1807, zw_48, zw_124, zw_1808, by decide +kernel, by decide, by decide⟩
abbrev Y_X9_tickNow : zY := (yX9_tickNow, cX9_tickNow, 2, (some .int), 23, [])
theorem zcv_X9_tickNow_X9_passesMany_414 : zLV Y_X9_tickNow 414 Y_X9_passesMany 1 RX9 := ⟨zw_1871, zw_1873, zw_61, zw_124, zw_1874, by decide +kernel, by decide, by decide⟩
abbrev Y_X9_windowIn : zY := (yX9_windowIn, cX9_windowIn, 3, (some .int), 23, [])
theorem zcv_X9_windowIn_X9_noFlow_375 : zLV Y_X9_windowIn 375 Y_X9_noFlow 1 RX9 := ⟨zw_2001, zw_2003, zw_89, zw_124, zw_2004, by decide +kernel, by decide, by decide⟩
theorem zcv_X9_windowIn_X9_noTicks_410 : zLV Y_X9_windowIn 410 Y_X9_noTicks 4 RX9 := ⟨zw_2113, zw_2115, zw_100, zw_124, zw_2116, by decide +kernel, by decide, by decide⟩
theorem zcv_X9_windowIn_X9_aside_286 : zLV Y_X9_windowIn 286 Y_X9_aside 0 RX9 := ⟨zw_1707, zw_1709, zw_28, zw_124, zw_1710, by decide +kernel, by decide, by decide⟩
theorem zcv_X9_windowIn_X9_passesMany_414 : zLV Y_X9_windowIn 414 Y_X9_passesMany 1 RX9 := ⟨zw_1871, zw_1873, zw_61, zw_124, zw_1874, by decide +kernel, by decide, by decide⟩
theorem zcv_X9_windowIn_X9_ofFlow_67 : zLV Y_X9_windowIn 67 Y_X9_ofFlow 2 RX9 := ⟨zw_1887, zw_1889, zw_65, zw_124, zw_1890, by decide +kernel, by decide, by decide⟩
theorem zcv_X9_windowIn_X9_back_295 : zLV Y_X9_windowIn 295 Y_X9_back 1 RX9 := ⟨zw_1805, zw_1807, zw_48, zw_124, zw_1808, by decide +kernel, by decide, by decide⟩
abbrev Y_X9_does : zY := (yX9_does, cX9_does, 2, (some .int), 24, [])
theorem zw_1867 : Cond.methodLink RX9 341 yX9_tickNow ∈ zAll := zin 1867 (by decide +kernel) (by decide +kernel)
theorem zw_1870 : Cond.code yX9_tickNow cX9_tickNow 2 (some .int) ∈ zAll := zin 1870 (by decide +kernel) (by decide +kernel)
theorem zw_1869 : Cond.instanceMethod yX9_tickNow ∈ zAll := zin 1869 (by decide +kernel) (by decide +kernel)
theorem zw_60 : Cond.selects RX9 yX9_tickNow yX9_tickNow ∈ zAll := zin 60 (by decide +kernel) (by decide +kernel)
theorem zcv_X9_does_X9_tickNow_341 : zLV Y_X9_does 341 Y_X9_tickNow 1 RX9 := ⟨zw_1867, zw_1869, zw_60, zw_124, zw_1870, by decide +kernel, by decide, by decide⟩
theorem zcv_X9_does_X9_arriveMany_156 : zLV Y_X9_does 156 Y_X9_arriveMany 2 RX9 := ⟨zw_1900, zw_1902, zw_68, zw_124, zw_1903, by decide +kernel, by decide, by decide⟩
theorem zcv_X9_does_X9_limitsNow_344 : zLV Y_X9_does 344 Y_X9_limitsNow 2 RX9 := ⟨zw_1973, zw_1975, zw_84, zw_124, zw_1976, by decide +kernel, by decide, by decide⟩
theorem zcv_X9_does_X9_setNow_347 : zLV Y_X9_does 347 Y_X9_setNow 2 RX9 := ⟨zw_1977, zw_1979, zw_85, zw_124, zw_1980, by decide +kernel, by decide, by decide⟩
theorem zcv_X9_does_X9_turnNow_350 : zLV Y_X9_does 350 Y_X9_turnNow 2 RX9 := ⟨zw_1981, zw_1983, zw_86, zw_124, zw_1984, by decide +kernel, by decide, by decide⟩
abbrev Y_X9_droppedBy : zY := (yX9_droppedBy, cX9_droppedBy, 4, (some .int), 24, [])
theorem zcv_X9_droppedBy_X9_aside_286 : zLV Y_X9_droppedBy 286 Y_X9_aside 0 RX9 := ⟨zw_1707, zw_1709, zw_28, zw_124, zw_1710, by decide +kernel, by decide, by decide⟩
theorem zw_2145 : Cond.methodLink RX9 420 yX9_droppedIn ∈ zAll := zin 2145 (by decide +kernel) (by decide +kernel)
theorem zw_2148 : Cond.code yX9_droppedIn cX9_droppedIn 3 (some .int) ∈ zAll := zin 2148 (by decide +kernel) (by decide +kernel)
theorem zw_2147 : Cond.instanceMethod yX9_droppedIn ∈ zAll := zin 2147 (by decide +kernel) (by decide +kernel)
theorem zw_102 : Cond.selects RX9 yX9_droppedIn yX9_droppedIn ∈ zAll := zin 102 (by decide +kernel) (by decide +kernel)
theorem zcv_X9_droppedBy_X9_droppedIn_420 : zLV Y_X9_droppedBy 420 Y_X9_droppedIn 1 RX9 := ⟨zw_2145, zw_2147, zw_102, zw_124, zw_2148, by decide +kernel, by decide, by decide⟩
theorem zcv_X9_droppedBy_X9_back_295 : zLV Y_X9_droppedBy 295 Y_X9_back 1 RX9 := ⟨zw_1805, zw_1807, zw_48, zw_124, zw_1808, by decide +kernel, by decide, by decide⟩
abbrev Y_X9_gain : zY := (yX9_gain, cX9_gain, 4, (some .long), 24, [])
theorem zcv_X9_gain_X9_noTicks_410 : zLV Y_X9_gain 410 Y_X9_noTicks 4 RX9 := ⟨zw_2113, zw_2115, zw_100, zw_124, zw_2116, by decide +kernel, by decide, by decide⟩
theorem zcv_X9_gain_X9_aside_286 : zLV Y_X9_gain 286 Y_X9_aside 0 RX9 := ⟨zw_1707, zw_1709, zw_28, zw_124, zw_1710, by decide +kernel, by decide, by decide⟩
theorem zcv_X9_gain_X9_droppedIn_420 : zLV Y_X9_gain 420 Y_X9_droppedIn 1 RX9 := ⟨zw_2145, zw_2147, zw_102, zw_124, zw_2148, by decide +kernel, by decide, by decide⟩
theorem zcv_X9_gain_X9_back_295 : zLV Y_X9_gain 295 Y_X9_back 1 RX9 := ⟨zw_1805, zw_1807, zw_48, zw_124, zw_1808, by decide +kernel, by decide, by decide⟩
theorem zfp_X9_112 : zFP RX9 112 30 8 0 .boolean := ⟨13, RX9, TX9, 30, tyX9, ⟨rfl, rfl, by decide, rfl, zw_1602, zws_X9⟩, tyX9_ok, nmX9, rfl, by decide +kernel⟩
abbrev Y_X9_tick : zY := (yX9_tick, cX9_tick, 2, (some .int), 24, [])
theorem zcv_X9_tick_X9_noTicks_410 : zLV Y_X9_tick 410 Y_X9_noTicks 4 RX9 := ⟨zw_2113, zw_2115, zw_100, zw_124, zw_2116, by decide +kernel, by decide, by decide⟩
theorem zcv_X9_tick_X9_starts_423 : zLV Y_X9_tick 423 Y_X9_starts 0 RX9 := ⟨zw_2161, zw_2163, zw_103, zw_124, zw_2164, by decide +kernel, by decide, by decide⟩
theorem zcv_X9_tick_X9_tickNow_341 : zLV Y_X9_tick 341 Y_X9_tickNow 1 RX9 := ⟨zw_1867, zw_1869, zw_60, zw_124, zw_1870, by decide +kernel, by decide, by decide⟩
theorem zcv_X9_tick_X9_recorded_426 : zLV Y_X9_tick 426 Y_X9_recorded 1 RX9 := ⟨zw_2165, zw_2167, zw_104, zw_124, zw_2168, by decide +kernel, by decide, by decide⟩
abbrev Y_X9_bestTop : zY := (yX9_bestTop, cX9_bestTop, 6, (some .int), 25, [])
theorem zcv_X9_bestTop_X9_noTicks_410 : zLV Y_X9_bestTop 410 Y_X9_noTicks 4 RX9 := ⟨zw_2113, zw_2115, zw_100, zw_124, zw_2116, by decide +kernel, by decide, by decide⟩
theorem zw_2141 : Cond.methodLink RX9 417 yX9_droppedBy ∈ zAll := zin 2141 (by decide +kernel) (by decide +kernel)
theorem zw_2144 : Cond.code yX9_droppedBy cX9_droppedBy 4 (some .int) ∈ zAll := zin 2144 (by decide +kernel) (by decide +kernel)
theorem zw_2143 : Cond.instanceMethod yX9_droppedBy ∈ zAll := zin 2143 (by decide +kernel) (by decide +kernel)
theorem zw_101 : Cond.selects RX9 yX9_droppedBy yX9_droppedBy ∈ zAll := zin 101 (by decide +kernel) (by decide +kernel)
theorem zcv_X9_bestTop_X9_droppedBy_417 : zLV Y_X9_bestTop 417 Y_X9_droppedBy 3 RX9 := ⟨zw_2141, zw_2143, zw_101, zw_124, zw_2144, by decide +kernel, by decide, by decide⟩
abbrev Y_X9_bestWeight : zY := (yX9_bestWeight, cX9_bestWeight, 6, (some .int), 25, [])
theorem zcv_X9_bestWeight_X9_noTicks_410 : zLV Y_X9_bestWeight 410 Y_X9_noTicks 4 RX9 := ⟨zw_2113, zw_2115, zw_100, zw_124, zw_2116, by decide +kernel, by decide, by decide⟩
theorem zcv_X9_bestWeight_X9_droppedBy_417 : zLV Y_X9_bestWeight 417 Y_X9_droppedBy 3 RX9 := ⟨zw_2141, zw_2143, zw_101, zw_124, zw_2144, by decide +kernel, by decide, by decide⟩
theorem dX9_arriveMany_0 : decode cX9_arriveMany 0 = .ok (.iconst 0, 1) := by decide +kernel
theorem dX9_arriveMany_1 : decode cX9_arriveMany 1 = .ok (.istore_n 3, 1) := by decide +kernel
theorem dX9_arriveMany_2 : decode cX9_arriveMany 2 = .ok (.iconst 0, 1) := by decide +kernel
theorem dX9_arriveMany_3 : decode cX9_arriveMany 3 = .ok (.istore 4, 2) := by decide +kernel
theorem dX9_arriveMany_5 : decode cX9_arriveMany 5 = .ok (.iload 4, 2) := by decide +kernel
theorem dX9_arriveMany_7 : decode cX9_arriveMany 7 = .ok (.iload_n 2, 1) := by decide +kernel
theorem dX9_arriveMany_8 : decode cX9_arriveMany 8 = .ok (.if_icmp .ge 29, 3) := by decide +kernel
theorem dX9_arriveMany_11 : decode cX9_arriveMany 11 = .ok (.iload_n 3, 1) := by decide +kernel
theorem dX9_arriveMany_12 : decode cX9_arriveMany 12 = .ok (.aload_n 0, 1) := by decide +kernel
theorem dX9_arriveMany_13 : decode cX9_arriveMany 13 = .ok (.iload_n 1, 1) := by decide +kernel
theorem dX9_arriveMany_14 : decode cX9_arriveMany 14 = .ok (.invokevirtual 143, 3) := by decide +kernel
theorem dX9_arriveMany_17 : decode cX9_arriveMany 17 = .ok (.iconst 2, 1) := by decide +kernel
theorem dX9_arriveMany_18 : decode cX9_arriveMany 18 = .ok (.if_icmp .eq 7, 3) := by decide +kernel
theorem dX9_arriveMany_21 : decode cX9_arriveMany 21 = .ok (.iconst 1, 1) := by decide +kernel
theorem dX9_arriveMany_22 : decode cX9_arriveMany 22 = .ok (.goto 4, 3) := by decide +kernel
theorem dX9_arriveMany_25 : decode cX9_arriveMany 25 = .ok (.iconst 0, 1) := by decide +kernel
theorem dX9_arriveMany_26 : decode cX9_arriveMany 26 = .ok (.invokestatic 99, 3) := by decide +kernel
theorem dX9_arriveMany_29 : decode cX9_arriveMany 29 = .ok (.iadd, 1) := by decide +kernel
theorem dX9_arriveMany_30 : decode cX9_arriveMany 30 = .ok (.istore_n 3, 1) := by decide +kernel
theorem dX9_arriveMany_31 : decode cX9_arriveMany 31 = .ok (.iinc 4 1, 3) := by decide +kernel
theorem dX9_arriveMany_34 : decode cX9_arriveMany 34 = .ok (.goto (-29), 3) := by decide +kernel
theorem dX9_arriveMany_37 : decode cX9_arriveMany 37 = .ok (.iload_n 3, 1) := by decide +kernel
theorem dX9_arriveMany_38 : decode cX9_arriveMany 38 = .ok (.ireturn, 1) := by decide +kernel
theorem dX9_sends_0 : decode cX9_sends 0 = .ok (.aload_n 0, 1) := by decide +kernel
theorem dX9_sends_1 : decode cX9_sends 1 = .ok (.iload_n 1, 1) := by decide +kernel
theorem dX9_sends_2 : decode cX9_sends 2 = .ok (.bipush 6, 2) := by decide +kernel
theorem dX9_sends_4 : decode cX9_sends 4 = .ok (.invokevirtual 67, 3) := by decide +kernel
theorem dX9_sends_7 : decode cX9_sends 7 = .ok (.istore_n 2, 1) := by decide +kernel
theorem dX9_sends_8 : decode cX9_sends 8 = .ok (.aload_n 0, 1) := by decide +kernel
theorem dX9_sends_9 : decode cX9_sends 9 = .ok (.iload_n 1, 1) := by decide +kernel
theorem dX9_sends_10 : decode cX9_sends 10 = .ok (.bipush 8, 2) := by decide +kernel
theorem dX9_sends_12 : decode cX9_sends 12 = .ok (.invokevirtual 67, 3) := by decide +kernel
theorem dX9_sends_15 : decode cX9_sends 15 = .ok (.ifCond .le 43, 3) := by decide +kernel
theorem dX9_sends_18 : decode cX9_sends 18 = .ok (.aload_n 0, 1) := by decide +kernel
theorem dX9_sends_19 : decode cX9_sends 19 = .ok (.iload_n 1, 1) := by decide +kernel
theorem dX9_sends_20 : decode cX9_sends 20 = .ok (.bipush 6, 2) := by decide +kernel
theorem dX9_sends_22 : decode cX9_sends 22 = .ok (.aload_n 0, 1) := by decide +kernel
theorem dX9_sends_23 : decode cX9_sends 23 = .ok (.iload_n 1, 1) := by decide +kernel
theorem dX9_sends_24 : decode cX9_sends 24 = .ok (.bipush 7, 2) := by decide +kernel
theorem dX9_sends_26 : decode cX9_sends 26 = .ok (.invokevirtual 67, 3) := by decide +kernel
theorem dX9_sends_29 : decode cX9_sends 29 = .ok (.iconst 1, 1) := by decide +kernel
theorem dX9_sends_30 : decode cX9_sends 30 = .ok (.if_icmp .ne 13, 3) := by decide +kernel
theorem dX9_sends_33 : decode cX9_sends 33 = .ok (.iconst 1, 1) := by decide +kernel
theorem dX9_sends_34 : decode cX9_sends 34 = .ok (.iload_n 2, 1) := by decide +kernel
theorem dX9_sends_35 : decode cX9_sends 35 = .ok (.iconst 2, 1) := by decide +kernel
theorem dX9_sends_36 : decode cX9_sends 36 = .ok (.idiv, 1) := by decide +kernel
theorem dX9_sends_37 : decode cX9_sends 37 = .ok (.invokestatic 151, 3) := by decide +kernel
theorem dX9_sends_40 : decode cX9_sends 40 = .ok (.goto 15, 3) := by decide +kernel
theorem dX9_sends_43 : decode cX9_sends 43 = .ok (.aload_n 0, 1) := by decide +kernel
theorem dX9_sends_44 : decode cX9_sends 44 = .ok (.iload_n 1, 1) := by decide +kernel
theorem dX9_sends_45 : decode cX9_sends 45 = .ok (.iconst 3, 1) := by decide +kernel
theorem dX9_sends_46 : decode cX9_sends 46 = .ok (.invokevirtual 67, 3) := by decide +kernel
theorem dX9_sends_49 : decode cX9_sends 49 = .ok (.iload_n 2, 1) := by decide +kernel
theorem dX9_sends_50 : decode cX9_sends 50 = .ok (.iconst 1, 1) := by decide +kernel
theorem dX9_sends_51 : decode cX9_sends 51 = .ok (.iadd, 1) := by decide +kernel
theorem dX9_sends_52 : decode cX9_sends 52 = .ok (.invokestatic 154, 3) := by decide +kernel
theorem dX9_sends_55 : decode cX9_sends 55 = .ok (.invokevirtual 71, 3) := by decide +kernel
theorem dX9_sends_58 : decode cX9_sends 58 = .ok (.aload_n 0, 1) := by decide +kernel
theorem dX9_sends_59 : decode cX9_sends 59 = .ok (.iload_n 1, 1) := by decide +kernel
theorem dX9_sends_60 : decode cX9_sends 60 = .ok (.bipush 7, 2) := by decide +kernel
theorem dX9_sends_62 : decode cX9_sends 62 = .ok (.iconst 0, 1) := by decide +kernel
theorem dX9_sends_63 : decode cX9_sends 63 = .ok (.invokevirtual 71, 3) := by decide +kernel
theorem dX9_sends_66 : decode cX9_sends 66 = .ok (.aload_n 0, 1) := by decide +kernel
theorem dX9_sends_67 : decode cX9_sends 67 = .ok (.iload_n 1, 1) := by decide +kernel
theorem dX9_sends_68 : decode cX9_sends 68 = .ok (.bipush 8, 2) := by decide +kernel
theorem dX9_sends_70 : decode cX9_sends 70 = .ok (.aload_n 0, 1) := by decide +kernel
theorem dX9_sends_71 : decode cX9_sends 71 = .ok (.iload_n 1, 1) := by decide +kernel
theorem dX9_sends_72 : decode cX9_sends 72 = .ok (.bipush 8, 2) := by decide +kernel
theorem dX9_sends_74 : decode cX9_sends 74 = .ok (.invokevirtual 67, 3) := by decide +kernel
theorem dX9_sends_77 : decode cX9_sends 77 = .ok (.iconst 1, 1) := by decide +kernel
theorem dX9_sends_78 : decode cX9_sends 78 = .ok (.iadd, 1) := by decide +kernel
theorem dX9_sends_79 : decode cX9_sends 79 = .ok (.invokevirtual 71, 3) := by decide +kernel
theorem dX9_sends_82 : decode cX9_sends 82 = .ok (.aload_n 0, 1) := by decide +kernel
theorem dX9_sends_83 : decode cX9_sends 83 = .ok (.iload_n 1, 1) := by decide +kernel
theorem dX9_sends_84 : decode cX9_sends 84 = .ok (.aload_n 0, 1) := by decide +kernel
theorem dX9_sends_85 : decode cX9_sends 85 = .ok (.iload_n 1, 1) := by decide +kernel
theorem dX9_sends_86 : decode cX9_sends 86 = .ok (.bipush 6, 2) := by decide +kernel
theorem dX9_sends_88 : decode cX9_sends 88 = .ok (.invokevirtual 67, 3) := by decide +kernel
theorem dX9_sends_91 : decode cX9_sends 91 = .ok (.invokevirtual 156, 3) := by decide +kernel
theorem dX9_sends_94 : decode cX9_sends 94 = .ok (.istore_n 3, 1) := by decide +kernel
theorem dX9_sends_95 : decode cX9_sends 95 = .ok (.return_, 1) := by decide +kernel
theorem dX9_passes_0 : decode cX9_passes 0 = .ok (.aload_n 0, 1) := by decide +kernel
theorem dX9_passes_1 : decode cX9_passes 1 = .ok (.getfield 9, 3) := by decide +kernel
theorem dX9_passes_4 : decode cX9_passes 4 = .ok (.bipush 7, 2) := by decide +kernel
theorem dX9_passes_6 : decode cX9_passes 6 = .ok (.dup2, 1) := by decide +kernel
theorem dX9_passes_7 : decode cX9_passes 7 = .ok (.iaload, 1) := by decide +kernel
theorem dX9_passes_8 : decode cX9_passes 8 = .ok (.iconst 1, 1) := by decide +kernel
theorem dX9_passes_9 : decode cX9_passes 9 = .ok (.iadd, 1) := by decide +kernel
theorem dX9_passes_10 : decode cX9_passes 10 = .ok (.iastore, 1) := by decide +kernel
theorem dX9_passes_11 : decode cX9_passes 11 = .ok (.iconst 0, 1) := by decide +kernel
theorem dX9_passes_12 : decode cX9_passes 12 = .ok (.istore_n 1, 1) := by decide +kernel
theorem dX9_passes_13 : decode cX9_passes 13 = .ok (.iload_n 1, 1) := by decide +kernel
theorem dX9_passes_14 : decode cX9_passes 14 = .ok (.aload_n 0, 1) := by decide +kernel
theorem dX9_passes_15 : decode cX9_passes 15 = .ok (.getfield 9, 3) := by decide +kernel
theorem dX9_passes_18 : decode cX9_passes 18 = .ok (.bipush 11, 2) := by decide +kernel
theorem dX9_passes_20 : decode cX9_passes 20 = .ok (.iaload, 1) := by decide +kernel
theorem dX9_passes_21 : decode cX9_passes 21 = .ok (.if_icmp .ge 22, 3) := by decide +kernel
theorem dX9_passes_24 : decode cX9_passes 24 = .ok (.aload_n 0, 1) := by decide +kernel
theorem dX9_passes_25 : decode cX9_passes 25 = .ok (.iload_n 1, 1) := by decide +kernel
theorem dX9_passes_26 : decode cX9_passes 26 = .ok (.invokevirtual 162, 3) := by decide +kernel
theorem dX9_passes_29 : decode cX9_passes 29 = .ok (.ifCond .eq 8, 3) := by decide +kernel
theorem dX9_passes_32 : decode cX9_passes 32 = .ok (.aload_n 0, 1) := by decide +kernel
theorem dX9_passes_33 : decode cX9_passes 33 = .ok (.iload_n 1, 1) := by decide +kernel
theorem dX9_passes_34 : decode cX9_passes 34 = .ok (.invokevirtual 165, 3) := by decide +kernel
theorem dX9_passes_37 : decode cX9_passes 37 = .ok (.iinc 1 1, 3) := by decide +kernel
theorem dX9_passes_40 : decode cX9_passes 40 = .ok (.goto (-27), 3) := by decide +kernel
theorem dX9_passes_43 : decode cX9_passes 43 = .ok (.aload_n 0, 1) := by decide +kernel
theorem dX9_passes_44 : decode cX9_passes 44 = .ok (.getfield 9, 3) := by decide +kernel
theorem dX9_passes_47 : decode cX9_passes 47 = .ok (.iconst 1, 1) := by decide +kernel
theorem dX9_passes_48 : decode cX9_passes 48 = .ok (.iaload, 1) := by decide +kernel
theorem dX9_passes_49 : decode cX9_passes 49 = .ok (.aload_n 0, 1) := by decide +kernel
theorem dX9_passes_50 : decode cX9_passes 50 = .ok (.getfield 9, 3) := by decide +kernel
theorem dX9_passes_53 : decode cX9_passes 53 = .ok (.bipush 8, 2) := by decide +kernel
theorem dX9_passes_55 : decode cX9_passes 55 = .ok (.iaload, 1) := by decide +kernel
theorem dX9_passes_56 : decode cX9_passes 56 = .ok (.invokestatic 154, 3) := by decide +kernel
theorem dX9_passes_59 : decode cX9_passes 59 = .ok (.istore_n 1, 1) := by decide +kernel
theorem dX9_passes_60 : decode cX9_passes 60 = .ok (.iconst 0, 1) := by decide +kernel
theorem dX9_passes_61 : decode cX9_passes 61 = .ok (.istore_n 2, 1) := by decide +kernel
theorem dX9_passes_62 : decode cX9_passes 62 = .ok (.iload_n 2, 1) := by decide +kernel
theorem dX9_passes_63 : decode cX9_passes 63 = .ok (.iload_n 1, 1) := by decide +kernel
theorem dX9_passes_64 : decode cX9_passes 64 = .ok (.if_icmp .ge 14, 3) := by decide +kernel
theorem dX9_passes_67 : decode cX9_passes 67 = .ok (.aload_n 0, 1) := by decide +kernel
theorem dX9_passes_68 : decode cX9_passes 68 = .ok (.iload_n 2, 1) := by decide +kernel
theorem dX9_passes_69 : decode cX9_passes 69 = .ok (.invokevirtual 169, 3) := by decide +kernel
theorem dX9_passes_72 : decode cX9_passes 72 = .ok (.iinc 2 1, 3) := by decide +kernel
theorem dX9_passes_75 : decode cX9_passes 75 = .ok (.goto (-13), 3) := by decide +kernel
theorem dX9_passes_78 : decode cX9_passes 78 = .ok (.aload_n 0, 1) := by decide +kernel
theorem dX9_passes_79 : decode cX9_passes 79 = .ok (.getfield 9, 3) := by decide +kernel
theorem dX9_passes_82 : decode cX9_passes 82 = .ok (.bipush 8, 2) := by decide +kernel
theorem dX9_passes_84 : decode cX9_passes 84 = .ok (.dup2, 1) := by decide +kernel
theorem dX9_passes_85 : decode cX9_passes 85 = .ok (.iaload, 1) := by decide +kernel
theorem dX9_passes_86 : decode cX9_passes 86 = .ok (.iload_n 1, 1) := by decide +kernel
theorem dX9_passes_87 : decode cX9_passes 87 = .ok (.isub, 1) := by decide +kernel
theorem dX9_passes_88 : decode cX9_passes 88 = .ok (.iastore, 1) := by decide +kernel
theorem dX9_passes_89 : decode cX9_passes 89 = .ok (.sipush 172, 3) := by decide +kernel
theorem dX9_passes_92 : decode cX9_passes 92 = .ok (.istore_n 2, 1) := by decide +kernel
theorem dX9_passes_93 : decode cX9_passes 93 = .ok (.iload_n 2, 1) := by decide +kernel
theorem dX9_passes_94 : decode cX9_passes 94 = .ok (.sipush 172, 3) := by decide +kernel
theorem dX9_passes_97 : decode cX9_passes 97 = .ok (.iconst 3, 1) := by decide +kernel
theorem dX9_passes_98 : decode cX9_passes 98 = .ok (.aload_n 0, 1) := by decide +kernel
theorem dX9_passes_99 : decode cX9_passes 99 = .ok (.getfield 9, 3) := by decide +kernel
theorem dX9_passes_102 : decode cX9_passes 102 = .ok (.bipush 8, 2) := by decide +kernel
theorem dX9_passes_104 : decode cX9_passes 104 = .ok (.iaload, 1) := by decide +kernel
theorem dX9_passes_105 : decode cX9_passes 105 = .ok (.imul, 1) := by decide +kernel
theorem dX9_passes_106 : decode cX9_passes 106 = .ok (.iadd, 1) := by decide +kernel
theorem dX9_passes_107 : decode cX9_passes 107 = .ok (.if_icmp .ge 25, 3) := by decide +kernel
theorem dX9_passes_110 : decode cX9_passes 110 = .ok (.aload_n 0, 1) := by decide +kernel
theorem dX9_passes_111 : decode cX9_passes 111 = .ok (.getfield 9, 3) := by decide +kernel
theorem dX9_passes_114 : decode cX9_passes 114 = .ok (.iload_n 2, 1) := by decide +kernel
theorem dX9_passes_115 : decode cX9_passes 115 = .ok (.aload_n 0, 1) := by decide +kernel
theorem dX9_passes_116 : decode cX9_passes 116 = .ok (.getfield 9, 3) := by decide +kernel
theorem dX9_passes_119 : decode cX9_passes 119 = .ok (.iload_n 2, 1) := by decide +kernel
theorem dX9_passes_120 : decode cX9_passes 120 = .ok (.iconst 3, 1) := by decide +kernel
theorem dX9_passes_121 : decode cX9_passes 121 = .ok (.iload_n 1, 1) := by decide +kernel
theorem dX9_passes_122 : decode cX9_passes 122 = .ok (.imul, 1) := by decide +kernel
theorem dX9_passes_123 : decode cX9_passes 123 = .ok (.iadd, 1) := by decide +kernel
theorem dX9_passes_124 : decode cX9_passes 124 = .ok (.iaload, 1) := by decide +kernel
theorem dX9_passes_125 : decode cX9_passes 125 = .ok (.iastore, 1) := by decide +kernel
theorem dX9_passes_126 : decode cX9_passes 126 = .ok (.iinc 2 1, 3) := by decide +kernel
theorem dX9_passes_129 : decode cX9_passes 129 = .ok (.goto (-36), 3) := by decide +kernel
theorem dX9_passes_132 : decode cX9_passes 132 = .ok (.aload_n 0, 1) := by decide +kernel
theorem dX9_passes_133 : decode cX9_passes 133 = .ok (.getfield 9, 3) := by decide +kernel
theorem dX9_passes_136 : decode cX9_passes 136 = .ok (.bipush 8, 2) := by decide +kernel
theorem dX9_passes_138 : decode cX9_passes 138 = .ok (.iaload, 1) := by decide +kernel
theorem dX9_passes_139 : decode cX9_passes 139 = .ok (.ifCond .ne 27, 3) := by decide +kernel
theorem dX9_passes_142 : decode cX9_passes 142 = .ok (.aload_n 0, 1) := by decide +kernel
theorem dX9_passes_143 : decode cX9_passes 143 = .ok (.getfield 9, 3) := by decide +kernel
theorem dX9_passes_146 : decode cX9_passes 146 = .ok (.bipush 9, 2) := by decide +kernel
theorem dX9_passes_148 : decode cX9_passes 148 = .ok (.dup2, 1) := by decide +kernel
theorem dX9_passes_149 : decode cX9_passes 149 = .ok (.iaload, 1) := by decide +kernel
theorem dX9_passes_150 : decode cX9_passes 150 = .ok (.aload_n 0, 1) := by decide +kernel
theorem dX9_passes_151 : decode cX9_passes 151 = .ok (.getfield 9, 3) := by decide +kernel
theorem dX9_passes_154 : decode cX9_passes 154 = .ok (.bipush 9, 2) := by decide +kernel
theorem dX9_passes_156 : decode cX9_passes 156 = .ok (.iaload, 1) := by decide +kernel
theorem dX9_passes_157 : decode cX9_passes 157 = .ok (.aload_n 0, 1) := by decide +kernel
theorem dX9_passes_158 : decode cX9_passes 158 = .ok (.getfield 9, 3) := by decide +kernel
theorem dX9_passes_161 : decode cX9_passes 161 = .ok (.iconst 5, 1) := by decide +kernel
theorem dX9_passes_162 : decode cX9_passes 162 = .ok (.iaload, 1) := by decide +kernel
theorem dX9_passes_163 : decode cX9_passes 163 = .ok (.ishr, 1) := by decide +kernel
theorem dX9_passes_164 : decode cX9_passes 164 = .ok (.isub, 1) := by decide +kernel
theorem dX9_passes_165 : decode cX9_passes 165 = .ok (.iastore, 1) := by decide +kernel
theorem dX9_passes_166 : decode cX9_passes 166 = .ok (.return_, 1) := by decide +kernel
theorem dX9_passesMany_0 : decode cX9_passesMany 0 = .ok (.iconst 0, 1) := by decide +kernel
theorem dX9_passesMany_1 : decode cX9_passesMany 1 = .ok (.istore_n 2, 1) := by decide +kernel
theorem dX9_passesMany_2 : decode cX9_passesMany 2 = .ok (.iload_n 2, 1) := by decide +kernel
theorem dX9_passesMany_3 : decode cX9_passesMany 3 = .ok (.iload_n 1, 1) := by decide +kernel
theorem dX9_passesMany_4 : decode cX9_passesMany 4 = .ok (.if_icmp .ge 13, 3) := by decide +kernel
theorem dX9_passesMany_7 : decode cX9_passesMany 7 = .ok (.aload_n 0, 1) := by decide +kernel
theorem dX9_passesMany_8 : decode cX9_passesMany 8 = .ok (.invokevirtual 172, 3) := by decide +kernel
theorem dX9_passesMany_11 : decode cX9_passesMany 11 = .ok (.iinc 2 1, 3) := by decide +kernel
theorem dX9_passesMany_14 : decode cX9_passesMany 14 = .ok (.goto (-12), 3) := by decide +kernel
theorem dX9_passesMany_17 : decode cX9_passesMany 17 = .ok (.return_, 1) := by decide +kernel
theorem dX9_script_0 : decode cX9_script 0 = .ok (.aload_n 0, 1) := by decide +kernel
theorem dX9_script_1 : decode cX9_script 1 = .ok (.iconst 0, 1) := by decide +kernel
theorem dX9_script_2 : decode cX9_script 2 = .ok (.putfield 191, 3) := by decide +kernel
theorem dX9_script_5 : decode cX9_script 5 = .ok (.aload_n 0, 1) := by decide +kernel
theorem dX9_script_6 : decode cX9_script 6 = .ok (.iconst 0, 1) := by decide +kernel
theorem dX9_script_7 : decode cX9_script 7 = .ok (.putfield 210, 3) := by decide +kernel
theorem dX9_script_10 : decode cX9_script 10 = .ok (.aload_n 0, 1) := by decide +kernel
theorem dX9_script_11 : decode cX9_script 11 = .ok (.iconst 0, 1) := by decide +kernel
theorem dX9_script_12 : decode cX9_script 12 = .ok (.putfield 320, 3) := by decide +kernel
theorem dX9_script_15 : decode cX9_script 15 = .ok (.aload_n 0, 1) := by decide +kernel
theorem dX9_script_16 : decode cX9_script 16 = .ok (.iconst 0, 1) := by decide +kernel
theorem dX9_script_17 : decode cX9_script 17 = .ok (.putfield 317, 3) := by decide +kernel
theorem dX9_script_20 : decode cX9_script 20 = .ok (.aload_n 0, 1) := by decide +kernel
theorem dX9_script_21 : decode cX9_script 21 = .ok (.iconst 0, 1) := by decide +kernel
theorem dX9_script_22 : decode cX9_script 22 = .ok (.putfield 332, 3) := by decide +kernel
theorem dX9_script_25 : decode cX9_script 25 = .ok (.aload_n 0, 1) := by decide +kernel
theorem dX9_script_26 : decode cX9_script 26 = .ok (.invokevirtual 233, 3) := by decide +kernel
theorem dX9_script_29 : decode cX9_script 29 = .ok (.aload_n 0, 1) := by decide +kernel
theorem dX9_script_30 : decode cX9_script 30 = .ok (.getfield 210, 3) := by decide +kernel
theorem dX9_script_33 : decode cX9_script 33 = .ok (.ifCond .ne 21, 3) := by decide +kernel
theorem dX9_script_36 : decode cX9_script 36 = .ok (.aload_n 0, 1) := by decide +kernel
theorem dX9_script_37 : decode cX9_script 37 = .ok (.getfield 200, 3) := by decide +kernel
theorem dX9_script_40 : decode cX9_script 40 = .ok (.ifCond .eq 14, 3) := by decide +kernel
theorem dX9_script_43 : decode cX9_script 43 = .ok (.aload_n 0, 1) := by decide +kernel
theorem dX9_script_44 : decode cX9_script 44 = .ok (.invokevirtual 335, 3) := by decide +kernel
theorem dX9_script_47 : decode cX9_script 47 = .ok (.aload_n 0, 1) := by decide +kernel
theorem dX9_script_48 : decode cX9_script 48 = .ok (.invokevirtual 338, 3) := by decide +kernel
theorem dX9_script_51 : decode cX9_script 51 = .ok (.goto (-22), 3) := by decide +kernel
theorem dX9_script_54 : decode cX9_script 54 = .ok (.aload_n 0, 1) := by decide +kernel
theorem dX9_script_55 : decode cX9_script 55 = .ok (.aload_n 0, 1) := by decide +kernel
theorem dX9_script_56 : decode cX9_script 56 = .ok (.getfield 332, 3) := by decide +kernel
theorem dX9_script_59 : decode cX9_script 59 = .ok (.ifCond .le 7, 3) := by decide +kernel
theorem dX9_script_62 : decode cX9_script 62 = .ok (.iconst 1, 1) := by decide +kernel
theorem dX9_script_63 : decode cX9_script 63 = .ok (.goto 4, 3) := by decide +kernel
theorem dX9_script_66 : decode cX9_script 66 = .ok (.iconst 0, 1) := by decide +kernel
theorem dX9_script_67 : decode cX9_script 67 = .ok (.iconst 1, 1) := by decide +kernel
theorem dX9_script_68 : decode cX9_script 68 = .ok (.invokevirtual 229, 3) := by decide +kernel
theorem dX9_script_71 : decode cX9_script 71 = .ok (.istore_n 1, 1) := by decide +kernel
theorem dX9_script_72 : decode cX9_script 72 = .ok (.return_, 1) := by decide +kernel
theorem dX9_does_0 : decode cX9_does 0 = .ok (.aload_n 0, 1) := by decide +kernel
theorem dX9_does_1 : decode cX9_does 1 = .ok (.getfield 36, 3) := by decide +kernel
theorem dX9_does_4 : decode cX9_does 4 = .ok (.iload_n 1, 1) := by decide +kernel
theorem dX9_does_5 : decode cX9_does 5 = .ok (.iaload, 1) := by decide +kernel
theorem dX9_does_6 : decode cX9_does 6 = .ok (.tableswitch 136 0 6 #[42, 53, 70, 87, 99, 111, 124], 42) := by decide +kernel
theorem dX9_does_48 : decode cX9_does 48 = .ok (.aload_n 0, 1) := by decide +kernel
theorem dX9_does_49 : decode cX9_does 49 = .ok (.aload_n 0, 1) := by decide +kernel
theorem dX9_does_50 : decode cX9_does 50 = .ok (.getfield 39, 3) := by decide +kernel
theorem dX9_does_53 : decode cX9_does 53 = .ok (.iload_n 1, 1) := by decide +kernel
theorem dX9_does_54 : decode cX9_does 54 = .ok (.iaload, 1) := by decide +kernel
theorem dX9_does_55 : decode cX9_does 55 = .ok (.invokevirtual 341, 3) := by decide +kernel
theorem dX9_does_58 : decode cX9_does 58 = .ok (.ireturn, 1) := by decide +kernel
theorem dX9_does_59 : decode cX9_does 59 = .ok (.aload_n 0, 1) := by decide +kernel
theorem dX9_does_60 : decode cX9_does 60 = .ok (.aload_n 0, 1) := by decide +kernel
theorem dX9_does_61 : decode cX9_does 61 = .ok (.getfield 39, 3) := by decide +kernel
theorem dX9_does_64 : decode cX9_does 64 = .ok (.iload_n 1, 1) := by decide +kernel
theorem dX9_does_65 : decode cX9_does 65 = .ok (.iaload, 1) := by decide +kernel
theorem dX9_does_66 : decode cX9_does 66 = .ok (.aload_n 0, 1) := by decide +kernel
theorem dX9_does_67 : decode cX9_does 67 = .ok (.getfield 42, 3) := by decide +kernel
theorem dX9_does_70 : decode cX9_does 70 = .ok (.iload_n 1, 1) := by decide +kernel
theorem dX9_does_71 : decode cX9_does 71 = .ok (.iaload, 1) := by decide +kernel
theorem dX9_does_72 : decode cX9_does 72 = .ok (.invokevirtual 156, 3) := by decide +kernel
theorem dX9_does_75 : decode cX9_does 75 = .ok (.ireturn, 1) := by decide +kernel
theorem dX9_does_76 : decode cX9_does 76 = .ok (.aload_n 0, 1) := by decide +kernel
theorem dX9_does_77 : decode cX9_does 77 = .ok (.aload_n 0, 1) := by decide +kernel
theorem dX9_does_78 : decode cX9_does 78 = .ok (.getfield 39, 3) := by decide +kernel
theorem dX9_does_81 : decode cX9_does 81 = .ok (.iload_n 1, 1) := by decide +kernel
theorem dX9_does_82 : decode cX9_does 82 = .ok (.iaload, 1) := by decide +kernel
theorem dX9_does_83 : decode cX9_does 83 = .ok (.aload_n 0, 1) := by decide +kernel
theorem dX9_does_84 : decode cX9_does 84 = .ok (.getfield 42, 3) := by decide +kernel
theorem dX9_does_87 : decode cX9_does 87 = .ok (.iload_n 1, 1) := by decide +kernel
theorem dX9_does_88 : decode cX9_does 88 = .ok (.iaload, 1) := by decide +kernel
theorem dX9_does_89 : decode cX9_does 89 = .ok (.invokevirtual 344, 3) := by decide +kernel
theorem dX9_does_92 : decode cX9_does 92 = .ok (.ireturn, 1) := by decide +kernel
theorem dX9_does_93 : decode cX9_does 93 = .ok (.aload_n 0, 1) := by decide +kernel
theorem dX9_does_94 : decode cX9_does 94 = .ok (.iconst 4, 1) := by decide +kernel
theorem dX9_does_95 : decode cX9_does 95 = .ok (.aload_n 0, 1) := by decide +kernel
theorem dX9_does_96 : decode cX9_does 96 = .ok (.getfield 39, 3) := by decide +kernel
theorem dX9_does_99 : decode cX9_does 99 = .ok (.iload_n 1, 1) := by decide +kernel
theorem dX9_does_100 : decode cX9_does 100 = .ok (.iaload, 1) := by decide +kernel
theorem dX9_does_101 : decode cX9_does 101 = .ok (.invokevirtual 347, 3) := by decide +kernel
theorem dX9_does_104 : decode cX9_does 104 = .ok (.ireturn, 1) := by decide +kernel
theorem dX9_does_105 : decode cX9_does 105 = .ok (.aload_n 0, 1) := by decide +kernel
theorem dX9_does_106 : decode cX9_does 106 = .ok (.iconst 5, 1) := by decide +kernel
theorem dX9_does_107 : decode cX9_does 107 = .ok (.aload_n 0, 1) := by decide +kernel
theorem dX9_does_108 : decode cX9_does 108 = .ok (.getfield 39, 3) := by decide +kernel
theorem dX9_does_111 : decode cX9_does 111 = .ok (.iload_n 1, 1) := by decide +kernel
theorem dX9_does_112 : decode cX9_does 112 = .ok (.iaload, 1) := by decide +kernel
theorem dX9_does_113 : decode cX9_does 113 = .ok (.invokevirtual 347, 3) := by decide +kernel
theorem dX9_does_116 : decode cX9_does 116 = .ok (.ireturn, 1) := by decide +kernel
theorem dX9_does_117 : decode cX9_does 117 = .ok (.aload_n 0, 1) := by decide +kernel
theorem dX9_does_118 : decode cX9_does 118 = .ok (.bipush 6, 2) := by decide +kernel
theorem dX9_does_120 : decode cX9_does 120 = .ok (.aload_n 0, 1) := by decide +kernel
theorem dX9_does_121 : decode cX9_does 121 = .ok (.getfield 39, 3) := by decide +kernel
theorem dX9_does_124 : decode cX9_does 124 = .ok (.iload_n 1, 1) := by decide +kernel
theorem dX9_does_125 : decode cX9_does 125 = .ok (.iaload, 1) := by decide +kernel
theorem dX9_does_126 : decode cX9_does 126 = .ok (.invokevirtual 347, 3) := by decide +kernel
theorem dX9_does_129 : decode cX9_does 129 = .ok (.ireturn, 1) := by decide +kernel
theorem dX9_does_130 : decode cX9_does 130 = .ok (.aload_n 0, 1) := by decide +kernel
theorem dX9_does_131 : decode cX9_does 131 = .ok (.aload_n 0, 1) := by decide +kernel
theorem dX9_does_132 : decode cX9_does 132 = .ok (.getfield 39, 3) := by decide +kernel
theorem dX9_does_135 : decode cX9_does 135 = .ok (.iload_n 1, 1) := by decide +kernel
theorem dX9_does_136 : decode cX9_does 136 = .ok (.iaload, 1) := by decide +kernel
theorem dX9_does_137 : decode cX9_does 137 = .ok (.iconst 0, 1) := by decide +kernel
theorem dX9_does_138 : decode cX9_does 138 = .ok (.invokevirtual 350, 3) := by decide +kernel
theorem dX9_does_141 : decode cX9_does 141 = .ok (.ireturn, 1) := by decide +kernel
theorem dX9_does_142 : decode cX9_does 142 = .ok (.aload_n 0, 1) := by decide +kernel
theorem dX9_does_143 : decode cX9_does 143 = .ok (.aload_n 0, 1) := by decide +kernel
theorem dX9_does_144 : decode cX9_does 144 = .ok (.getfield 39, 3) := by decide +kernel
theorem dX9_does_147 : decode cX9_does 147 = .ok (.iload_n 1, 1) := by decide +kernel
theorem dX9_does_148 : decode cX9_does 148 = .ok (.iaload, 1) := by decide +kernel
theorem dX9_does_149 : decode cX9_does 149 = .ok (.iconst 1, 1) := by decide +kernel
theorem dX9_does_150 : decode cX9_does 150 = .ok (.invokevirtual 350, 3) := by decide +kernel
theorem dX9_does_153 : decode cX9_does 153 = .ok (.ireturn, 1) := by decide +kernel
theorem dX9_chance_0 : decode cX9_chance 0 = .ok (.aload_n 0, 1) := by decide +kernel
theorem dX9_chance_1 : decode cX9_chance 1 = .ok (.iconst 0, 1) := by decide +kernel
theorem dX9_chance_2 : decode cX9_chance 2 = .ok (.putfield 60, 3) := by decide +kernel
theorem dX9_chance_5 : decode cX9_chance 5 = .ok (.aload_n 0, 1) := by decide +kernel
theorem dX9_chance_6 : decode cX9_chance 6 = .ok (.iload_n 1, 1) := by decide +kernel
theorem dX9_chance_7 : decode cX9_chance 7 = .ok (.iconst 0, 1) := by decide +kernel
theorem dX9_chance_8 : decode cX9_chance 8 = .ok (.ldc_w 398, 3) := by decide +kernel
theorem dX9_chance_11 : decode cX9_chance 11 = .ok (.invokestatic 63, 3) := by decide +kernel
theorem dX9_chance_14 : decode cX9_chance 14 = .ok (.ifCond .eq 14, 3) := by decide +kernel
theorem dX9_chance_17 : decode cX9_chance 17 = .ok (.iload_n 2, 1) := by decide +kernel
theorem dX9_chance_18 : decode cX9_chance 18 = .ok (.iconst 0, 1) := by decide +kernel
theorem dX9_chance_19 : decode cX9_chance 19 = .ok (.sipush 9999, 3) := by decide +kernel
theorem dX9_chance_22 : decode cX9_chance 22 = .ok (.invokestatic 63, 3) := by decide +kernel
theorem dX9_chance_25 : decode cX9_chance 25 = .ok (.ifCond .ne 7, 3) := by decide +kernel
theorem dX9_chance_28 : decode cX9_chance 28 = .ok (.iconst 1, 1) := by decide +kernel
theorem dX9_chance_29 : decode cX9_chance 29 = .ok (.goto 4, 3) := by decide +kernel
theorem dX9_chance_32 : decode cX9_chance 32 = .ok (.iconst 0, 1) := by decide +kernel
theorem dX9_chance_33 : decode cX9_chance 33 = .ok (.iconst 1, 1) := by decide +kernel
theorem dX9_chance_34 : decode cX9_chance 34 = .ok (.invokevirtual 366, 3) := by decide +kernel
theorem dX9_chance_37 : decode cX9_chance 37 = .ok (.ifCond .eq 7, 3) := by decide +kernel
theorem dX9_chance_40 : decode cX9_chance 40 = .ok (.iconst 0, 1) := by decide +kernel
theorem dX9_chance_41 : decode cX9_chance 41 = .ok (.goto 12, 3) := by decide +kernel
theorem dX9_chance_44 : decode cX9_chance 44 = .ok (.aload_n 0, 1) := by decide +kernel
theorem dX9_chance_45 : decode cX9_chance 45 = .ok (.iload_n 1, 1) := by decide +kernel
theorem dX9_chance_46 : decode cX9_chance 46 = .ok (.invokevirtual 128, 3) := by decide +kernel
theorem dX9_chance_49 : decode cX9_chance 49 = .ok (.iload_n 2, 1) := by decide +kernel
theorem dX9_chance_50 : decode cX9_chance 50 = .ok (.invokestatic 132, 3) := by decide +kernel
theorem dX9_chance_53 : decode cX9_chance 53 = .ok (.ireturn, 1) := by decide +kernel
theorem dX9_chanceBy_0 : decode cX9_chanceBy 0 = .ok (.aload_n 0, 1) := by decide +kernel
theorem dX9_chanceBy_1 : decode cX9_chanceBy 1 = .ok (.iload_n 1, 1) := by decide +kernel
theorem dX9_chanceBy_2 : decode cX9_chanceBy 2 = .ok (.iload_n 2, 1) := by decide +kernel
theorem dX9_chanceBy_3 : decode cX9_chanceBy 3 = .ok (.invokevirtual 109, 3) := by decide +kernel
theorem dX9_chanceBy_6 : decode cX9_chanceBy 6 = .ok (.istore 4, 2) := by decide +kernel
theorem dX9_chanceBy_8 : decode cX9_chanceBy 8 = .ok (.iload 4, 2) := by decide +kernel
theorem dX9_chanceBy_10 : decode cX9_chanceBy 10 = .ok (.iconst 1, 1) := by decide +kernel
theorem dX9_chanceBy_11 : decode cX9_chanceBy 11 = .ok (.if_icmp .ne 7, 3) := by decide +kernel
theorem dX9_chanceBy_14 : decode cX9_chanceBy 14 = .ok (.iconst 0, 1) := by decide +kernel
theorem dX9_chanceBy_15 : decode cX9_chanceBy 15 = .ok (.goto 23, 3) := by decide +kernel
theorem dX9_chanceBy_18 : decode cX9_chanceBy 18 = .ok (.iload 4, 2) := by decide +kernel
theorem dX9_chanceBy_20 : decode cX9_chanceBy 20 = .ok (.iconst 3, 1) := by decide +kernel
theorem dX9_chanceBy_21 : decode cX9_chanceBy 21 = .ok (.if_icmp .ne 15, 3) := by decide +kernel
theorem dX9_chanceBy_24 : decode cX9_chanceBy 24 = .ok (.aload_n 0, 1) := by decide +kernel
theorem dX9_chanceBy_25 : decode cX9_chanceBy 25 = .ok (.iload_n 1, 1) := by decide +kernel
theorem dX9_chanceBy_26 : decode cX9_chanceBy 26 = .ok (.invokevirtual 128, 3) := by decide +kernel
theorem dX9_chanceBy_29 : decode cX9_chanceBy 29 = .ok (.iload_n 3, 1) := by decide +kernel
theorem dX9_chanceBy_30 : decode cX9_chanceBy 30 = .ok (.invokestatic 132, 3) := by decide +kernel
theorem dX9_chanceBy_33 : decode cX9_chanceBy 33 = .ok (.goto 5, 3) := by decide +kernel
theorem dX9_chanceBy_36 : decode cX9_chanceBy 36 = .ok (.ldc 90, 2) := by decide +kernel
theorem dX9_chanceBy_38 : decode cX9_chanceBy 38 = .ok (.ireturn, 1) := by decide +kernel
theorem dX9_nextChance_0 : decode cX9_nextChance 0 = .ok (.aload_n 0, 1) := by decide +kernel
theorem dX9_nextChance_1 : decode cX9_nextChance 1 = .ok (.iconst 0, 1) := by decide +kernel
theorem dX9_nextChance_2 : decode cX9_nextChance 2 = .ok (.putfield 60, 3) := by decide +kernel
theorem dX9_nextChance_5 : decode cX9_nextChance 5 = .ok (.aload_n 0, 1) := by decide +kernel
theorem dX9_nextChance_6 : decode cX9_nextChance 6 = .ok (.aload_n 0, 1) := by decide +kernel
theorem dX9_nextChance_7 : decode cX9_nextChance 7 = .ok (.aload_n 0, 1) := by decide +kernel
theorem dX9_nextChance_8 : decode cX9_nextChance 8 = .ok (.getfield 9, 3) := by decide +kernel
theorem dX9_nextChance_11 : decode cX9_nextChance 11 = .ok (.bipush 9, 2) := by decide +kernel
theorem dX9_nextChance_13 : decode cX9_nextChance 13 = .ok (.iaload, 1) := by decide +kernel
theorem dX9_nextChance_14 : decode cX9_nextChance 14 = .ok (.aload_n 0, 1) := by decide +kernel
theorem dX9_nextChance_15 : decode cX9_nextChance 15 = .ok (.getfield 9, 3) := by decide +kernel
theorem dX9_nextChance_18 : decode cX9_nextChance 18 = .ok (.bipush 8, 2) := by decide +kernel
theorem dX9_nextChance_20 : decode cX9_nextChance 20 = .ok (.iaload, 1) := by decide +kernel
theorem dX9_nextChance_21 : decode cX9_nextChance 21 = .ok (.invokevirtual 106, 3) := by decide +kernel
theorem dX9_nextChance_24 : decode cX9_nextChance 24 = .ok (.aload_n 0, 1) := by decide +kernel
theorem dX9_nextChance_25 : decode cX9_nextChance 25 = .ok (.getfield 9, 3) := by decide +kernel
theorem dX9_nextChance_28 : decode cX9_nextChance 28 = .ok (.bipush 8, 2) := by decide +kernel
theorem dX9_nextChance_30 : decode cX9_nextChance 30 = .ok (.iaload, 1) := by decide +kernel
theorem dX9_nextChance_31 : decode cX9_nextChance 31 = .ok (.aload_n 0, 1) := by decide +kernel
theorem dX9_nextChance_32 : decode cX9_nextChance 32 = .ok (.getfield 9, 3) := by decide +kernel
theorem dX9_nextChance_35 : decode cX9_nextChance 35 = .ok (.bipush 10, 2) := by decide +kernel
theorem dX9_nextChance_37 : decode cX9_nextChance 37 = .ok (.iaload, 1) := by decide +kernel
theorem dX9_nextChance_38 : decode cX9_nextChance 38 = .ok (.iconst 1, 1) := by decide +kernel
theorem dX9_nextChance_39 : decode cX9_nextChance 39 = .ok (.iadd, 1) := by decide +kernel
theorem dX9_nextChance_40 : decode cX9_nextChance 40 = .ok (.invokevirtual 399, 3) := by decide +kernel
theorem dX9_nextChance_43 : decode cX9_nextChance 43 = .ok (.ireturn, 1) := by decide +kernel
theorem dX9_burstOf_0 : decode cX9_burstOf 0 = .ok (.dconst 1, 1) := by decide +kernel
theorem dX9_burstOf_1 : decode cX9_burstOf 1 = .ok (.dstore_n 2, 1) := by decide +kernel
theorem dX9_burstOf_2 : decode cX9_burstOf 2 = .ok (.aload_n 0, 1) := by decide +kernel
theorem dX9_burstOf_3 : decode cX9_burstOf 3 = .ok (.getfield 9, 3) := by decide +kernel
theorem dX9_burstOf_6 : decode cX9_burstOf 6 = .ok (.bipush 9, 2) := by decide +kernel
theorem dX9_burstOf_8 : decode cX9_burstOf 8 = .ok (.iaload, 1) := by decide +kernel
theorem dX9_burstOf_9 : decode cX9_burstOf 9 = .ok (.istore 4, 2) := by decide +kernel
theorem dX9_burstOf_11 : decode cX9_burstOf 11 = .ok (.aload_n 0, 1) := by decide +kernel
theorem dX9_burstOf_12 : decode cX9_burstOf 12 = .ok (.getfield 9, 3) := by decide +kernel
theorem dX9_burstOf_15 : decode cX9_burstOf 15 = .ok (.bipush 10, 2) := by decide +kernel
theorem dX9_burstOf_17 : decode cX9_burstOf 17 = .ok (.iaload, 1) := by decide +kernel
theorem dX9_burstOf_18 : decode cX9_burstOf 18 = .ok (.istore 5, 2) := by decide +kernel
theorem dX9_burstOf_20 : decode cX9_burstOf 20 = .ok (.aload_n 0, 1) := by decide +kernel
theorem dX9_burstOf_21 : decode cX9_burstOf 21 = .ok (.getfield 9, 3) := by decide +kernel
theorem dX9_burstOf_24 : decode cX9_burstOf 24 = .ok (.bipush 8, 2) := by decide +kernel
theorem dX9_burstOf_26 : decode cX9_burstOf 26 = .ok (.iaload, 1) := by decide +kernel
theorem dX9_burstOf_27 : decode cX9_burstOf 27 = .ok (.istore 6, 2) := by decide +kernel
theorem dX9_burstOf_29 : decode cX9_burstOf 29 = .ok (.iconst 0, 1) := by decide +kernel
theorem dX9_burstOf_30 : decode cX9_burstOf 30 = .ok (.istore 7, 2) := by decide +kernel
theorem dX9_burstOf_32 : decode cX9_burstOf 32 = .ok (.iload 7, 2) := by decide +kernel
theorem dX9_burstOf_34 : decode cX9_burstOf 34 = .ok (.iload_n 1, 1) := by decide +kernel
theorem dX9_burstOf_35 : decode cX9_burstOf 35 = .ok (.if_icmp .ge 77, 3) := by decide +kernel
theorem dX9_burstOf_38 : decode cX9_burstOf 38 = .ok (.aload_n 0, 1) := by decide +kernel
theorem dX9_burstOf_39 : decode cX9_burstOf 39 = .ok (.iload 4, 2) := by decide +kernel
theorem dX9_burstOf_41 : decode cX9_burstOf 41 = .ok (.iload 6, 2) := by decide +kernel
theorem dX9_burstOf_43 : decode cX9_burstOf 43 = .ok (.invokevirtual 106, 3) := by decide +kernel
theorem dX9_burstOf_46 : decode cX9_burstOf 46 = .ok (.istore 4, 2) := by decide +kernel
theorem dX9_burstOf_48 : decode cX9_burstOf 48 = .ok (.aload_n 0, 1) := by decide +kernel
theorem dX9_burstOf_49 : decode cX9_burstOf 49 = .ok (.iload 4, 2) := by decide +kernel
theorem dX9_burstOf_51 : decode cX9_burstOf 51 = .ok (.iload 6, 2) := by decide +kernel
theorem dX9_burstOf_53 : decode cX9_burstOf 53 = .ok (.iload 5, 2) := by decide +kernel
theorem dX9_burstOf_55 : decode cX9_burstOf 55 = .ok (.iconst 1, 1) := by decide +kernel
theorem dX9_burstOf_56 : decode cX9_burstOf 56 = .ok (.iadd, 1) := by decide +kernel
theorem dX9_burstOf_57 : decode cX9_burstOf 57 = .ok (.invokevirtual 399, 3) := by decide +kernel
theorem dX9_burstOf_60 : decode cX9_burstOf 60 = .ok (.istore 8, 2) := by decide +kernel
theorem dX9_burstOf_62 : decode cX9_burstOf 62 = .ok (.iload 8, 2) := by decide +kernel
theorem dX9_burstOf_64 : decode cX9_burstOf 64 = .ok (.ldc 90, 2) := by decide +kernel
theorem dX9_burstOf_66 : decode cX9_burstOf 66 = .ok (.if_icmp .ne 5, 3) := by decide +kernel
theorem dX9_burstOf_69 : decode cX9_burstOf 69 = .ok (.dconst 0, 1) := by decide +kernel
theorem dX9_burstOf_70 : decode cX9_burstOf 70 = .ok (.dreturn, 1) := by decide +kernel
theorem dX9_burstOf_71 : decode cX9_burstOf 71 = .ok (.dload_n 2, 1) := by decide +kernel
theorem dX9_burstOf_72 : decode cX9_burstOf 72 = .ok (.ldc 90, 2) := by decide +kernel
theorem dX9_burstOf_74 : decode cX9_burstOf 74 = .ok (.iload 8, 2) := by decide +kernel
theorem dX9_burstOf_76 : decode cX9_burstOf 76 = .ok (.isub, 1) := by decide +kernel
theorem dX9_burstOf_77 : decode cX9_burstOf 77 = .ok (.i2d, 1) := by decide +kernel
theorem dX9_burstOf_78 : decode cX9_burstOf 78 = .ok (.ldc2_w 402, 3) := by decide +kernel
theorem dX9_burstOf_81 : decode cX9_burstOf 81 = .ok (.ddiv, 1) := by decide +kernel
theorem dX9_burstOf_82 : decode cX9_burstOf 82 = .ok (.dmul, 1) := by decide +kernel
theorem dX9_burstOf_83 : decode cX9_burstOf 83 = .ok (.dstore_n 2, 1) := by decide +kernel
theorem dX9_burstOf_84 : decode cX9_burstOf 84 = .ok (.iload 4, 2) := by decide +kernel
theorem dX9_burstOf_86 : decode cX9_burstOf 86 = .ok (.aload_n 0, 1) := by decide +kernel
theorem dX9_burstOf_87 : decode cX9_burstOf 87 = .ok (.invokevirtual 82, 3) := by decide +kernel
theorem dX9_burstOf_90 : decode cX9_burstOf 90 = .ok (.if_icmp .ge 7, 3) := by decide +kernel
theorem dX9_burstOf_93 : decode cX9_burstOf 93 = .ok (.iconst (-1), 1) := by decide +kernel
theorem dX9_burstOf_94 : decode cX9_burstOf 94 = .ok (.goto 7, 3) := by decide +kernel
theorem dX9_burstOf_97 : decode cX9_burstOf 97 = .ok (.iload 5, 2) := by decide +kernel
theorem dX9_burstOf_99 : decode cX9_burstOf 99 = .ok (.iconst 1, 1) := by decide +kernel
theorem dX9_burstOf_100 : decode cX9_burstOf 100 = .ok (.iadd, 1) := by decide +kernel
theorem dX9_burstOf_101 : decode cX9_burstOf 101 = .ok (.istore 5, 2) := by decide +kernel
theorem dX9_burstOf_103 : decode cX9_burstOf 103 = .ok (.iinc 6 1, 3) := by decide +kernel
theorem dX9_burstOf_106 : decode cX9_burstOf 106 = .ok (.iinc 7 1, 3) := by decide +kernel
theorem dX9_burstOf_109 : decode cX9_burstOf 109 = .ok (.goto (-77), 3) := by decide +kernel
theorem dX9_burstOf_112 : decode cX9_burstOf 112 = .ok (.dload_n 2, 1) := by decide +kernel
theorem dX9_burstOf_113 : decode cX9_burstOf 113 = .ok (.dreturn, 1) := by decide +kernel
theorem dX9_burst_0 : decode cX9_burst 0 = .ok (.aload_n 0, 1) := by decide +kernel
theorem dX9_burst_1 : decode cX9_burst 1 = .ok (.iconst 0, 1) := by decide +kernel
theorem dX9_burst_2 : decode cX9_burst 2 = .ok (.putfield 60, 3) := by decide +kernel
theorem dX9_burst_5 : decode cX9_burst 5 = .ok (.aload_n 0, 1) := by decide +kernel
theorem dX9_burst_6 : decode cX9_burst 6 = .ok (.iload_n 1, 1) := by decide +kernel
theorem dX9_burst_7 : decode cX9_burst 7 = .ok (.iconst 1, 1) := by decide +kernel
theorem dX9_burst_8 : decode cX9_burst 8 = .ok (.bipush 60, 2) := by decide +kernel
theorem dX9_burst_10 : decode cX9_burst 10 = .ok (.invokestatic 63, 3) := by decide +kernel
theorem dX9_burst_13 : decode cX9_burst 13 = .ok (.ifCond .ne 7, 3) := by decide +kernel
theorem dX9_burst_16 : decode cX9_burst 16 = .ok (.iconst 1, 1) := by decide +kernel
theorem dX9_burst_17 : decode cX9_burst 17 = .ok (.goto 4, 3) := by decide +kernel
theorem dX9_burst_20 : decode cX9_burst 20 = .ok (.iconst 0, 1) := by decide +kernel
theorem dX9_burst_21 : decode cX9_burst 21 = .ok (.iconst 1, 1) := by decide +kernel
theorem dX9_burst_22 : decode cX9_burst 22 = .ok (.invokevirtual 366, 3) := by decide +kernel
theorem dX9_burst_25 : decode cX9_burst 25 = .ok (.ifCond .eq 7, 3) := by decide +kernel
theorem dX9_burst_28 : decode cX9_burst 28 = .ok (.dconst 0, 1) := by decide +kernel
theorem dX9_burst_29 : decode cX9_burst 29 = .ok (.goto 8, 3) := by decide +kernel
theorem dX9_burst_32 : decode cX9_burst 32 = .ok (.aload_n 0, 1) := by decide +kernel
theorem dX9_burst_33 : decode cX9_burst 33 = .ok (.iload_n 1, 1) := by decide +kernel
theorem dX9_burst_34 : decode cX9_burst 34 = .ok (.invokevirtual 404, 3) := by decide +kernel
theorem dX9_burst_37 : decode cX9_burst 37 = .ok (.dreturn, 1) := by decide +kernel
theorem dX9_sureBurst_0 : decode cX9_sureBurst 0 = .ok (.aload_n 0, 1) := by decide +kernel
theorem dX9_sureBurst_1 : decode cX9_sureBurst 1 = .ok (.iconst 0, 1) := by decide +kernel
theorem dX9_sureBurst_2 : decode cX9_sureBurst 2 = .ok (.putfield 60, 3) := by decide +kernel
theorem dX9_sureBurst_5 : decode cX9_sureBurst 5 = .ok (.aload_n 0, 1) := by decide +kernel
theorem dX9_sureBurst_6 : decode cX9_sureBurst 6 = .ok (.iload_n 1, 1) := by decide +kernel
theorem dX9_sureBurst_7 : decode cX9_sureBurst 7 = .ok (.iconst 1, 1) := by decide +kernel
theorem dX9_sureBurst_8 : decode cX9_sureBurst 8 = .ok (.bipush 100, 2) := by decide +kernel
theorem dX9_sureBurst_10 : decode cX9_sureBurst 10 = .ok (.invokestatic 63, 3) := by decide +kernel
theorem dX9_sureBurst_13 : decode cX9_sureBurst 13 = .ok (.ifCond .ne 7, 3) := by decide +kernel
theorem dX9_sureBurst_16 : decode cX9_sureBurst 16 = .ok (.iconst 1, 1) := by decide +kernel
theorem dX9_sureBurst_17 : decode cX9_sureBurst 17 = .ok (.goto 4, 3) := by decide +kernel
theorem dX9_sureBurst_20 : decode cX9_sureBurst 20 = .ok (.iconst 0, 1) := by decide +kernel
theorem dX9_sureBurst_21 : decode cX9_sureBurst 21 = .ok (.iconst 1, 1) := by decide +kernel
theorem dX9_sureBurst_22 : decode cX9_sureBurst 22 = .ok (.invokevirtual 366, 3) := by decide +kernel
theorem dX9_sureBurst_25 : decode cX9_sureBurst 25 = .ok (.ifCond .eq 5, 3) := by decide +kernel
theorem dX9_sureBurst_28 : decode cX9_sureBurst 28 = .ok (.iconst 0, 1) := by decide +kernel
theorem dX9_sureBurst_29 : decode cX9_sureBurst 29 = .ok (.ireturn, 1) := by decide +kernel
theorem dX9_sureBurst_30 : decode cX9_sureBurst 30 = .ok (.iconst 0, 1) := by decide +kernel
theorem dX9_sureBurst_31 : decode cX9_sureBurst 31 = .ok (.istore_n 2, 1) := by decide +kernel
theorem dX9_sureBurst_32 : decode cX9_sureBurst 32 = .ok (.iload_n 2, 1) := by decide +kernel
theorem dX9_sureBurst_33 : decode cX9_sureBurst 33 = .ok (.bipush 60, 2) := by decide +kernel
theorem dX9_sureBurst_35 : decode cX9_sureBurst 35 = .ok (.if_icmp .ge 26, 3) := by decide +kernel
theorem dX9_sureBurst_38 : decode cX9_sureBurst 38 = .ok (.aload_n 0, 1) := by decide +kernel
theorem dX9_sureBurst_39 : decode cX9_sureBurst 39 = .ok (.iload_n 2, 1) := by decide +kernel
theorem dX9_sureBurst_40 : decode cX9_sureBurst 40 = .ok (.iconst 1, 1) := by decide +kernel
theorem dX9_sureBurst_41 : decode cX9_sureBurst 41 = .ok (.iadd, 1) := by decide +kernel
theorem dX9_sureBurst_42 : decode cX9_sureBurst 42 = .ok (.invokevirtual 404, 3) := by decide +kernel
theorem dX9_sureBurst_45 : decode cX9_sureBurst 45 = .ok (.iload_n 1, 1) := by decide +kernel
theorem dX9_sureBurst_46 : decode cX9_sureBurst 46 = .ok (.i2d, 1) := by decide +kernel
theorem dX9_sureBurst_47 : decode cX9_sureBurst 47 = .ok (.ldc2_w 408, 3) := by decide +kernel
theorem dX9_sureBurst_50 : decode cX9_sureBurst 50 = .ok (.ddiv, 1) := by decide +kernel
theorem dX9_sureBurst_51 : decode cX9_sureBurst 51 = .ok (.dcmp .l, 1) := by decide +kernel
theorem dX9_sureBurst_52 : decode cX9_sureBurst 52 = .ok (.ifCond .lt 9, 3) := by decide +kernel
theorem dX9_sureBurst_55 : decode cX9_sureBurst 55 = .ok (.iinc 2 1, 3) := by decide +kernel
theorem dX9_sureBurst_58 : decode cX9_sureBurst 58 = .ok (.goto (-26), 3) := by decide +kernel
theorem dX9_sureBurst_61 : decode cX9_sureBurst 61 = .ok (.iload_n 2, 1) := by decide +kernel
theorem dX9_sureBurst_62 : decode cX9_sureBurst 62 = .ok (.ireturn, 1) := by decide +kernel
theorem dX9_accountIn_0 : decode cX9_accountIn 0 = .ok (.aload_n 0, 1) := by decide +kernel
theorem dX9_accountIn_1 : decode cX9_accountIn 1 = .ok (.iconst 0, 1) := by decide +kernel
theorem dX9_accountIn_2 : decode cX9_accountIn 2 = .ok (.putfield 60, 3) := by decide +kernel
theorem dX9_accountIn_5 : decode cX9_accountIn 5 = .ok (.aload_n 0, 1) := by decide +kernel
theorem dX9_accountIn_6 : decode cX9_accountIn 6 = .ok (.iload_n 1, 1) := by decide +kernel
theorem dX9_accountIn_7 : decode cX9_accountIn 7 = .ok (.invokevirtual 384, 3) := by decide +kernel
theorem dX9_accountIn_10 : decode cX9_accountIn 10 = .ok (.ifCond .ne 24, 3) := by decide +kernel
theorem dX9_accountIn_13 : decode cX9_accountIn 13 = .ok (.aload_n 0, 1) := by decide +kernel
theorem dX9_accountIn_14 : decode cX9_accountIn 14 = .ok (.iload_n 2, 1) := by decide +kernel
theorem dX9_accountIn_15 : decode cX9_accountIn 15 = .ok (.invokevirtual 387, 3) := by decide +kernel
theorem dX9_accountIn_18 : decode cX9_accountIn 18 = .ok (.ifCond .ne 16, 3) := by decide +kernel
theorem dX9_accountIn_21 : decode cX9_accountIn 21 = .ok (.aload_n 0, 1) := by decide +kernel
theorem dX9_accountIn_22 : decode cX9_accountIn 22 = .ok (.iload_n 3, 1) := by decide +kernel
theorem dX9_accountIn_23 : decode cX9_accountIn 23 = .ok (.iconst 0, 1) := by decide +kernel
theorem dX9_accountIn_24 : decode cX9_accountIn 24 = .ok (.sipush 200, 3) := by decide +kernel
theorem dX9_accountIn_27 : decode cX9_accountIn 27 = .ok (.iconst 2, 1) := by decide +kernel
theorem dX9_accountIn_28 : decode cX9_accountIn 28 = .ok (.invokevirtual 410, 3) := by decide +kernel
theorem dX9_accountIn_31 : decode cX9_accountIn 31 = .ok (.ifCond .eq 5, 3) := by decide +kernel
theorem dX9_accountIn_34 : decode cX9_accountIn 34 = .ok (.lconst 0, 1) := by decide +kernel
theorem dX9_accountIn_35 : decode cX9_accountIn 35 = .ok (.lreturn, 1) := by decide +kernel
theorem dX9_accountIn_36 : decode cX9_accountIn 36 = .ok (.aload_n 0, 1) := by decide +kernel
theorem dX9_accountIn_37 : decode cX9_accountIn 37 = .ok (.invokevirtual 286, 3) := by decide +kernel
theorem dX9_accountIn_40 : decode cX9_accountIn 40 = .ok (.aload_n 0, 1) := by decide +kernel
theorem dX9_accountIn_41 : decode cX9_accountIn 41 = .ok (.iload_n 1, 1) := by decide +kernel
theorem dX9_accountIn_42 : decode cX9_accountIn 42 = .ok (.iload_n 2, 1) := by decide +kernel
theorem dX9_accountIn_43 : decode cX9_accountIn 43 = .ok (.invokevirtual 75, 3) := by decide +kernel
theorem dX9_accountIn_46 : decode cX9_accountIn 46 = .ok (.istore 4, 2) := by decide +kernel
theorem dX9_accountIn_48 : decode cX9_accountIn 48 = .ok (.aload_n 0, 1) := by decide +kernel
theorem dX9_accountIn_49 : decode cX9_accountIn 49 = .ok (.iload_n 3, 1) := by decide +kernel
theorem dX9_accountIn_50 : decode cX9_accountIn 50 = .ok (.invokevirtual 414, 3) := by decide +kernel
theorem dX9_accountIn_53 : decode cX9_accountIn 53 = .ok (.aload_n 0, 1) := by decide +kernel
theorem dX9_accountIn_54 : decode cX9_accountIn 54 = .ok (.aload_n 0, 1) := by decide +kernel
theorem dX9_accountIn_55 : decode cX9_accountIn 55 = .ok (.iload_n 1, 1) := by decide +kernel
theorem dX9_accountIn_56 : decode cX9_accountIn 56 = .ok (.iload_n 2, 1) := by decide +kernel
theorem dX9_accountIn_57 : decode cX9_accountIn 57 = .ok (.invokevirtual 75, 3) := by decide +kernel
theorem dX9_accountIn_60 : decode cX9_accountIn 60 = .ok (.iload 4, 2) := by decide +kernel
theorem dX9_accountIn_62 : decode cX9_accountIn 62 = .ok (.isub, 1) := by decide +kernel
theorem dX9_accountIn_63 : decode cX9_accountIn 63 = .ok (.invokevirtual 295, 3) := by decide +kernel
theorem dX9_accountIn_66 : decode cX9_accountIn 66 = .ok (.i2l, 1) := by decide +kernel
theorem dX9_accountIn_67 : decode cX9_accountIn 67 = .ok (.lreturn, 1) := by decide +kernel
theorem dX9_queueIn_0 : decode cX9_queueIn 0 = .ok (.aload_n 0, 1) := by decide +kernel
theorem dX9_queueIn_1 : decode cX9_queueIn 1 = .ok (.iconst 0, 1) := by decide +kernel
theorem dX9_queueIn_2 : decode cX9_queueIn 2 = .ok (.putfield 60, 3) := by decide +kernel
theorem dX9_queueIn_5 : decode cX9_queueIn 5 = .ok (.aload_n 0, 1) := by decide +kernel
theorem dX9_queueIn_6 : decode cX9_queueIn 6 = .ok (.iload_n 1, 1) := by decide +kernel
theorem dX9_queueIn_7 : decode cX9_queueIn 7 = .ok (.iconst 0, 1) := by decide +kernel
theorem dX9_queueIn_8 : decode cX9_queueIn 8 = .ok (.sipush 200, 3) := by decide +kernel
theorem dX9_queueIn_11 : decode cX9_queueIn 11 = .ok (.iconst 1, 1) := by decide +kernel
theorem dX9_queueIn_12 : decode cX9_queueIn 12 = .ok (.invokevirtual 410, 3) := by decide +kernel
theorem dX9_queueIn_15 : decode cX9_queueIn 15 = .ok (.ifCond .eq 5, 3) := by decide +kernel
theorem dX9_queueIn_18 : decode cX9_queueIn 18 = .ok (.iconst 0, 1) := by decide +kernel
theorem dX9_queueIn_19 : decode cX9_queueIn 19 = .ok (.ireturn, 1) := by decide +kernel
theorem dX9_queueIn_20 : decode cX9_queueIn 20 = .ok (.aload_n 0, 1) := by decide +kernel
theorem dX9_queueIn_21 : decode cX9_queueIn 21 = .ok (.invokevirtual 286, 3) := by decide +kernel
theorem dX9_queueIn_24 : decode cX9_queueIn 24 = .ok (.aload_n 0, 1) := by decide +kernel
theorem dX9_queueIn_25 : decode cX9_queueIn 25 = .ok (.iload_n 1, 1) := by decide +kernel
theorem dX9_queueIn_26 : decode cX9_queueIn 26 = .ok (.invokevirtual 414, 3) := by decide +kernel
theorem dX9_queueIn_29 : decode cX9_queueIn 29 = .ok (.aload_n 0, 1) := by decide +kernel
theorem dX9_queueIn_30 : decode cX9_queueIn 30 = .ok (.aload_n 0, 1) := by decide +kernel
theorem dX9_queueIn_31 : decode cX9_queueIn 31 = .ok (.getfield 9, 3) := by decide +kernel
theorem dX9_queueIn_34 : decode cX9_queueIn 34 = .ok (.bipush 8, 2) := by decide +kernel
theorem dX9_queueIn_36 : decode cX9_queueIn 36 = .ok (.iaload, 1) := by decide +kernel
theorem dX9_queueIn_37 : decode cX9_queueIn 37 = .ok (.invokevirtual 295, 3) := by decide +kernel
theorem dX9_queueIn_40 : decode cX9_queueIn 40 = .ok (.ireturn, 1) := by decide +kernel
theorem dX9_averageIn_0 : decode cX9_averageIn 0 = .ok (.aload_n 0, 1) := by decide +kernel
theorem dX9_averageIn_1 : decode cX9_averageIn 1 = .ok (.iconst 0, 1) := by decide +kernel
theorem dX9_averageIn_2 : decode cX9_averageIn 2 = .ok (.putfield 60, 3) := by decide +kernel
theorem dX9_averageIn_5 : decode cX9_averageIn 5 = .ok (.aload_n 0, 1) := by decide +kernel
theorem dX9_averageIn_6 : decode cX9_averageIn 6 = .ok (.iload_n 1, 1) := by decide +kernel
theorem dX9_averageIn_7 : decode cX9_averageIn 7 = .ok (.iconst 0, 1) := by decide +kernel
theorem dX9_averageIn_8 : decode cX9_averageIn 8 = .ok (.sipush 200, 3) := by decide +kernel
theorem dX9_averageIn_11 : decode cX9_averageIn 11 = .ok (.iconst 1, 1) := by decide +kernel
theorem dX9_averageIn_12 : decode cX9_averageIn 12 = .ok (.invokevirtual 410, 3) := by decide +kernel
theorem dX9_averageIn_15 : decode cX9_averageIn 15 = .ok (.ifCond .eq 5, 3) := by decide +kernel
theorem dX9_averageIn_18 : decode cX9_averageIn 18 = .ok (.iconst 0, 1) := by decide +kernel
theorem dX9_averageIn_19 : decode cX9_averageIn 19 = .ok (.ireturn, 1) := by decide +kernel
theorem dX9_averageIn_20 : decode cX9_averageIn 20 = .ok (.aload_n 0, 1) := by decide +kernel
theorem dX9_averageIn_21 : decode cX9_averageIn 21 = .ok (.invokevirtual 286, 3) := by decide +kernel
theorem dX9_averageIn_24 : decode cX9_averageIn 24 = .ok (.aload_n 0, 1) := by decide +kernel
theorem dX9_averageIn_25 : decode cX9_averageIn 25 = .ok (.iload_n 1, 1) := by decide +kernel
theorem dX9_averageIn_26 : decode cX9_averageIn 26 = .ok (.invokevirtual 414, 3) := by decide +kernel
theorem dX9_averageIn_29 : decode cX9_averageIn 29 = .ok (.aload_n 0, 1) := by decide +kernel
theorem dX9_averageIn_30 : decode cX9_averageIn 30 = .ok (.aload_n 0, 1) := by decide +kernel
theorem dX9_averageIn_31 : decode cX9_averageIn 31 = .ok (.getfield 9, 3) := by decide +kernel
theorem dX9_averageIn_34 : decode cX9_averageIn 34 = .ok (.bipush 9, 2) := by decide +kernel
theorem dX9_averageIn_36 : decode cX9_averageIn 36 = .ok (.iaload, 1) := by decide +kernel
theorem dX9_averageIn_37 : decode cX9_averageIn 37 = .ok (.invokevirtual 295, 3) := by decide +kernel
theorem dX9_averageIn_40 : decode cX9_averageIn 40 = .ok (.ireturn, 1) := by decide +kernel
theorem dX9_windowIn_0 : decode cX9_windowIn 0 = .ok (.aload_n 0, 1) := by decide +kernel
theorem dX9_windowIn_1 : decode cX9_windowIn 1 = .ok (.iconst 0, 1) := by decide +kernel
theorem dX9_windowIn_2 : decode cX9_windowIn 2 = .ok (.putfield 60, 3) := by decide +kernel
theorem dX9_windowIn_5 : decode cX9_windowIn 5 = .ok (.aload_n 0, 1) := by decide +kernel
theorem dX9_windowIn_6 : decode cX9_windowIn 6 = .ok (.iload_n 1, 1) := by decide +kernel
theorem dX9_windowIn_7 : decode cX9_windowIn 7 = .ok (.invokevirtual 375, 3) := by decide +kernel
theorem dX9_windowIn_10 : decode cX9_windowIn 10 = .ok (.ifCond .ne 16, 3) := by decide +kernel
theorem dX9_windowIn_13 : decode cX9_windowIn 13 = .ok (.aload_n 0, 1) := by decide +kernel
theorem dX9_windowIn_14 : decode cX9_windowIn 14 = .ok (.iload_n 2, 1) := by decide +kernel
theorem dX9_windowIn_15 : decode cX9_windowIn 15 = .ok (.iconst 0, 1) := by decide +kernel
theorem dX9_windowIn_16 : decode cX9_windowIn 16 = .ok (.sipush 200, 3) := by decide +kernel
theorem dX9_windowIn_19 : decode cX9_windowIn 19 = .ok (.iconst 2, 1) := by decide +kernel
theorem dX9_windowIn_20 : decode cX9_windowIn 20 = .ok (.invokevirtual 410, 3) := by decide +kernel
theorem dX9_windowIn_23 : decode cX9_windowIn 23 = .ok (.ifCond .eq 5, 3) := by decide +kernel
theorem dX9_windowIn_26 : decode cX9_windowIn 26 = .ok (.iconst 0, 1) := by decide +kernel
theorem dX9_windowIn_27 : decode cX9_windowIn 27 = .ok (.ireturn, 1) := by decide +kernel
theorem dX9_windowIn_28 : decode cX9_windowIn 28 = .ok (.aload_n 0, 1) := by decide +kernel
theorem dX9_windowIn_29 : decode cX9_windowIn 29 = .ok (.invokevirtual 286, 3) := by decide +kernel
theorem dX9_windowIn_32 : decode cX9_windowIn 32 = .ok (.aload_n 0, 1) := by decide +kernel
theorem dX9_windowIn_33 : decode cX9_windowIn 33 = .ok (.iload_n 2, 1) := by decide +kernel
theorem dX9_windowIn_34 : decode cX9_windowIn 34 = .ok (.invokevirtual 414, 3) := by decide +kernel
theorem dX9_windowIn_37 : decode cX9_windowIn 37 = .ok (.aload_n 0, 1) := by decide +kernel
theorem dX9_windowIn_38 : decode cX9_windowIn 38 = .ok (.aload_n 0, 1) := by decide +kernel
theorem dX9_windowIn_39 : decode cX9_windowIn 39 = .ok (.iload_n 1, 1) := by decide +kernel
theorem dX9_windowIn_40 : decode cX9_windowIn 40 = .ok (.bipush 6, 2) := by decide +kernel
theorem dX9_windowIn_42 : decode cX9_windowIn 42 = .ok (.invokevirtual 67, 3) := by decide +kernel
theorem dX9_windowIn_45 : decode cX9_windowIn 45 = .ok (.invokevirtual 295, 3) := by decide +kernel
theorem dX9_windowIn_48 : decode cX9_windowIn 48 = .ok (.ireturn, 1) := by decide +kernel
theorem dX9_longest_0 : decode cX9_longest 0 = .ok (.aload_n 0, 1) := by decide +kernel
theorem dX9_longest_1 : decode cX9_longest 1 = .ok (.iconst 0, 1) := by decide +kernel
theorem dX9_longest_2 : decode cX9_longest 2 = .ok (.putfield 60, 3) := by decide +kernel
theorem dX9_longest_5 : decode cX9_longest 5 = .ok (.aload_n 0, 1) := by decide +kernel
theorem dX9_longest_6 : decode cX9_longest 6 = .ok (.iload_n 1, 1) := by decide +kernel
theorem dX9_longest_7 : decode cX9_longest 7 = .ok (.iconst 1, 1) := by decide +kernel
theorem dX9_longest_8 : decode cX9_longest 8 = .ok (.sipush 200, 3) := by decide +kernel
theorem dX9_longest_11 : decode cX9_longest 11 = .ok (.iconst 1, 1) := by decide +kernel
theorem dX9_longest_12 : decode cX9_longest 12 = .ok (.invokevirtual 410, 3) := by decide +kernel
theorem dX9_longest_15 : decode cX9_longest 15 = .ok (.ifCond .eq 5, 3) := by decide +kernel
theorem dX9_longest_18 : decode cX9_longest 18 = .ok (.iconst 0, 1) := by decide +kernel
theorem dX9_longest_19 : decode cX9_longest 19 = .ok (.ireturn, 1) := by decide +kernel
theorem dX9_longest_20 : decode cX9_longest 20 = .ok (.aload_n 0, 1) := by decide +kernel
theorem dX9_longest_21 : decode cX9_longest 21 = .ok (.invokevirtual 286, 3) := by decide +kernel
theorem dX9_longest_24 : decode cX9_longest 24 = .ok (.iconst 0, 1) := by decide +kernel
theorem dX9_longest_25 : decode cX9_longest 25 = .ok (.istore_n 2, 1) := by decide +kernel
theorem dX9_longest_26 : decode cX9_longest 26 = .ok (.iconst 0, 1) := by decide +kernel
theorem dX9_longest_27 : decode cX9_longest 27 = .ok (.istore_n 3, 1) := by decide +kernel
theorem dX9_longest_28 : decode cX9_longest 28 = .ok (.iload_n 3, 1) := by decide +kernel
theorem dX9_longest_29 : decode cX9_longest 29 = .ok (.iload_n 1, 1) := by decide +kernel
theorem dX9_longest_30 : decode cX9_longest 30 = .ok (.if_icmp .ge 25, 3) := by decide +kernel
theorem dX9_longest_33 : decode cX9_longest 33 = .ok (.aload_n 0, 1) := by decide +kernel
theorem dX9_longest_34 : decode cX9_longest 34 = .ok (.invokevirtual 172, 3) := by decide +kernel
theorem dX9_longest_37 : decode cX9_longest 37 = .ok (.iload_n 2, 1) := by decide +kernel
theorem dX9_longest_38 : decode cX9_longest 38 = .ok (.aload_n 0, 1) := by decide +kernel
theorem dX9_longest_39 : decode cX9_longest 39 = .ok (.getfield 9, 3) := by decide +kernel
theorem dX9_longest_42 : decode cX9_longest 42 = .ok (.bipush 8, 2) := by decide +kernel
theorem dX9_longest_44 : decode cX9_longest 44 = .ok (.iaload, 1) := by decide +kernel
theorem dX9_longest_45 : decode cX9_longest 45 = .ok (.invokestatic 151, 3) := by decide +kernel
theorem dX9_longest_48 : decode cX9_longest 48 = .ok (.istore_n 2, 1) := by decide +kernel
theorem dX9_longest_49 : decode cX9_longest 49 = .ok (.iinc 3 1, 3) := by decide +kernel
theorem dX9_longest_52 : decode cX9_longest 52 = .ok (.goto (-24), 3) := by decide +kernel
theorem dX9_longest_55 : decode cX9_longest 55 = .ok (.aload_n 0, 1) := by decide +kernel
theorem dX9_longest_56 : decode cX9_longest 56 = .ok (.iload_n 2, 1) := by decide +kernel
theorem dX9_longest_57 : decode cX9_longest 57 = .ok (.invokevirtual 295, 3) := by decide +kernel
theorem dX9_longest_60 : decode cX9_longest 60 = .ok (.ireturn, 1) := by decide +kernel
theorem dX9_dropIn_0 : decode cX9_dropIn 0 = .ok (.aload_n 0, 1) := by decide +kernel
theorem dX9_dropIn_1 : decode cX9_dropIn 1 = .ok (.iconst 0, 1) := by decide +kernel
theorem dX9_dropIn_2 : decode cX9_dropIn 2 = .ok (.putfield 60, 3) := by decide +kernel
theorem dX9_dropIn_5 : decode cX9_dropIn 5 = .ok (.aload_n 0, 1) := by decide +kernel
theorem dX9_dropIn_6 : decode cX9_dropIn 6 = .ok (.invokevirtual 286, 3) := by decide +kernel
theorem dX9_dropIn_9 : decode cX9_dropIn 9 = .ok (.aload_n 0, 1) := by decide +kernel
theorem dX9_dropIn_10 : decode cX9_dropIn 10 = .ok (.invokevirtual 395, 3) := by decide +kernel
theorem dX9_dropIn_13 : decode cX9_dropIn 13 = .ok (.istore_n 1, 1) := by decide +kernel
theorem dX9_dropIn_14 : decode cX9_dropIn 14 = .ok (.iconst 0, 1) := by decide +kernel
theorem dX9_dropIn_15 : decode cX9_dropIn 15 = .ok (.istore_n 2, 1) := by decide +kernel
theorem dX9_dropIn_16 : decode cX9_dropIn 16 = .ok (.iload_n 2, 1) := by decide +kernel
theorem dX9_dropIn_17 : decode cX9_dropIn 17 = .ok (.sipush 200, 3) := by decide +kernel
theorem dX9_dropIn_20 : decode cX9_dropIn 20 = .ok (.if_icmp .ge 21, 3) := by decide +kernel
theorem dX9_dropIn_23 : decode cX9_dropIn 23 = .ok (.aload_n 0, 1) := by decide +kernel
theorem dX9_dropIn_24 : decode cX9_dropIn 24 = .ok (.invokevirtual 395, 3) := by decide +kernel
theorem dX9_dropIn_27 : decode cX9_dropIn 27 = .ok (.iload_n 1, 1) := by decide +kernel
theorem dX9_dropIn_28 : decode cX9_dropIn 28 = .ok (.if_icmp .ne 13, 3) := by decide +kernel
theorem dX9_dropIn_31 : decode cX9_dropIn 31 = .ok (.aload_n 0, 1) := by decide +kernel
theorem dX9_dropIn_32 : decode cX9_dropIn 32 = .ok (.invokevirtual 172, 3) := by decide +kernel
theorem dX9_dropIn_35 : decode cX9_dropIn 35 = .ok (.iinc 2 1, 3) := by decide +kernel
theorem dX9_dropIn_38 : decode cX9_dropIn 38 = .ok (.goto (-22), 3) := by decide +kernel
theorem dX9_dropIn_41 : decode cX9_dropIn 41 = .ok (.aload_n 0, 1) := by decide +kernel
theorem dX9_dropIn_42 : decode cX9_dropIn 42 = .ok (.aload_n 0, 1) := by decide +kernel
theorem dX9_dropIn_43 : decode cX9_dropIn 43 = .ok (.invokevirtual 395, 3) := by decide +kernel
theorem dX9_dropIn_46 : decode cX9_dropIn 46 = .ok (.iload_n 1, 1) := by decide +kernel
theorem dX9_dropIn_47 : decode cX9_dropIn 47 = .ok (.if_icmp .ne 7, 3) := by decide +kernel
theorem dX9_dropIn_50 : decode cX9_dropIn 50 = .ok (.iconst (-1), 1) := by decide +kernel
theorem dX9_dropIn_51 : decode cX9_dropIn 51 = .ok (.goto 4, 3) := by decide +kernel
theorem dX9_dropIn_54 : decode cX9_dropIn 54 = .ok (.iload_n 2, 1) := by decide +kernel
theorem dX9_dropIn_55 : decode cX9_dropIn 55 = .ok (.invokevirtual 295, 3) := by decide +kernel
theorem dX9_dropIn_58 : decode cX9_dropIn 58 = .ok (.ireturn, 1) := by decide +kernel
theorem dX9_droppedIn_0 : decode cX9_droppedIn 0 = .ok (.aload_n 0, 1) := by decide +kernel
theorem dX9_droppedIn_1 : decode cX9_droppedIn 1 = .ok (.invokevirtual 395, 3) := by decide +kernel
theorem dX9_droppedIn_4 : decode cX9_droppedIn 4 = .ok (.istore_n 2, 1) := by decide +kernel
theorem dX9_droppedIn_5 : decode cX9_droppedIn 5 = .ok (.aload_n 0, 1) := by decide +kernel
theorem dX9_droppedIn_6 : decode cX9_droppedIn 6 = .ok (.iload_n 1, 1) := by decide +kernel
theorem dX9_droppedIn_7 : decode cX9_droppedIn 7 = .ok (.invokevirtual 414, 3) := by decide +kernel
theorem dX9_droppedIn_10 : decode cX9_droppedIn 10 = .ok (.aload_n 0, 1) := by decide +kernel
theorem dX9_droppedIn_11 : decode cX9_droppedIn 11 = .ok (.invokevirtual 395, 3) := by decide +kernel
theorem dX9_droppedIn_14 : decode cX9_droppedIn 14 = .ok (.iload_n 2, 1) := by decide +kernel
theorem dX9_droppedIn_15 : decode cX9_droppedIn 15 = .ok (.isub, 1) := by decide +kernel
theorem dX9_droppedIn_16 : decode cX9_droppedIn 16 = .ok (.ireturn, 1) := by decide +kernel
theorem dX9_bestWeight_0 : decode cX9_bestWeight 0 = .ok (.aload_n 0, 1) := by decide +kernel
theorem dX9_bestWeight_1 : decode cX9_bestWeight 1 = .ok (.iconst 0, 1) := by decide +kernel
theorem dX9_bestWeight_2 : decode cX9_bestWeight 2 = .ok (.putfield 60, 3) := by decide +kernel
theorem dX9_bestWeight_5 : decode cX9_bestWeight 5 = .ok (.aload_n 0, 1) := by decide +kernel
theorem dX9_bestWeight_6 : decode cX9_bestWeight 6 = .ok (.iload_n 1, 1) := by decide +kernel
theorem dX9_bestWeight_7 : decode cX9_bestWeight 7 = .ok (.iconst 1, 1) := by decide +kernel
theorem dX9_bestWeight_8 : decode cX9_bestWeight 8 = .ok (.bipush 100, 2) := by decide +kernel
theorem dX9_bestWeight_10 : decode cX9_bestWeight 10 = .ok (.iconst 1, 1) := by decide +kernel
theorem dX9_bestWeight_11 : decode cX9_bestWeight 11 = .ok (.invokevirtual 410, 3) := by decide +kernel
theorem dX9_bestWeight_14 : decode cX9_bestWeight 14 = .ok (.ifCond .eq 5, 3) := by decide +kernel
theorem dX9_bestWeight_17 : decode cX9_bestWeight 17 = .ok (.iconst 0, 1) := by decide +kernel
theorem dX9_bestWeight_18 : decode cX9_bestWeight 18 = .ok (.ireturn, 1) := by decide +kernel
theorem dX9_bestWeight_19 : decode cX9_bestWeight 19 = .ok (.iconst (-1), 1) := by decide +kernel
theorem dX9_bestWeight_20 : decode cX9_bestWeight 20 = .ok (.istore_n 2, 1) := by decide +kernel
theorem dX9_bestWeight_21 : decode cX9_bestWeight 21 = .ok (.iconst 0, 1) := by decide +kernel
theorem dX9_bestWeight_22 : decode cX9_bestWeight 22 = .ok (.istore_n 3, 1) := by decide +kernel
theorem dX9_bestWeight_23 : decode cX9_bestWeight 23 = .ok (.iconst 0, 1) := by decide +kernel
theorem dX9_bestWeight_24 : decode cX9_bestWeight 24 = .ok (.istore 4, 2) := by decide +kernel
theorem dX9_bestWeight_26 : decode cX9_bestWeight 26 = .ok (.iload 4, 2) := by decide +kernel
theorem dX9_bestWeight_28 : decode cX9_bestWeight 28 = .ok (.bipush 10, 2) := by decide +kernel
theorem dX9_bestWeight_30 : decode cX9_bestWeight 30 = .ok (.if_icmp .gt 39, 3) := by decide +kernel
theorem dX9_bestWeight_33 : decode cX9_bestWeight 33 = .ok (.aload_n 0, 1) := by decide +kernel
theorem dX9_bestWeight_34 : decode cX9_bestWeight 34 = .ok (.iconst 5, 1) := by decide +kernel
theorem dX9_bestWeight_35 : decode cX9_bestWeight 35 = .ok (.iload 4, 2) := by decide +kernel
theorem dX9_bestWeight_37 : decode cX9_bestWeight 37 = .ok (.iload_n 1, 1) := by decide +kernel
theorem dX9_bestWeight_38 : decode cX9_bestWeight 38 = .ok (.invokevirtual 417, 3) := by decide +kernel
theorem dX9_bestWeight_41 : decode cX9_bestWeight 41 = .ok (.istore 5, 2) := by decide +kernel
theorem dX9_bestWeight_43 : decode cX9_bestWeight 43 = .ok (.iload_n 2, 1) := by decide +kernel
theorem dX9_bestWeight_44 : decode cX9_bestWeight 44 = .ok (.iconst (-1), 1) := by decide +kernel
theorem dX9_bestWeight_45 : decode cX9_bestWeight 45 = .ok (.if_icmp .eq 12, 3) := by decide +kernel
theorem dX9_bestWeight_48 : decode cX9_bestWeight 48 = .ok (.iload 5, 2) := by decide +kernel
theorem dX9_bestWeight_50 : decode cX9_bestWeight 50 = .ok (.iload_n 3, 1) := by decide +kernel
theorem dX9_bestWeight_51 : decode cX9_bestWeight 51 = .ok (.if_icmp .lt 6, 3) := by decide +kernel
theorem dX9_bestWeight_54 : decode cX9_bestWeight 54 = .ok (.goto 9, 3) := by decide +kernel
theorem dX9_bestWeight_57 : decode cX9_bestWeight 57 = .ok (.iload 4, 2) := by decide +kernel
theorem dX9_bestWeight_59 : decode cX9_bestWeight 59 = .ok (.istore_n 2, 1) := by decide +kernel
theorem dX9_bestWeight_60 : decode cX9_bestWeight 60 = .ok (.iload 5, 2) := by decide +kernel
theorem dX9_bestWeight_62 : decode cX9_bestWeight 62 = .ok (.istore_n 3, 1) := by decide +kernel
theorem dX9_bestWeight_63 : decode cX9_bestWeight 63 = .ok (.iinc 4 1, 3) := by decide +kernel
theorem dX9_bestWeight_66 : decode cX9_bestWeight 66 = .ok (.goto (-40), 3) := by decide +kernel
theorem dX9_bestWeight_69 : decode cX9_bestWeight 69 = .ok (.iload_n 2, 1) := by decide +kernel
theorem dX9_bestWeight_70 : decode cX9_bestWeight 70 = .ok (.ireturn, 1) := by decide +kernel
theorem dX9_droppedBy_0 : decode cX9_droppedBy 0 = .ok (.aload_n 0, 1) := by decide +kernel
theorem dX9_droppedBy_1 : decode cX9_droppedBy 1 = .ok (.invokevirtual 286, 3) := by decide +kernel
theorem dX9_droppedBy_4 : decode cX9_droppedBy 4 = .ok (.aload_n 0, 1) := by decide +kernel
theorem dX9_droppedBy_5 : decode cX9_droppedBy 5 = .ok (.getfield 9, 3) := by decide +kernel
theorem dX9_droppedBy_8 : decode cX9_droppedBy 8 = .ok (.iload_n 1, 1) := by decide +kernel
theorem dX9_droppedBy_9 : decode cX9_droppedBy 9 = .ok (.iload_n 2, 1) := by decide +kernel
theorem dX9_droppedBy_10 : decode cX9_droppedBy 10 = .ok (.iastore, 1) := by decide +kernel
theorem dX9_droppedBy_11 : decode cX9_droppedBy 11 = .ok (.aload_n 0, 1) := by decide +kernel
theorem dX9_droppedBy_12 : decode cX9_droppedBy 12 = .ok (.aload_n 0, 1) := by decide +kernel
theorem dX9_droppedBy_13 : decode cX9_droppedBy 13 = .ok (.iload_n 3, 1) := by decide +kernel
theorem dX9_droppedBy_14 : decode cX9_droppedBy 14 = .ok (.invokevirtual 420, 3) := by decide +kernel
theorem dX9_droppedBy_17 : decode cX9_droppedBy 17 = .ok (.invokevirtual 295, 3) := by decide +kernel
theorem dX9_droppedBy_20 : decode cX9_droppedBy 20 = .ok (.ireturn, 1) := by decide +kernel
theorem dX9_bestTop_0 : decode cX9_bestTop 0 = .ok (.aload_n 0, 1) := by decide +kernel
theorem dX9_bestTop_1 : decode cX9_bestTop 1 = .ok (.iconst 0, 1) := by decide +kernel
theorem dX9_bestTop_2 : decode cX9_bestTop 2 = .ok (.putfield 60, 3) := by decide +kernel
theorem dX9_bestTop_5 : decode cX9_bestTop 5 = .ok (.aload_n 0, 1) := by decide +kernel
theorem dX9_bestTop_6 : decode cX9_bestTop 6 = .ok (.iload_n 1, 1) := by decide +kernel
theorem dX9_bestTop_7 : decode cX9_bestTop 7 = .ok (.iconst 1, 1) := by decide +kernel
theorem dX9_bestTop_8 : decode cX9_bestTop 8 = .ok (.bipush 100, 2) := by decide +kernel
theorem dX9_bestTop_10 : decode cX9_bestTop 10 = .ok (.iconst 1, 1) := by decide +kernel
theorem dX9_bestTop_11 : decode cX9_bestTop 11 = .ok (.invokevirtual 410, 3) := by decide +kernel
theorem dX9_bestTop_14 : decode cX9_bestTop 14 = .ok (.ifCond .eq 5, 3) := by decide +kernel
theorem dX9_bestTop_17 : decode cX9_bestTop 17 = .ok (.iconst 0, 1) := by decide +kernel
theorem dX9_bestTop_18 : decode cX9_bestTop 18 = .ok (.ireturn, 1) := by decide +kernel
theorem dX9_bestTop_19 : decode cX9_bestTop 19 = .ok (.iconst 0, 1) := by decide +kernel
theorem dX9_bestTop_20 : decode cX9_bestTop 20 = .ok (.istore_n 2, 1) := by decide +kernel
theorem dX9_bestTop_21 : decode cX9_bestTop 21 = .ok (.aload_n 0, 1) := by decide +kernel
theorem dX9_bestTop_22 : decode cX9_bestTop 22 = .ok (.iconst 4, 1) := by decide +kernel
theorem dX9_bestTop_23 : decode cX9_bestTop 23 = .ok (.iconst 0, 1) := by decide +kernel
theorem dX9_bestTop_24 : decode cX9_bestTop 24 = .ok (.iload_n 1, 1) := by decide +kernel
theorem dX9_bestTop_25 : decode cX9_bestTop 25 = .ok (.invokevirtual 417, 3) := by decide +kernel
theorem dX9_bestTop_28 : decode cX9_bestTop 28 = .ok (.istore_n 3, 1) := by decide +kernel
theorem dX9_bestTop_29 : decode cX9_bestTop 29 = .ok (.sipush 4096, 3) := by decide +kernel
theorem dX9_bestTop_32 : decode cX9_bestTop 32 = .ok (.istore 4, 2) := by decide +kernel
theorem dX9_bestTop_34 : decode cX9_bestTop 34 = .ok (.iload 4, 2) := by decide +kernel
theorem dX9_bestTop_36 : decode cX9_bestTop 36 = .ok (.ldc 90, 2) := by decide +kernel
theorem dX9_bestTop_38 : decode cX9_bestTop 38 = .ok (.if_icmp .gt 37, 3) := by decide +kernel
theorem dX9_bestTop_41 : decode cX9_bestTop 41 = .ok (.aload_n 0, 1) := by decide +kernel
theorem dX9_bestTop_42 : decode cX9_bestTop 42 = .ok (.iconst 4, 1) := by decide +kernel
theorem dX9_bestTop_43 : decode cX9_bestTop 43 = .ok (.iload 4, 2) := by decide +kernel
theorem dX9_bestTop_45 : decode cX9_bestTop 45 = .ok (.iload_n 1, 1) := by decide +kernel
theorem dX9_bestTop_46 : decode cX9_bestTop 46 = .ok (.invokevirtual 417, 3) := by decide +kernel
theorem dX9_bestTop_49 : decode cX9_bestTop 49 = .ok (.istore 5, 2) := by decide +kernel
theorem dX9_bestTop_51 : decode cX9_bestTop 51 = .ok (.iload 5, 2) := by decide +kernel
theorem dX9_bestTop_53 : decode cX9_bestTop 53 = .ok (.iload_n 3, 1) := by decide +kernel
theorem dX9_bestTop_54 : decode cX9_bestTop 54 = .ok (.if_icmp .lt 6, 3) := by decide +kernel
theorem dX9_bestTop_57 : decode cX9_bestTop 57 = .ok (.goto 9, 3) := by decide +kernel
theorem dX9_bestTop_60 : decode cX9_bestTop 60 = .ok (.iload 4, 2) := by decide +kernel
theorem dX9_bestTop_62 : decode cX9_bestTop 62 = .ok (.istore_n 2, 1) := by decide +kernel
theorem dX9_bestTop_63 : decode cX9_bestTop 63 = .ok (.iload 5, 2) := by decide +kernel
theorem dX9_bestTop_65 : decode cX9_bestTop 65 = .ok (.istore_n 3, 1) := by decide +kernel
theorem dX9_bestTop_66 : decode cX9_bestTop 66 = .ok (.iinc 4 4096, 6) := by decide +kernel
theorem dX9_bestTop_72 : decode cX9_bestTop 72 = .ok (.goto (-38), 3) := by decide +kernel
theorem dX9_bestTop_75 : decode cX9_bestTop 75 = .ok (.iload_n 2, 1) := by decide +kernel
theorem dX9_bestTop_76 : decode cX9_bestTop 76 = .ok (.ireturn, 1) := by decide +kernel
theorem dX9_gain_0 : decode cX9_gain 0 = .ok (.aload_n 0, 1) := by decide +kernel
theorem dX9_gain_1 : decode cX9_gain 1 = .ok (.iconst 0, 1) := by decide +kernel
theorem dX9_gain_2 : decode cX9_gain 2 = .ok (.putfield 60, 3) := by decide +kernel
theorem dX9_gain_5 : decode cX9_gain 5 = .ok (.aload_n 0, 1) := by decide +kernel
theorem dX9_gain_6 : decode cX9_gain 6 = .ok (.iload_n 1, 1) := by decide +kernel
theorem dX9_gain_7 : decode cX9_gain 7 = .ok (.iconst 1, 1) := by decide +kernel
theorem dX9_gain_8 : decode cX9_gain 8 = .ok (.sipush 200, 3) := by decide +kernel
theorem dX9_gain_11 : decode cX9_gain 11 = .ok (.iconst 1, 1) := by decide +kernel
theorem dX9_gain_12 : decode cX9_gain 12 = .ok (.invokevirtual 410, 3) := by decide +kernel
theorem dX9_gain_15 : decode cX9_gain 15 = .ok (.ifCond .eq 5, 3) := by decide +kernel
theorem dX9_gain_18 : decode cX9_gain 18 = .ok (.lconst 0, 1) := by decide +kernel
theorem dX9_gain_19 : decode cX9_gain 19 = .ok (.lreturn, 1) := by decide +kernel
theorem dX9_gain_20 : decode cX9_gain 20 = .ok (.aload_n 0, 1) := by decide +kernel
theorem dX9_gain_21 : decode cX9_gain 21 = .ok (.invokevirtual 286, 3) := by decide +kernel
theorem dX9_gain_24 : decode cX9_gain 24 = .ok (.aload_n 0, 1) := by decide +kernel
theorem dX9_gain_25 : decode cX9_gain 25 = .ok (.aload_n 0, 1) := by decide +kernel
theorem dX9_gain_26 : decode cX9_gain 26 = .ok (.iload_n 1, 1) := by decide +kernel
theorem dX9_gain_27 : decode cX9_gain 27 = .ok (.invokevirtual 420, 3) := by decide +kernel
theorem dX9_gain_30 : decode cX9_gain 30 = .ok (.invokevirtual 295, 3) := by decide +kernel
theorem dX9_gain_33 : decode cX9_gain 33 = .ok (.istore_n 2, 1) := by decide +kernel
theorem dX9_gain_34 : decode cX9_gain 34 = .ok (.aload_n 0, 1) := by decide +kernel
theorem dX9_gain_35 : decode cX9_gain 35 = .ok (.invokevirtual 286, 3) := by decide +kernel
theorem dX9_gain_38 : decode cX9_gain 38 = .ok (.aload_n 0, 1) := by decide +kernel
theorem dX9_gain_39 : decode cX9_gain 39 = .ok (.iconst 1, 1) := by decide +kernel
theorem dX9_gain_40 : decode cX9_gain 40 = .ok (.putfield 112, 3) := by decide +kernel
theorem dX9_gain_43 : decode cX9_gain 43 = .ok (.aload_n 0, 1) := by decide +kernel
theorem dX9_gain_44 : decode cX9_gain 44 = .ok (.aload_n 0, 1) := by decide +kernel
theorem dX9_gain_45 : decode cX9_gain 45 = .ok (.iload_n 1, 1) := by decide +kernel
theorem dX9_gain_46 : decode cX9_gain 46 = .ok (.invokevirtual 420, 3) := by decide +kernel
theorem dX9_gain_49 : decode cX9_gain 49 = .ok (.invokevirtual 295, 3) := by decide +kernel
theorem dX9_gain_52 : decode cX9_gain 52 = .ok (.istore_n 3, 1) := by decide +kernel
theorem dX9_gain_53 : decode cX9_gain 53 = .ok (.aload_n 0, 1) := by decide +kernel
theorem dX9_gain_54 : decode cX9_gain 54 = .ok (.iconst 0, 1) := by decide +kernel
theorem dX9_gain_55 : decode cX9_gain 55 = .ok (.putfield 112, 3) := by decide +kernel
theorem dX9_gain_58 : decode cX9_gain 58 = .ok (.iload_n 3, 1) := by decide +kernel
theorem dX9_gain_59 : decode cX9_gain 59 = .ok (.iload_n 2, 1) := by decide +kernel
theorem dX9_gain_60 : decode cX9_gain 60 = .ok (.isub, 1) := by decide +kernel
theorem dX9_gain_61 : decode cX9_gain 61 = .ok (.i2l, 1) := by decide +kernel
theorem dX9_gain_62 : decode cX9_gain 62 = .ok (.lreturn, 1) := by decide +kernel
theorem dX9_tickNow_0 : decode cX9_tickNow 0 = .ok (.aload_n 0, 1) := by decide +kernel
theorem dX9_tickNow_1 : decode cX9_tickNow 1 = .ok (.getfield 9, 3) := by decide +kernel
theorem dX9_tickNow_4 : decode cX9_tickNow 4 = .ok (.bipush 7, 2) := by decide +kernel
theorem dX9_tickNow_6 : decode cX9_tickNow 6 = .ok (.iaload, 1) := by decide +kernel
theorem dX9_tickNow_7 : decode cX9_tickNow 7 = .ok (.iload_n 1, 1) := by decide +kernel
theorem dX9_tickNow_8 : decode cX9_tickNow 8 = .ok (.iadd, 1) := by decide +kernel
theorem dX9_tickNow_9 : decode cX9_tickNow 9 = .ok (.sipush 9999, 3) := by decide +kernel
theorem dX9_tickNow_12 : decode cX9_tickNow 12 = .ok (.if_icmp .le 6, 3) := by decide +kernel
theorem dX9_tickNow_15 : decode cX9_tickNow 15 = .ok (.bipush (-2), 2) := by decide +kernel
theorem dX9_tickNow_17 : decode cX9_tickNow 17 = .ok (.ireturn, 1) := by decide +kernel
theorem dX9_tickNow_18 : decode cX9_tickNow 18 = .ok (.aload_n 0, 1) := by decide +kernel
theorem dX9_tickNow_19 : decode cX9_tickNow 19 = .ok (.iload_n 1, 1) := by decide +kernel
theorem dX9_tickNow_20 : decode cX9_tickNow 20 = .ok (.invokevirtual 414, 3) := by decide +kernel
theorem dX9_tickNow_23 : decode cX9_tickNow 23 = .ok (.aload_n 0, 1) := by decide +kernel
theorem dX9_tickNow_24 : decode cX9_tickNow 24 = .ok (.getfield 9, 3) := by decide +kernel
theorem dX9_tickNow_27 : decode cX9_tickNow 27 = .ok (.bipush 7, 2) := by decide +kernel
theorem dX9_tickNow_29 : decode cX9_tickNow 29 = .ok (.iaload, 1) := by decide +kernel
theorem dX9_tickNow_30 : decode cX9_tickNow 30 = .ok (.ireturn, 1) := by decide +kernel
theorem dX9_tick_0 : decode cX9_tick 0 = .ok (.aload_n 0, 1) := by decide +kernel
theorem dX9_tick_1 : decode cX9_tick 1 = .ok (.iconst 0, 1) := by decide +kernel
theorem dX9_tick_2 : decode cX9_tick 2 = .ok (.putfield 60, 3) := by decide +kernel
theorem dX9_tick_5 : decode cX9_tick 5 = .ok (.aload_n 0, 1) := by decide +kernel
theorem dX9_tick_6 : decode cX9_tick 6 = .ok (.iload_n 1, 1) := by decide +kernel
theorem dX9_tick_7 : decode cX9_tick 7 = .ok (.iconst 1, 1) := by decide +kernel
theorem dX9_tick_8 : decode cX9_tick 8 = .ok (.bipush 50, 2) := by decide +kernel
theorem dX9_tick_10 : decode cX9_tick 10 = .ok (.iconst 1, 1) := by decide +kernel
theorem dX9_tick_11 : decode cX9_tick 11 = .ok (.invokevirtual 410, 3) := by decide +kernel
theorem dX9_tick_14 : decode cX9_tick 14 = .ok (.ifCond .eq 5, 3) := by decide +kernel
theorem dX9_tick_17 : decode cX9_tick 17 = .ok (.iconst 0, 1) := by decide +kernel
theorem dX9_tick_18 : decode cX9_tick 18 = .ok (.ireturn, 1) := by decide +kernel
theorem dX9_tick_19 : decode cX9_tick 19 = .ok (.aload_n 0, 1) := by decide +kernel
theorem dX9_tick_20 : decode cX9_tick 20 = .ok (.invokevirtual 423, 3) := by decide +kernel
theorem dX9_tick_23 : decode cX9_tick 23 = .ok (.aload_n 0, 1) := by decide +kernel
theorem dX9_tick_24 : decode cX9_tick 24 = .ok (.aload_n 0, 1) := by decide +kernel
theorem dX9_tick_25 : decode cX9_tick 25 = .ok (.iload_n 1, 1) := by decide +kernel
theorem dX9_tick_26 : decode cX9_tick 26 = .ok (.invokevirtual 341, 3) := by decide +kernel
theorem dX9_tick_29 : decode cX9_tick 29 = .ok (.invokevirtual 426, 3) := by decide +kernel
theorem dX9_tick_32 : decode cX9_tick 32 = .ok (.ireturn, 1) := by decide +kernel
theorem dX9_send_0 : decode cX9_send 0 = .ok (.aload_n 0, 1) := by decide +kernel
theorem dX9_send_1 : decode cX9_send 1 = .ok (.iconst 0, 1) := by decide +kernel
theorem dX9_send_2 : decode cX9_send 2 = .ok (.putfield 60, 3) := by decide +kernel
theorem dX9_send_5 : decode cX9_send 5 = .ok (.aload_n 0, 1) := by decide +kernel
theorem dX9_send_6 : decode cX9_send 6 = .ok (.iload_n 1, 1) := by decide +kernel
theorem dX9_send_7 : decode cX9_send 7 = .ok (.invokevirtual 375, 3) := by decide +kernel
theorem dX9_send_10 : decode cX9_send 10 = .ok (.ifCond .ne 26, 3) := by decide +kernel
theorem dX9_send_13 : decode cX9_send 13 = .ok (.aload_n 0, 1) := by decide +kernel
theorem dX9_send_14 : decode cX9_send 14 = .ok (.iload_n 2, 1) := by decide +kernel
theorem dX9_send_15 : decode cX9_send 15 = .ok (.iconst 1, 1) := by decide +kernel
theorem dX9_send_16 : decode cX9_send 16 = .ok (.bipush 40, 2) := by decide +kernel
theorem dX9_send_18 : decode cX9_send 18 = .ok (.invokestatic 63, 3) := by decide +kernel
theorem dX9_send_21 : decode cX9_send 21 = .ok (.ifCond .ne 7, 3) := by decide +kernel
theorem dX9_send_24 : decode cX9_send 24 = .ok (.iconst 1, 1) := by decide +kernel
theorem dX9_send_25 : decode cX9_send 25 = .ok (.goto 4, 3) := by decide +kernel
theorem dX9_send_28 : decode cX9_send 28 = .ok (.iconst 0, 1) := by decide +kernel
theorem dX9_send_29 : decode cX9_send 29 = .ok (.iconst 2, 1) := by decide +kernel
theorem dX9_send_30 : decode cX9_send 30 = .ok (.invokevirtual 366, 3) := by decide +kernel
theorem dX9_send_33 : decode cX9_send 33 = .ok (.ifCond .eq 5, 3) := by decide +kernel
theorem dX9_send_36 : decode cX9_send 36 = .ok (.iconst 0, 1) := by decide +kernel
theorem dX9_send_37 : decode cX9_send 37 = .ok (.ireturn, 1) := by decide +kernel
theorem dX9_send_38 : decode cX9_send 38 = .ok (.aload_n 0, 1) := by decide +kernel
theorem dX9_send_39 : decode cX9_send 39 = .ok (.invokevirtual 423, 3) := by decide +kernel
theorem dX9_send_42 : decode cX9_send 42 = .ok (.aload_n 0, 1) := by decide +kernel
theorem dX9_send_43 : decode cX9_send 43 = .ok (.aload_n 0, 1) := by decide +kernel
theorem dX9_send_44 : decode cX9_send 44 = .ok (.iload_n 1, 1) := by decide +kernel
theorem dX9_send_45 : decode cX9_send 45 = .ok (.iload_n 2, 1) := by decide +kernel
theorem dX9_send_46 : decode cX9_send 46 = .ok (.invokevirtual 156, 3) := by decide +kernel
theorem dX9_send_49 : decode cX9_send 49 = .ok (.invokevirtual 426, 3) := by decide +kernel
theorem dX9_send_52 : decode cX9_send 52 = .ok (.ireturn, 1) := by decide +kernel
-- X9_chance
set_option maxRecDepth 100000 in
set_option maxHeartbeats 4000000 in
theorem zm_X9_chance {l : Launch} {G : zG} {p1 : Int32} {p2 : Int32} {M : zM} {Kf : Int32 → zM → Prop} (h : (zCalI l G Y_X9_in 0 0 [vi p1, vi 0, vi 99999] (zsI M 30 0 7 0) (fun x2 M1 => ((x2 = 0 → zAt l G Y_X9_chance (zEI G Y_X9_chance Kf) 28 [(0, vr 30 0), (1, vi p1), (2, vi p2)] [vr 30 0] M1 0 0) ∧ (¬ x2 = 0 → (zCalI l G Y_X9_in 0 0 [vi p2, vi 0, vi 9999] M1 (fun x4 M3 => ((¬ x4 = 0 → zAt l G Y_X9_chance (zEI G Y_X9_chance Kf) 33 [(0, vr 30 0), (1, vi p1), (2, vi p2)] [vi 0, vr 30 0] M3 0 0) ∧ (x4 = 0 → zAt l G Y_X9_chance (zEI G Y_X9_chance Kf) 28 [(0, vr 30 0), (1, vi p1), (2, vi p2)] [vr 30 0] M3 0 0))))))))) : zCalI l G Y_X9_chance 0 0 [vr 30 0, vi p1, vi p2] M Kf := by
  refine zCal_of (lv := [(0, vr 30 0), (1, vi p1), (2, vi p2)]) (by decide) rfl (zle rfl) rfl (fun hv => zlv_args (lv := [(0, vr 30 0), (1, vi p1), (2, vi p2)]) rfl hv) ?_
  refine Z_aload_n dX9_chance_0 rfl 0 rfl ?_
  refine Z_iconst (v := 0) (by decide) dX9_chance_1 ?_
  refine Z_putI zfp_X9_60 rfl rfl dX9_chance_2 ?_
  refine Z_aload_n dX9_chance_5 rfl 0 rfl ?_
  refine Z_iload_n dX9_chance_6 rfl 1 rfl ?_
  refine Z_iconst (v := 0) (by decide) dX9_chance_7 ?_
  refine Z_ldcw (v := 99999) zw_2078 dX9_chance_8 ?_
  refine Z_callSI (as := [vi p1, vi 0, vi 99999]) zRm_M zcs_X9_chance_X9_in_63 rfl rfl (zle rfl) dX9_chance_11 ⟨Nat.le_refl _, Nat.le_refl _⟩ h (fun x2 M1 h => ?_)
  refine Z_if_eq (tgt := 28) dX9_chance_14 (by decide) (fun q => ?_) (fun q => ?_)
  · have h := h.1 q
    exact h
  · have h := h.2 q
    refine Z_iload_n dX9_chance_17 rfl 2 rfl ?_
    refine Z_iconst (v := 0) (by decide) dX9_chance_18 ?_
    refine Z_sipush (v := 9999) (by decide) dX9_chance_19 ?_
    refine Z_callSI (as := [vi p2, vi 0, vi 9999]) zRm_M zcs_X9_chance_X9_in_63 rfl rfl (zle rfl) dX9_chance_22 ⟨Nat.le_refl _, Nat.le_refl _⟩ h (fun x4 M3 h => ?_)
    refine Z_if_ne (tgt := 32) dX9_chance_25 (by decide) (fun q => ?_) (fun q => ?_)
    · have h := h.1 q
      refine Z_iconst (v := 0) (by decide) dX9_chance_32 ?_
      exact h
    · have h := h.2 q
      exact h
set_option maxRecDepth 100000 in
set_option maxHeartbeats 4000000 in
theorem zb_X9_chance_28 {l : Launch} {G : zG} {y1 : Int32} {y2 : Int32} {M : zM} {Kf : Int32 → zM → Prop} (h : zAt l G Y_X9_chance (zEI G Y_X9_chance Kf) 33 [(0, vr 30 0), (1, vi y1), (2, vi y2)] [vi 1, vr 30 0] M 0 0) : zAt l G Y_X9_chance (zEI G Y_X9_chance Kf) 28 [(0, vr 30 0), (1, vi y1), (2, vi y2)] [vr 30 0] M 0 0 := by
  refine Z_iconst (v := 1) (by decide) dX9_chance_28 ?_
  refine Z_goto (tgt := 33) dX9_chance_29 (by decide) ?_
  exact h
set_option maxRecDepth 100000 in
set_option maxHeartbeats 4000000 in
theorem zb_X9_chance_33 {l : Launch} {G : zG} {y1 : Int32} {y2 : Int32} {s0 : Int32} {M : zM} {Kf : Int32 → zM → Prop} (h : (zCalI l G Y_X9_fails 0 0 [vr 30 0, vi s0, vi 1] M (fun x2 M1 => ((x2 = 0 → (zCalL l G Y_X9_baseOf 0 0 [vr 30 0, vi y1] M1 (fun x4 M3 => (zCalI l G Y_X9_chanceOf 0 0 [vl x4, vi y2] M3 (fun x6 M5 => (Kf x6 M5)))))) ∧ (¬ x2 = 0 → (Kf 0 M1)))))) : zAt l G Y_X9_chance (zEI G Y_X9_chance Kf) 33 [(0, vr 30 0), (1, vi y1), (2, vi y2)] [vi s0, vr 30 0] M 0 0 := by
  refine Z_iconst (v := 1) (by decide) dX9_chance_33 ?_
  refine Z_callVI (as := [vi s0, vi 1]) zRm_M zcv_X9_chance_X9_fails_366 (ci := 13) rfl rfl rfl rfl (zle rfl) dX9_chance_34 ⟨Nat.le_refl _, Nat.le_refl _⟩ h (fun x2 M1 h => ?_)
  refine Z_if_eq (tgt := 44) dX9_chance_37 (by decide) (fun q => ?_) (fun q => ?_)
  · have h := h.1 q
    refine Z_aload_n dX9_chance_44 rfl 0 rfl ?_
    refine Z_iload_n dX9_chance_45 rfl 1 rfl ?_
    refine Z_callVL (as := [vi y1]) zRm_M zcv_X9_chance_X9_baseOf_128 (ci := 13) rfl rfl rfl rfl (zle rfl) dX9_chance_46 ⟨Nat.le_refl _, Nat.le_refl _⟩ h (fun x4 M3 h => ?_)
    refine Z_iload_n dX9_chance_49 rfl 2 rfl ?_
    refine Z_callSI (as := [vl x4, vi y2]) zRm_M zcs_X9_chance_X9_chanceOf_132 rfl rfl (zle rfl) dX9_chance_50 ⟨Nat.le_refl _, Nat.le_refl _⟩ h (fun x6 M5 h => ?_)
    exact Z_iret rfl rfl dX9_chance_53 (Nat.le_refl _) (Nat.le_refl _) ⟨_, rfl, h⟩
  · have h := h.2 q
    refine Z_iconst (v := 0) (by decide) dX9_chance_40 ?_
    refine Z_goto (tgt := 53) dX9_chance_41 (by decide) ?_
    exact Z_iret rfl rfl dX9_chance_53 (Nat.le_refl _) (Nat.le_refl _) ⟨_, rfl, h⟩
-- X9_chanceBy
set_option maxRecDepth 100000 in
set_option maxHeartbeats 4000000 in
theorem zm_X9_chanceBy {l : Launch} {G : zG} {p1 : Int32} {p2 : Int32} {p3 : Int32} {M : zM} {Kf : Int32 → zM → Prop} (h : (zCalI l G Y_X9_howOf 0 0 [vr 30 0, vi p1, vi p2] M (fun x2 M1 => ((¬ x2 = 1 → ((¬ x2 = 3 → (Kf 65536 M1)) ∧ (x2 = 3 → (zCalL l G Y_X9_baseOf 0 0 [vr 30 0, vi p1] M1 (fun x4 M3 => (zCalI l G Y_X9_chanceOf 0 0 [vl x4, vi p3] M3 (fun x6 M5 => (Kf x6 M5)))))))) ∧ (x2 = 1 → (Kf 0 M1)))))) : zCalI l G Y_X9_chanceBy 0 0 [vr 30 0, vi p1, vi p2, vi p3] M Kf := by
  refine zCal_of (lv := [(0, vr 30 0), (1, vi p1), (2, vi p2), (3, vi p3)]) (by decide) rfl (zle rfl) rfl (fun hv => zlv_args (lv := [(0, vr 30 0), (1, vi p1), (2, vi p2), (3, vi p3)]) rfl hv) ?_
  refine Z_aload_n dX9_chanceBy_0 rfl 0 rfl ?_
  refine Z_iload_n dX9_chanceBy_1 rfl 1 rfl ?_
  refine Z_iload_n dX9_chanceBy_2 rfl 2 rfl ?_
  refine Z_callVI (as := [vi p1, vi p2]) zRm_M zcv_X9_chanceBy_X9_howOf_109 (ci := 13) rfl rfl rfl rfl (zle rfl) dX9_chanceBy_3 ⟨Nat.le_refl _, Nat.le_refl _⟩ h (fun x2 M1 h => ?_)
  refine Z_istore (lv2 := [(4, vi x2), (0, vr 30 0), (1, vi p1), (2, vi p2), (3, vi p3)]) dX9_chanceBy_6 (by decide) rfl ?_
  refine Z_iload dX9_chanceBy_8 0 rfl ?_
  refine Z_iconst (v := 1) (by decide) dX9_chanceBy_10 ?_
  refine Z_icmp_ne (tgt := 18) dX9_chanceBy_11 (by decide) (fun q => ?_) (fun q => ?_)
  · have h := h.1 q
    refine Z_iload dX9_chanceBy_18 0 rfl ?_
    refine Z_iconst (v := 3) (by decide) dX9_chanceBy_20 ?_
    refine Z_icmp_ne (tgt := 36) dX9_chanceBy_21 (by decide) (fun q => ?_) (fun q => ?_)
    · have h := h.1 q
      refine Z_ldc (v := 65536) zw_1775 dX9_chanceBy_36 ?_
      exact Z_iret rfl rfl dX9_chanceBy_38 (Nat.le_refl _) (Nat.le_refl _) ⟨_, rfl, h⟩
    · have h := h.2 q
      refine Z_aload_n dX9_chanceBy_24 rfl 1 rfl ?_
      refine Z_iload_n dX9_chanceBy_25 rfl 2 rfl ?_
      refine Z_callVL (as := [vi p1]) zRm_M zcv_X9_chanceBy_X9_baseOf_128 (ci := 13) rfl rfl rfl rfl (zle rfl) dX9_chanceBy_26 ⟨Nat.le_refl _, Nat.le_refl _⟩ h (fun x4 M3 h => ?_)
      refine Z_iload_n dX9_chanceBy_29 rfl 4 rfl ?_
      refine Z_callSI (as := [vl x4, vi p3]) zRm_M zcs_X9_chanceBy_X9_chanceOf_132 rfl rfl (zle rfl) dX9_chanceBy_30 ⟨Nat.le_refl _, Nat.le_refl _⟩ h (fun x6 M5 h => ?_)
      refine Z_goto (tgt := 38) dX9_chanceBy_33 (by decide) ?_
      exact Z_iret rfl rfl dX9_chanceBy_38 (Nat.le_refl _) (Nat.le_refl _) ⟨_, rfl, h⟩
  · have h := h.2 q
    refine Z_iconst (v := 0) (by decide) dX9_chanceBy_14 ?_
    refine Z_goto (tgt := 38) dX9_chanceBy_15 (by decide) ?_
    exact Z_iret rfl rfl dX9_chanceBy_38 (Nat.le_refl _) (Nat.le_refl _) ⟨_, rfl, h⟩
-- X9_script
set_option maxRecDepth 100000 in
set_option maxHeartbeats 4000000 in
theorem zm_X9_script {l : Launch} {G : zG} {M : zM} {Kf : zM → Prop} (h : (zCalV l G Y_X9_advance 0 0 [vr 30 0] (zsI (zsI (zsI (zsI (zsI M 30 0 12 0) 30 0 15 0) 30 0 25 0) 30 0 26 0) 30 0 27 0) (fun M1 => zAt l G Y_X9_script (zEV G Y_X9_script Kf) 29 [(0, vr 30 0)] [] M1 0 0))) : zCalV l G Y_X9_script 0 0 [vr 30 0] M Kf := by
  refine zCal_of (lv := [(0, vr 30 0)]) (by decide) rfl (zle rfl) rfl (fun hv => zlv_args (lv := [(0, vr 30 0)]) rfl hv) ?_
  refine Z_aload_n dX9_script_0 rfl 0 rfl ?_
  refine Z_iconst (v := 0) (by decide) dX9_script_1 ?_
  refine Z_putI zfp_X9_191 rfl rfl dX9_script_2 ?_
  refine Z_aload_n dX9_script_5 rfl 0 rfl ?_
  refine Z_iconst (v := 0) (by decide) dX9_script_6 ?_
  refine Z_putI zfp_X9_210 rfl rfl dX9_script_7 ?_
  refine Z_aload_n dX9_script_10 rfl 0 rfl ?_
  refine Z_iconst (v := 0) (by decide) dX9_script_11 ?_
  refine Z_putI zfp_X9_320 rfl rfl dX9_script_12 ?_
  refine Z_aload_n dX9_script_15 rfl 0 rfl ?_
  refine Z_iconst (v := 0) (by decide) dX9_script_16 ?_
  refine Z_putI zfp_X9_317 rfl rfl dX9_script_17 ?_
  refine Z_aload_n dX9_script_20 rfl 0 rfl ?_
  refine Z_iconst (v := 0) (by decide) dX9_script_21 ?_
  refine Z_putI zfp_X9_332 rfl rfl dX9_script_22 ?_
  refine Z_aload_n dX9_script_25 rfl 0 rfl ?_
  refine Z_callVV (as := []) zRm_M zcv_X9_script_X9_advance_233 (ci := 13) rfl rfl rfl rfl (zle rfl) dX9_script_26 ⟨Nat.le_refl _, Nat.le_refl _⟩ h (fun M1 h => ?_)
  exact h
set_option maxRecDepth 100000 in
set_option maxHeartbeats 4000000 in
theorem zb_X9_script_29 {l : Launch} {G : zG}  {M : zM} {Kf : zM → Prop} (h : ((¬ (zmI M 30 0 15) = 0 → zAt l G Y_X9_script (zEV G Y_X9_script Kf) 54 [(0, vr 30 0)] [] M 0 0) ∧ ((zmI M 30 0 15) = 0 → (((zmI M 30 0 13) = 0 → zAt l G Y_X9_script (zEV G Y_X9_script Kf) 54 [(0, vr 30 0)] [] M 0 0) ∧ (¬ (zmI M 30 0 13) = 0 → (zCalV l G Y_X9_readsOrder 0 0 [vr 30 0] M (fun M1 => (zCalV l G Y_X9_closes 0 0 [vr 30 0] M1 (fun M2 => zAt l G Y_X9_script (zEV G Y_X9_script Kf) 29 [(0, vr 30 0)] [] M2 0 0))))))))) : zAt l G Y_X9_script (zEV G Y_X9_script Kf) 29 [(0, vr 30 0)] [] M 0 0 := by
  refine Z_aload_n dX9_script_29 rfl 0 rfl ?_
  refine Z_getI zfl_X9_210 dX9_script_30 ?_
  refine Z_if_ne (tgt := 54) dX9_script_33 (by decide) (fun q => ?_) (fun q => ?_)
  · have h := h.1 q
    exact h
  · have h := h.2 q
    refine Z_aload_n dX9_script_36 rfl 0 rfl ?_
    refine Z_getI zfl_X9_200 dX9_script_37 ?_
    refine Z_if_eq (tgt := 54) dX9_script_40 (by decide) (fun q => ?_) (fun q => ?_)
    · have h := h.1 q
      exact h
    · have h := h.2 q
      refine Z_aload_n dX9_script_43 rfl 0 rfl ?_
      refine Z_callVV (as := []) zRm_M zcv_X9_script_X9_readsOrder_335 (ci := 13) rfl rfl rfl rfl (zle rfl) dX9_script_44 ⟨Nat.le_refl _, Nat.le_refl _⟩ h (fun M1 h => ?_)
      refine Z_aload_n dX9_script_47 rfl 0 rfl ?_
      refine Z_callVV (as := []) zRm_M zcv_X9_script_X9_closes_338 (ci := 13) rfl rfl rfl rfl (zle rfl) dX9_script_48 ⟨Nat.le_refl _, Nat.le_refl _⟩ h (fun M2 h => ?_)
      refine Z_goto (tgt := 29) dX9_script_51 (by decide) ?_
      exact h
set_option maxRecDepth 100000 in
set_option maxHeartbeats 4000000 in
theorem zb_X9_script_54 {l : Launch} {G : zG}  {M : zM} {Kf : zM → Prop} (h : (((zmI M 30 0 27) ≤ 0 → zAt l G Y_X9_script (zEV G Y_X9_script Kf) 67 [] [vi 0, vr 30 0] M 0 0) ∧ (¬ (zmI M 30 0 27) ≤ 0 → zAt l G Y_X9_script (zEV G Y_X9_script Kf) 67 [] [vi 1, vr 30 0] M 0 0))) : zAt l G Y_X9_script (zEV G Y_X9_script Kf) 54 [(0, vr 30 0)] [] M 0 0 := by
  refine Z_aload_n dX9_script_54 rfl 0 rfl ?_
  refine Z_aload_n dX9_script_55 rfl 0 rfl ?_
  refine Z_getI zfl_X9_332 dX9_script_56 ?_
  refine Z_if_le (tgt := 66) dX9_script_59 (by decide) (fun q => ?_) (fun q => ?_)
  · have h := h.1 q
    refine Z_iconst (v := 0) (by decide) dX9_script_66 ?_
    exact Z_pick [] rfl h
  · have h := h.2 q
    refine Z_iconst (v := 1) (by decide) dX9_script_62 ?_
    refine Z_goto (tgt := 67) dX9_script_63 (by decide) ?_
    exact Z_pick [] rfl h
set_option maxRecDepth 100000 in
set_option maxHeartbeats 4000000 in
theorem zb_X9_script_67 {l : Launch} {G : zG} {s0 : Int32} {M : zM} {Kf : zM → Prop} (h : (zCalI l G Y_X9_wrong 0 0 [vr 30 0, vi s0, vi 1] M (fun x2 M1 => (Kf M1)))) : zAt l G Y_X9_script (zEV G Y_X9_script Kf) 67 [] [vi s0, vr 30 0] M 0 0 := by
  refine Z_iconst (v := 1) (by decide) dX9_script_67 ?_
  refine Z_callVI (as := [vi s0, vi 1]) zRm_M zcv_X9_script_X9_wrong_229 (ci := 13) rfl rfl rfl rfl (zle rfl) dX9_script_68 ⟨Nat.le_refl _, Nat.le_refl _⟩ h (fun x2 M1 h => ?_)
  refine Z_istore_n (lv2 := [(1, vi x2)]) dX9_script_71 rfl (by decide) rfl ?_
  exact Z_vret rfl dX9_script_72 (Nat.le_refl _) (Nat.le_refl _) ⟨rfl, h⟩
-- X9_arriveMany
set_option maxRecDepth 100000 in
set_option maxHeartbeats 4000000 in
theorem zm_X9_arriveMany {l : Launch} {G : zG} {p1 : Int32} {p2 : Int32} {M : zM} {Kf : Int32 → zM → Prop} (h : zAt l G Y_X9_arriveMany (zEI G Y_X9_arriveMany Kf) 5 [(0, vr 30 0), (1, vi p1), (2, vi p2), (3, vi 0), (4, vi 0)] [] M 0 0) : zCalI l G Y_X9_arriveMany 0 0 [vr 30 0, vi p1, vi p2] M Kf := by
  refine zCal_of (lv := [(0, vr 30 0), (1, vi p1), (2, vi p2)]) (by decide) rfl (zle rfl) rfl (fun hv => zlv_args (lv := [(0, vr 30 0), (1, vi p1), (2, vi p2)]) rfl hv) ?_
  refine Z_iconst (v := 0) (by decide) dX9_arriveMany_0 ?_
  refine Z_istore_n (lv2 := [(3, vi 0), (0, vr 30 0), (1, vi p1), (2, vi p2)]) dX9_arriveMany_1 rfl (by decide) rfl ?_
  refine Z_iconst (v := 0) (by decide) dX9_arriveMany_2 ?_
  refine Z_istore (lv2 := [(4, vi 0), (3, vi 0), (0, vr 30 0), (1, vi p1), (2, vi p2)]) dX9_arriveMany_3 (by decide) rfl ?_
  exact Z_pick [2, 3, 4, 1, 0] rfl h
set_option maxRecDepth 100000 in
set_option maxHeartbeats 4000000 in
theorem zb_X9_arriveMany_5 {l : Launch} {G : zG} {y1 : Int32} {y2 : Int32} {y3 : Int32} {y4 : Int32} {M : zM} {Kf : Int32 → zM → Prop} (h : ((y2 ≤ y4 → (Kf y3 M)) ∧ (¬ y2 ≤ y4 → (zCalI l G Y_X9_arrives 0 0 [vr 30 0, vi y1] M (fun x2 M1 => ((x2 = 2 → zAt l G Y_X9_arriveMany (zEI G Y_X9_arriveMany Kf) 26 [(0, vr 30 0), (1, vi y1), (2, vi y2), (4, vi y4)] [vi 0, vi y3] M1 0 0) ∧ (¬ x2 = 2 → zAt l G Y_X9_arriveMany (zEI G Y_X9_arriveMany Kf) 26 [(0, vr 30 0), (1, vi y1), (2, vi y2), (4, vi y4)] [vi 1, vi y3] M1 0 0))))))) : zAt l G Y_X9_arriveMany (zEI G Y_X9_arriveMany Kf) 5 [(0, vr 30 0), (1, vi y1), (2, vi y2), (3, vi y3), (4, vi y4)] [] M 0 0 := by
  refine Z_iload dX9_arriveMany_5 4 rfl ?_
  refine Z_iload_n dX9_arriveMany_7 rfl 2 rfl ?_
  refine Z_icmp_ge (tgt := 37) dX9_arriveMany_8 (by decide) (fun q => ?_) (fun q => ?_)
  · have h := h.1 q
    refine Z_iload_n dX9_arriveMany_37 rfl 3 rfl ?_
    exact Z_iret rfl rfl dX9_arriveMany_38 (Nat.le_refl _) (Nat.le_refl _) ⟨_, rfl, h⟩
  · have h := h.2 q
    refine Z_iload_n dX9_arriveMany_11 rfl 3 rfl ?_
    refine Z_aload_n dX9_arriveMany_12 rfl 0 rfl ?_
    refine Z_iload_n dX9_arriveMany_13 rfl 1 rfl ?_
    refine Z_callVI (as := [vi y1]) zRm_M zcv_X9_arriveMany_X9_arrives_143 (ci := 13) rfl rfl rfl rfl (zle rfl) dX9_arriveMany_14 ⟨Nat.le_refl _, Nat.le_refl _⟩ h (fun x2 M1 h => ?_)
    refine Z_iconst (v := 2) (by decide) dX9_arriveMany_17 ?_
    refine Z_icmp_eq (tgt := 25) dX9_arriveMany_18 (by decide) (fun q => ?_) (fun q => ?_)
    · have h := h.1 q
      refine Z_iconst (v := 0) (by decide) dX9_arriveMany_25 ?_
      exact Z_pick [0, 1, 2, 4] rfl h
    · have h := h.2 q
      refine Z_iconst (v := 1) (by decide) dX9_arriveMany_21 ?_
      refine Z_goto (tgt := 26) dX9_arriveMany_22 (by decide) ?_
      exact Z_pick [0, 1, 2, 4] rfl h
set_option maxRecDepth 100000 in
set_option maxHeartbeats 4000000 in
theorem zb_X9_arriveMany_26 {l : Launch} {G : zG} {y1 : Int32} {y2 : Int32} {y4 : Int32} {s0 : Int32} {s1 : Int32} {M : zM} {Kf : Int32 → zM → Prop} (h : (zCalI l G Y_X9_one 0 0 [vi s0] M (fun x2 M1 => zAt l G Y_X9_arriveMany (zEI G Y_X9_arriveMany Kf) 5 [(0, vr 30 0), (1, vi y1), (2, vi y2), (3, vi (s1 + x2)), (4, vi (y4 + 1))] [] M1 0 0))) : zAt l G Y_X9_arriveMany (zEI G Y_X9_arriveMany Kf) 26 [(0, vr 30 0), (1, vi y1), (2, vi y2), (4, vi y4)] [vi s0, vi s1] M 0 0 := by
  refine Z_callSI (as := [vi s0]) zRm_M zcs_X9_arriveMany_X9_one_99 rfl rfl (zle rfl) dX9_arriveMany_26 ⟨Nat.le_refl _, Nat.le_refl _⟩ h (fun x2 M1 h => ?_)
  refine Z_iadd dX9_arriveMany_29 ?_
  refine Z_istore_n (lv2 := [(3, vi (s1 + x2)), (0, vr 30 0), (1, vi y1), (2, vi y2), (4, vi y4)]) dX9_arriveMany_30 rfl (by decide) rfl ?_
  refine Z_iinc (v := (y4 + 1)) (lv2 := [(4, vi (y4 + 1)), (3, vi (s1 + x2)), (0, vr 30 0), (1, vi y1), (2, vi y2)]) dX9_arriveMany_31 4 rfl rfl (by decide) rfl ?_
  refine Z_goto (tgt := 5) dX9_arriveMany_34 (by decide) ?_
  exact Z_pick [2, 3, 4, 1, 0] rfl h
-- X9_burstOf
set_option maxRecDepth 100000 in
set_option maxHeartbeats 4000000 in
theorem zm_X9_burstOf {l : Launch} {G : zG} {p1 : Int32} {M : zM} {Kf : UInt64 → zM → Prop} (h : zAt l G Y_X9_burstOf (zED G Y_X9_burstOf Kf) 32 [(0, vr 30 0), (1, vi p1), (2, vd FP.dconst1), (4, vi (zmI M 31 0 9)), (5, vi (zmI M 31 0 10)), (6, vi (zmI M 31 0 8)), (7, vi 0)] [] M 0 0) : zCalD l G Y_X9_burstOf 0 0 [vr 30 0, vi p1] M Kf := by
  refine zCal_of (lv := [(0, vr 30 0), (1, vi p1)]) (by decide) rfl (zle rfl) rfl (fun hv => zlv_args (lv := [(0, vr 30 0), (1, vi p1)]) rfl hv) ?_
  refine Z_dconst1 dX9_burstOf_0 ?_
  refine Z_dstore_n (lv2 := [(2, vd FP.dconst1), (0, vr 30 0), (1, vi p1)]) dX9_burstOf_1 rfl (by decide) rfl ?_
  refine Z_aload_n dX9_burstOf_2 rfl 1 rfl ?_
  refine Z_getR (s1 := 31) (i1 := 0) zfl_X9_9 rfl (fun q => by first | exact q | decide) dX9_burstOf_3 ?_
  refine Z_bipush (v := 9) (by decide) dX9_burstOf_6 ?_
  refine Z_ialdK (n := 484) (j := 9) rfl (by decide) (zvin (by decide)) dX9_burstOf_8 ?_
  refine Z_istore (lv2 := [(4, vi (zmI M 31 0 9)), (2, vd FP.dconst1), (0, vr 30 0), (1, vi p1)]) dX9_burstOf_9 (by decide) rfl ?_
  refine Z_aload_n dX9_burstOf_11 rfl 2 rfl ?_
  refine Z_getR (s1 := 31) (i1 := 0) zfl_X9_9 rfl (fun q => by first | exact q | decide) dX9_burstOf_12 ?_
  refine Z_bipush (v := 10) (by decide) dX9_burstOf_15 ?_
  refine Z_ialdK (n := 484) (j := 10) rfl (by decide) (zvin (by decide)) dX9_burstOf_17 ?_
  refine Z_istore (lv2 := [(5, vi (zmI M 31 0 10)), (4, vi (zmI M 31 0 9)), (2, vd FP.dconst1), (0, vr 30 0), (1, vi p1)]) dX9_burstOf_18 (by decide) rfl ?_
  refine Z_aload_n dX9_burstOf_20 rfl 3 rfl ?_
  refine Z_getR (s1 := 31) (i1 := 0) zfl_X9_9 rfl (fun q => by first | exact q | decide) dX9_burstOf_21 ?_
  refine Z_bipush (v := 8) (by decide) dX9_burstOf_24 ?_
  refine Z_ialdK (n := 484) (j := 8) rfl (by decide) (zvin (by decide)) dX9_burstOf_26 ?_
  refine Z_istore (lv2 := [(6, vi (zmI M 31 0 8)), (5, vi (zmI M 31 0 10)), (4, vi (zmI M 31 0 9)), (2, vd FP.dconst1), (0, vr 30 0), (1, vi p1)]) dX9_burstOf_27 (by decide) rfl ?_
  refine Z_iconst (v := 0) (by decide) dX9_burstOf_29 ?_
  refine Z_istore (lv2 := [(7, vi 0), (6, vi (zmI M 31 0 8)), (5, vi (zmI M 31 0 10)), (4, vi (zmI M 31 0 9)), (2, vd FP.dconst1), (0, vr 30 0), (1, vi p1)]) dX9_burstOf_30 (by decide) rfl ?_
  exact Z_pick [5, 6, 4, 3, 2, 1, 0] rfl h
set_option maxRecDepth 100000 in
set_option maxHeartbeats 4000000 in
theorem zb_X9_burstOf_32 {l : Launch} {G : zG} {y1 : Int32} {y2 : UInt64} {y4 : Int32} {y5 : Int32} {y6 : Int32} {y7 : Int32} {M : zM} {Kf : UInt64 → zM → Prop} (h : ((y1 ≤ y7 → (Kf y2 M)) ∧ (¬ y1 ≤ y7 → (zCalI l G Y_X9_moved 0 0 [vr 30 0, vi y4, vi y6] M (fun x2 M1 => (zCalI l G Y_X9_chanceBy 0 0 [vr 30 0, vi x2, vi y6, vi (y5 + 1)] M1 (fun x4 M3 => ((¬ x4 = 65536 → (vf_n64 (FP.ddiv (FP.i2d (65536 - x4)) 4679240012837945344) ∧ (vf_n64 (FP.dmul y2 (FP.ddiv (FP.i2d (65536 - x4)) 4679240012837945344)) ∧ (zCalI l G Y_X9_low 0 0 [vr 30 0] M3 (fun x8 M7 => ((x8 ≤ x2 → zAt l G Y_X9_burstOf (zED G Y_X9_burstOf Kf) 101 [(0, vr 30 0), (1, vi y1), (2, vd (FP.dmul y2 (FP.ddiv (FP.i2d (65536 - x4)) 4679240012837945344))), (4, vi x2), (6, vi y6), (7, vi y7)] [vi (y5 + 1)] M7 0 0) ∧ (¬ x8 ≤ x2 → zAt l G Y_X9_burstOf (zED G Y_X9_burstOf Kf) 101 [(0, vr 30 0), (1, vi y1), (2, vd (FP.dmul y2 (FP.ddiv (FP.i2d (65536 - x4)) 4679240012837945344))), (4, vi x2), (6, vi y6), (7, vi y7)] [vi (-1)] M7 0 0))))))) ∧ (x4 = 65536 → (Kf FP.dconst0 M3)))))))))) : zAt l G Y_X9_burstOf (zED G Y_X9_burstOf Kf) 32 [(0, vr 30 0), (1, vi y1), (2, vd y2), (4, vi y4), (5, vi y5), (6, vi y6), (7, vi y7)] [] M 0 0 := by
  refine Z_iload dX9_burstOf_32 6 rfl ?_
  refine Z_iload_n dX9_burstOf_34 rfl 1 rfl ?_
  refine Z_icmp_ge (tgt := 112) dX9_burstOf_35 (by decide) (fun q => ?_) (fun q => ?_)
  · have h := h.1 q
    refine Z_dload_n dX9_burstOf_112 rfl 2 rfl ?_
    exact Z_dret rfl dX9_burstOf_113 (Nat.le_refl _) (Nat.le_refl _) ⟨_, rfl, h⟩
  · have h := h.2 q
    refine Z_aload_n dX9_burstOf_38 rfl 0 rfl ?_
    refine Z_iload dX9_burstOf_39 3 rfl ?_
    refine Z_iload dX9_burstOf_41 5 rfl ?_
    refine Z_callVI (as := [vi y4, vi y6]) zRm_M zcv_X9_burstOf_X9_moved_106 (ci := 13) rfl rfl rfl rfl (zle rfl) dX9_burstOf_43 ⟨Nat.le_refl _, Nat.le_refl _⟩ h (fun x2 M1 h => ?_)
    refine Z_istore (lv2 := [(4, vi x2), (0, vr 30 0), (1, vi y1), (2, vd y2), (5, vi y5), (6, vi y6), (7, vi y7)]) dX9_burstOf_46 (by decide) rfl ?_
    refine Z_aload_n dX9_burstOf_48 rfl 1 rfl ?_
    refine Z_iload dX9_burstOf_49 0 rfl ?_
    refine Z_iload dX9_burstOf_51 5 rfl ?_
    refine Z_iload dX9_burstOf_53 4 rfl ?_
    refine Z_iconst (v := 1) (by decide) dX9_burstOf_55 ?_
    refine Z_iadd dX9_burstOf_56 ?_
    refine Z_callVI (as := [vi x2, vi y6, vi (y5 + 1)]) zRm_M zcv_X9_burstOf_X9_chanceBy_399 (ci := 13) rfl rfl rfl rfl (zle rfl) dX9_burstOf_57 ⟨Nat.le_refl _, Nat.le_refl _⟩ h (fun x4 M3 h => ?_)
    refine Z_istore (lv2 := [(8, vi x4), (4, vi x2), (0, vr 30 0), (1, vi y1), (2, vd y2), (5, vi y5), (6, vi y6), (7, vi y7)]) dX9_burstOf_60 (by decide) rfl ?_
    refine Z_iload dX9_burstOf_62 0 rfl ?_
    refine Z_ldc (v := 65536) zw_1775 dX9_burstOf_64 ?_
    refine Z_icmp_ne (tgt := 71) dX9_burstOf_66 (by decide) (fun q => ?_) (fun q => ?_)
    · have h := h.1 q
      refine Z_dload_n dX9_burstOf_71 rfl 4 rfl ?_
      refine Z_ldc (v := 65536) zw_1775 dX9_burstOf_72 ?_
      refine Z_iload dX9_burstOf_74 0 rfl ?_
      refine Z_isub dX9_burstOf_76 ?_
      refine Z_i2d dX9_burstOf_77 ?_
      refine Z_ldc2d (v := 4679240012837945344) zw_2103 dX9_burstOf_78 ?_
      obtain ⟨g5, h⟩ := h
      refine Z_ddiv dX9_burstOf_81 g5 ?_
      obtain ⟨g6, h⟩ := h
      refine Z_dmul dX9_burstOf_82 g6 ?_
      refine Z_dstore_n (lv2 := [(2, vd (FP.dmul y2 (FP.ddiv (FP.i2d (65536 - x4)) 4679240012837945344))), (8, vi x4), (4, vi x2), (0, vr 30 0), (1, vi y1), (5, vi y5), (6, vi y6), (7, vi y7)]) dX9_burstOf_83 rfl (by decide) rfl ?_
      refine Z_iload dX9_burstOf_84 2 rfl ?_
      refine Z_aload_n dX9_burstOf_86 rfl 3 rfl ?_
      refine Z_callVI (as := []) zRm_M zcv_X9_burstOf_X9_low_82 (ci := 13) rfl rfl rfl rfl (zle rfl) dX9_burstOf_87 ⟨Nat.le_refl _, Nat.le_refl _⟩ h (fun x8 M7 h => ?_)
      refine Z_icmp_ge (tgt := 97) dX9_burstOf_90 (by decide) (fun q => ?_) (fun q => ?_)
      · have h := h.1 q
        refine Z_iload dX9_burstOf_97 5 rfl ?_
        refine Z_iconst (v := 1) (by decide) dX9_burstOf_99 ?_
        refine Z_iadd dX9_burstOf_100 ?_
        exact Z_pick [3, 4, 0, 2, 6, 7] rfl h
      · have h := h.2 q
        refine Z_iconst (v := (-1)) (by decide) dX9_burstOf_93 ?_
        refine Z_goto (tgt := 101) dX9_burstOf_94 (by decide) ?_
        exact Z_pick [3, 4, 0, 2, 6, 7] rfl h
    · have h := h.2 q
      refine Z_dconst0 dX9_burstOf_69 ?_
      exact Z_dret rfl dX9_burstOf_70 (Nat.le_refl _) (Nat.le_refl _) ⟨_, rfl, h⟩
set_option maxRecDepth 100000 in
set_option maxHeartbeats 4000000 in
theorem zb_X9_burstOf_101 {l : Launch} {G : zG} {y1 : Int32} {y2 : UInt64} {y4 : Int32} {y6 : Int32} {y7 : Int32} {s0 : Int32} {M : zM} {Kf : UInt64 → zM → Prop} (h : zAt l G Y_X9_burstOf (zED G Y_X9_burstOf Kf) 32 [(0, vr 30 0), (1, vi y1), (2, vd y2), (4, vi y4), (5, vi s0), (6, vi (y6 + 1)), (7, vi (y7 + 1))] [] M 0 0) : zAt l G Y_X9_burstOf (zED G Y_X9_burstOf Kf) 101 [(0, vr 30 0), (1, vi y1), (2, vd y2), (4, vi y4), (6, vi y6), (7, vi y7)] [vi s0] M 0 0 := by
  refine Z_istore (lv2 := [(5, vi s0), (0, vr 30 0), (1, vi y1), (2, vd y2), (4, vi y4), (6, vi y6), (7, vi y7)]) dX9_burstOf_101 (by decide) rfl ?_
  refine Z_iinc (v := (y6 + 1)) (lv2 := [(6, vi (y6 + 1)), (5, vi s0), (0, vr 30 0), (1, vi y1), (2, vd y2), (4, vi y4), (7, vi y7)]) dX9_burstOf_103 5 rfl rfl (by decide) rfl ?_
  refine Z_iinc (v := (y7 + 1)) (lv2 := [(7, vi (y7 + 1)), (6, vi (y6 + 1)), (5, vi s0), (0, vr 30 0), (1, vi y1), (2, vd y2), (4, vi y4)]) dX9_burstOf_106 6 rfl rfl (by decide) rfl ?_
  refine Z_goto (tgt := 32) dX9_burstOf_109 (by decide) ?_
  exact Z_pick [3, 4, 5, 6, 2, 1, 0] rfl h
-- X9_nextChance
set_option maxRecDepth 100000 in
set_option maxHeartbeats 4000000 in
theorem zm_X9_nextChance {l : Launch} {G : zG} {M : zM} {Kf : Int32 → zM → Prop} (h : (zCalI l G Y_X9_moved 0 0 [vr 30 0, vi (zmI (zsI M 30 0 7 0) 31 0 9), vi (zmI (zsI M 30 0 7 0) 31 0 8)] (zsI M 30 0 7 0) (fun x4 M3 => (zCalI l G Y_X9_chanceBy 0 0 [vr 30 0, vi x4, vi (zmI M3 31 0 8), vi ((zmI M3 31 0 10) + 1)] M3 (fun x8 M7 => (Kf x8 M7)))))) : zCalI l G Y_X9_nextChance 0 0 [vr 30 0] M Kf := by
  refine zCal_of (lv := [(0, vr 30 0)]) (by decide) rfl (zle rfl) rfl (fun hv => zlv_args (lv := [(0, vr 30 0)]) rfl hv) ?_
  refine Z_aload_n dX9_nextChance_0 rfl 0 rfl ?_
  refine Z_iconst (v := 0) (by decide) dX9_nextChance_1 ?_
  refine Z_putI zfp_X9_60 rfl rfl dX9_nextChance_2 ?_
  refine Z_aload_n dX9_nextChance_5 rfl 0 rfl ?_
  refine Z_aload_n dX9_nextChance_6 rfl 0 rfl ?_
  refine Z_aload_n dX9_nextChance_7 rfl 0 rfl ?_
  refine Z_getR (s1 := 31) (i1 := 0) zfl_X9_9 rfl (fun q => by first | exact q | decide) dX9_nextChance_8 ?_
  refine Z_bipush (v := 9) (by decide) dX9_nextChance_11 ?_
  refine Z_ialdK (n := 484) (j := 9) rfl (by decide) (zvin (by decide)) dX9_nextChance_13 ?_
  refine Z_aload_n dX9_nextChance_14 rfl 0 rfl ?_
  refine Z_getR (s1 := 31) (i1 := 0) zfl_X9_9 rfl (fun q => by first | exact q | decide) dX9_nextChance_15 ?_
  refine Z_bipush (v := 8) (by decide) dX9_nextChance_18 ?_
  refine Z_ialdK (n := 484) (j := 8) rfl (by decide) (zvin (by decide)) dX9_nextChance_20 ?_
  refine Z_callVI (as := [vi (zmI (zsI M 30 0 7 0) 31 0 9), vi (zmI (zsI M 30 0 7 0) 31 0 8)]) zRm_M zcv_X9_nextChance_X9_moved_106 (ci := 13) rfl rfl rfl rfl (zle rfl) dX9_nextChance_21 ⟨Nat.le_refl _, Nat.le_refl _⟩ h (fun x4 M3 h => ?_)
  refine Z_aload_n dX9_nextChance_24 rfl 0 rfl ?_
  refine Z_getR (s1 := 31) (i1 := 0) zfl_X9_9 rfl (fun q => by first | exact q | decide) dX9_nextChance_25 ?_
  refine Z_bipush (v := 8) (by decide) dX9_nextChance_28 ?_
  refine Z_ialdK (n := 484) (j := 8) rfl (by decide) (zvin (by decide)) dX9_nextChance_30 ?_
  refine Z_aload_n dX9_nextChance_31 rfl 0 rfl ?_
  refine Z_getR (s1 := 31) (i1 := 0) zfl_X9_9 rfl (fun q => by first | exact q | decide) dX9_nextChance_32 ?_
  refine Z_bipush (v := 10) (by decide) dX9_nextChance_35 ?_
  refine Z_ialdK (n := 484) (j := 10) rfl (by decide) (zvin (by decide)) dX9_nextChance_37 ?_
  refine Z_iconst (v := 1) (by decide) dX9_nextChance_38 ?_
  refine Z_iadd dX9_nextChance_39 ?_
  refine Z_callVI (as := [vi x4, vi (zmI M3 31 0 8), vi ((zmI M3 31 0 10) + 1)]) zRm_M zcv_X9_nextChance_X9_chanceBy_399 (ci := 13) rfl rfl rfl rfl (zle rfl) dX9_nextChance_40 ⟨Nat.le_refl _, Nat.le_refl _⟩ h (fun x8 M7 h => ?_)
  exact Z_iret rfl rfl dX9_nextChance_43 (Nat.le_refl _) (Nat.le_refl _) ⟨_, rfl, h⟩
-- X9_burst
set_option maxRecDepth 100000 in
set_option maxHeartbeats 4000000 in
theorem zm_X9_burst {l : Launch} {G : zG} {p1 : Int32} {M : zM} {Kf : UInt64 → zM → Prop} (h : (zCalI l G Y_X9_in 0 0 [vi p1, vi 1, vi 60] (zsI M 30 0 7 0) (fun x2 M1 => ((¬ x2 = 0 → zAt l G Y_X9_burst (zED G Y_X9_burst Kf) 21 [(0, vr 30 0), (1, vi p1)] [vi 0, vr 30 0] M1 0 0) ∧ (x2 = 0 → zAt l G Y_X9_burst (zED G Y_X9_burst Kf) 21 [(0, vr 30 0), (1, vi p1)] [vi 1, vr 30 0] M1 0 0))))) : zCalD l G Y_X9_burst 0 0 [vr 30 0, vi p1] M Kf := by
  refine zCal_of (lv := [(0, vr 30 0), (1, vi p1)]) (by decide) rfl (zle rfl) rfl (fun hv => zlv_args (lv := [(0, vr 30 0), (1, vi p1)]) rfl hv) ?_
  refine Z_aload_n dX9_burst_0 rfl 0 rfl ?_
  refine Z_iconst (v := 0) (by decide) dX9_burst_1 ?_
  refine Z_putI zfp_X9_60 rfl rfl dX9_burst_2 ?_
  refine Z_aload_n dX9_burst_5 rfl 0 rfl ?_
  refine Z_iload_n dX9_burst_6 rfl 1 rfl ?_
  refine Z_iconst (v := 1) (by decide) dX9_burst_7 ?_
  refine Z_bipush (v := 60) (by decide) dX9_burst_8 ?_
  refine Z_callSI (as := [vi p1, vi 1, vi 60]) zRm_M zcs_X9_burst_X9_in_63 rfl rfl (zle rfl) dX9_burst_10 ⟨Nat.le_refl _, Nat.le_refl _⟩ h (fun x2 M1 h => ?_)
  refine Z_if_ne (tgt := 20) dX9_burst_13 (by decide) (fun q => ?_) (fun q => ?_)
  · have h := h.1 q
    refine Z_iconst (v := 0) (by decide) dX9_burst_20 ?_
    exact h
  · have h := h.2 q
    refine Z_iconst (v := 1) (by decide) dX9_burst_16 ?_
    refine Z_goto (tgt := 21) dX9_burst_17 (by decide) ?_
    exact h
set_option maxRecDepth 100000 in
set_option maxHeartbeats 4000000 in
theorem zb_X9_burst_21 {l : Launch} {G : zG} {y1 : Int32} {s0 : Int32} {M : zM} {Kf : UInt64 → zM → Prop} (h : (zCalI l G Y_X9_fails 0 0 [vr 30 0, vi s0, vi 1] M (fun x2 M1 => ((x2 = 0 → (zCalD l G Y_X9_burstOf 0 0 [vr 30 0, vi y1] M1 (fun x4 M3 => (Kf x4 M3)))) ∧ (¬ x2 = 0 → (Kf FP.dconst0 M1)))))) : zAt l G Y_X9_burst (zED G Y_X9_burst Kf) 21 [(0, vr 30 0), (1, vi y1)] [vi s0, vr 30 0] M 0 0 := by
  refine Z_iconst (v := 1) (by decide) dX9_burst_21 ?_
  refine Z_callVI (as := [vi s0, vi 1]) zRm_M zcv_X9_burst_X9_fails_366 (ci := 13) rfl rfl rfl rfl (zle rfl) dX9_burst_22 ⟨Nat.le_refl _, Nat.le_refl _⟩ h (fun x2 M1 h => ?_)
  refine Z_if_eq (tgt := 32) dX9_burst_25 (by decide) (fun q => ?_) (fun q => ?_)
  · have h := h.1 q
    refine Z_aload_n dX9_burst_32 rfl 0 rfl ?_
    refine Z_iload_n dX9_burst_33 rfl 1 rfl ?_
    refine Z_callVD (as := [vi y1]) zRm_M zcv_X9_burst_X9_burstOf_404 (ci := 13) rfl rfl rfl rfl (zle rfl) dX9_burst_34 ⟨Nat.le_refl _, Nat.le_refl _⟩ h (fun x4 M3 h => ?_)
    exact Z_dret rfl dX9_burst_37 (Nat.le_refl _) (Nat.le_refl _) ⟨_, rfl, h⟩
  · have h := h.2 q
    refine Z_dconst0 dX9_burst_28 ?_
    refine Z_goto (tgt := 37) dX9_burst_29 (by decide) ?_
    exact Z_dret rfl dX9_burst_37 (Nat.le_refl _) (Nat.le_refl _) ⟨_, rfl, h⟩
-- X9_send
set_option maxRecDepth 100000 in
set_option maxHeartbeats 4000000 in
theorem zm_X9_send {l : Launch} {G : zG} {p1 : Int32} {p2 : Int32} {M : zM} {Kf : Int32 → zM → Prop} (h : (zCalI l G Y_X9_noFlow 0 0 [vr 30 0, vi p1] (zsI M 30 0 7 0) (fun x2 M1 => ((¬ x2 = 0 → (Kf 0 M1)) ∧ (x2 = 0 → (zCalI l G Y_X9_in 0 0 [vi p2, vi 1, vi 40] M1 (fun x4 M3 => ((¬ x4 = 0 → zAt l G Y_X9_send (zEI G Y_X9_send Kf) 29 [(0, vr 30 0), (1, vi p1), (2, vi p2)] [vi 0, vr 30 0] M3 0 0) ∧ (x4 = 0 → zAt l G Y_X9_send (zEI G Y_X9_send Kf) 29 [(0, vr 30 0), (1, vi p1), (2, vi p2)] [vi 1, vr 30 0] M3 0 0))))))))) : zCalI l G Y_X9_send 0 0 [vr 30 0, vi p1, vi p2] M Kf := by
  refine zCal_of (lv := [(0, vr 30 0), (1, vi p1), (2, vi p2)]) (by decide) rfl (zle rfl) rfl (fun hv => zlv_args (lv := [(0, vr 30 0), (1, vi p1), (2, vi p2)]) rfl hv) ?_
  refine Z_aload_n dX9_send_0 rfl 0 rfl ?_
  refine Z_iconst (v := 0) (by decide) dX9_send_1 ?_
  refine Z_putI zfp_X9_60 rfl rfl dX9_send_2 ?_
  refine Z_aload_n dX9_send_5 rfl 0 rfl ?_
  refine Z_iload_n dX9_send_6 rfl 1 rfl ?_
  refine Z_callVI (as := [vi p1]) zRm_M zcv_X9_send_X9_noFlow_375 (ci := 13) rfl rfl rfl rfl (zle rfl) dX9_send_7 ⟨Nat.le_refl _, Nat.le_refl _⟩ h (fun x2 M1 h => ?_)
  refine Z_if_ne (tgt := 36) dX9_send_10 (by decide) (fun q => ?_) (fun q => ?_)
  · have h := h.1 q
    refine Z_iconst (v := 0) (by decide) dX9_send_36 ?_
    exact Z_iret rfl rfl dX9_send_37 (Nat.le_refl _) (Nat.le_refl _) ⟨_, rfl, h⟩
  · have h := h.2 q
    refine Z_aload_n dX9_send_13 rfl 0 rfl ?_
    refine Z_iload_n dX9_send_14 rfl 2 rfl ?_
    refine Z_iconst (v := 1) (by decide) dX9_send_15 ?_
    refine Z_bipush (v := 40) (by decide) dX9_send_16 ?_
    refine Z_callSI (as := [vi p2, vi 1, vi 40]) zRm_M zcs_X9_send_X9_in_63 rfl rfl (zle rfl) dX9_send_18 ⟨Nat.le_refl _, Nat.le_refl _⟩ h (fun x4 M3 h => ?_)
    refine Z_if_ne (tgt := 28) dX9_send_21 (by decide) (fun q => ?_) (fun q => ?_)
    · have h := h.1 q
      refine Z_iconst (v := 0) (by decide) dX9_send_28 ?_
      exact h
    · have h := h.2 q
      refine Z_iconst (v := 1) (by decide) dX9_send_24 ?_
      refine Z_goto (tgt := 29) dX9_send_25 (by decide) ?_
      exact h
set_option maxRecDepth 100000 in
set_option maxHeartbeats 4000000 in
theorem zb_X9_send_29 {l : Launch} {G : zG} {y1 : Int32} {y2 : Int32} {s0 : Int32} {M : zM} {Kf : Int32 → zM → Prop} (h : (zCalI l G Y_X9_fails 0 0 [vr 30 0, vi s0, vi 2] M (fun x2 M1 => ((x2 = 0 → (zCalV l G Y_X9_starts 0 0 [vr 30 0] M1 (fun M3 => (zCalI l G Y_X9_arriveMany 0 0 [vr 30 0, vi y1, vi y2] M3 (fun x5 M4 => (zCalI l G Y_X9_recorded 0 0 [vr 30 0, vi x5] M4 (fun x7 M6 => (Kf x7 M6)))))))) ∧ (¬ x2 = 0 → (Kf 0 M1)))))) : zAt l G Y_X9_send (zEI G Y_X9_send Kf) 29 [(0, vr 30 0), (1, vi y1), (2, vi y2)] [vi s0, vr 30 0] M 0 0 := by
  refine Z_iconst (v := 2) (by decide) dX9_send_29 ?_
  refine Z_callVI (as := [vi s0, vi 2]) zRm_M zcv_X9_send_X9_fails_366 (ci := 13) rfl rfl rfl rfl (zle rfl) dX9_send_30 ⟨Nat.le_refl _, Nat.le_refl _⟩ h (fun x2 M1 h => ?_)
  refine Z_if_eq (tgt := 38) dX9_send_33 (by decide) (fun q => ?_) (fun q => ?_)
  · have h := h.1 q
    refine Z_aload_n dX9_send_38 rfl 0 rfl ?_
    refine Z_callVV (as := []) zRm_M zcv_X9_send_X9_starts_423 (ci := 13) rfl rfl rfl rfl (zle rfl) dX9_send_39 ⟨Nat.le_refl _, Nat.le_refl _⟩ h (fun M3 h => ?_)
    refine Z_aload_n dX9_send_42 rfl 0 rfl ?_
    refine Z_aload_n dX9_send_43 rfl 0 rfl ?_
    refine Z_iload_n dX9_send_44 rfl 1 rfl ?_
    refine Z_iload_n dX9_send_45 rfl 2 rfl ?_
    refine Z_callVI (as := [vi y1, vi y2]) zRm_M zcv_X9_send_X9_arriveMany_156 (ci := 13) rfl rfl rfl rfl (zle rfl) dX9_send_46 ⟨Nat.le_refl _, Nat.le_refl _⟩ h (fun x5 M4 h => ?_)
    refine Z_callVI (as := [vi x5]) zRm_M zcv_X9_send_X9_recorded_426 (ci := 13) rfl rfl rfl rfl (zle rfl) dX9_send_49 ⟨Nat.le_refl _, Nat.le_refl _⟩ h (fun x7 M6 h => ?_)
    exact Z_iret rfl rfl dX9_send_52 (Nat.le_refl _) (Nat.le_refl _) ⟨_, rfl, h⟩
  · have h := h.2 q
    refine Z_iconst (v := 0) (by decide) dX9_send_36 ?_
    exact Z_iret rfl rfl dX9_send_37 (Nat.le_refl _) (Nat.le_refl _) ⟨_, rfl, h⟩
-- X9_sends
set_option maxRecDepth 100000 in
set_option maxHeartbeats 4000000 in
theorem zm_X9_sends {l : Launch} {G : zG} {p1 : Int32} {M : zM} {Kf : zM → Prop} (h : (zCalI l G Y_X9_ofFlow 0 0 [vr 30 0, vi p1, vi 6] M (fun x2 M1 => (zCalI l G Y_X9_ofFlow 0 0 [vr 30 0, vi p1, vi 8] M1 (fun x4 M3 => ((x4 ≤ 0 → zAt l G Y_X9_sends (zEV G Y_X9_sends Kf) 58 [(0, vr 30 0), (1, vi p1)] [] M3 0 0) ∧ (¬ x4 ≤ 0 → (zCalI l G Y_X9_ofFlow 0 0 [vr 30 0, vi p1, vi 7] M3 (fun x6 M5 => ((¬ x6 = 1 → (zCalI l G Y_X9_ofFlow 0 0 [vr 30 0, vi p1, vi 3] M5 (fun x8 M7 => zAt l G Y_X9_sends (zEV G Y_X9_sends Kf) 55 [(0, vr 30 0), (1, vi p1)] [vi (if (x2 + 1) < x8 then (x2 + 1) else x8), vi 6, vi p1, vr 30 0] M7 0 0))) ∧ (x6 = 1 → zAt l G Y_X9_sends (zEV G Y_X9_sends Kf) 55 [(0, vr 30 0), (1, vi p1)] [vi (if 1 < (x2 / 2) then (x2 / 2) else 1), vi 6, vi p1, vr 30 0] M5 0 0))))))))))) : zCalV l G Y_X9_sends 0 0 [vr 30 0, vi p1] M Kf := by
  refine zCal_of (lv := [(0, vr 30 0), (1, vi p1)]) (by decide) rfl (zle rfl) rfl (fun hv => zlv_args (lv := [(0, vr 30 0), (1, vi p1)]) rfl hv) ?_
  refine Z_aload_n dX9_sends_0 rfl 0 rfl ?_
  refine Z_iload_n dX9_sends_1 rfl 1 rfl ?_
  refine Z_bipush (v := 6) (by decide) dX9_sends_2 ?_
  refine Z_callVI (as := [vi p1, vi 6]) zRm_M zcv_X9_sends_X9_ofFlow_67 (ci := 13) rfl rfl rfl rfl (zle rfl) dX9_sends_4 ⟨Nat.le_refl _, Nat.le_refl _⟩ h (fun x2 M1 h => ?_)
  refine Z_istore_n (lv2 := [(2, vi x2), (0, vr 30 0), (1, vi p1)]) dX9_sends_7 rfl (by decide) rfl ?_
  refine Z_aload_n dX9_sends_8 rfl 1 rfl ?_
  refine Z_iload_n dX9_sends_9 rfl 2 rfl ?_
  refine Z_bipush (v := 8) (by decide) dX9_sends_10 ?_
  refine Z_callVI (as := [vi p1, vi 8]) zRm_M zcv_X9_sends_X9_ofFlow_67 (ci := 13) rfl rfl rfl rfl (zle rfl) dX9_sends_12 ⟨Nat.le_refl _, Nat.le_refl _⟩ h (fun x4 M3 h => ?_)
  refine Z_if_le (tgt := 58) dX9_sends_15 (by decide) (fun q => ?_) (fun q => ?_)
  · have h := h.1 q
    exact Z_pick [1, 2] rfl h
  · have h := h.2 q
    refine Z_aload_n dX9_sends_18 rfl 1 rfl ?_
    refine Z_iload_n dX9_sends_19 rfl 2 rfl ?_
    refine Z_bipush (v := 6) (by decide) dX9_sends_20 ?_
    refine Z_aload_n dX9_sends_22 rfl 1 rfl ?_
    refine Z_iload_n dX9_sends_23 rfl 2 rfl ?_
    refine Z_bipush (v := 7) (by decide) dX9_sends_24 ?_
    refine Z_callVI (as := [vi p1, vi 7]) zRm_M zcv_X9_sends_X9_ofFlow_67 (ci := 13) rfl rfl rfl rfl (zle rfl) dX9_sends_26 ⟨Nat.le_refl _, Nat.le_refl _⟩ h (fun x6 M5 h => ?_)
    refine Z_iconst (v := 1) (by decide) dX9_sends_29 ?_
    refine Z_icmp_ne (tgt := 43) dX9_sends_30 (by decide) (fun q => ?_) (fun q => ?_)
    · have h := h.1 q
      refine Z_aload_n dX9_sends_43 rfl 1 rfl ?_
      refine Z_iload_n dX9_sends_44 rfl 2 rfl ?_
      refine Z_iconst (v := 3) (by decide) dX9_sends_45 ?_
      refine Z_callVI (as := [vi p1, vi 3]) zRm_M zcv_X9_sends_X9_ofFlow_67 (ci := 13) rfl rfl rfl rfl (zle rfl) dX9_sends_46 ⟨Nat.le_refl _, Nat.le_refl _⟩ h (fun x8 M7 h => ?_)
      refine Z_iload_n dX9_sends_49 rfl 0 rfl ?_
      refine Z_iconst (v := 1) (by decide) dX9_sends_50 ?_
      refine Z_iadd dX9_sends_51 ?_
      refine Z_mmin zw_1850 zw_797 zw_129 zw_798 zRm_M (by decide) (zle rfl) (Nat.zero_le _) (Nat.zero_le _) dX9_sends_52 ?_
      exact Z_pick [1, 2] rfl h
    · have h := h.2 q
      refine Z_iconst (v := 1) (by decide) dX9_sends_33 ?_
      refine Z_iload_n dX9_sends_34 rfl 0 rfl ?_
      refine Z_iconst (v := 2) (by decide) dX9_sends_35 ?_
      refine Z_idiv dX9_sends_36 (by decide) ?_
      refine Z_mmax zw_1895 zw_829 zw_129 zw_830 zRm_M (by decide) (zle rfl) (Nat.zero_le _) (Nat.zero_le _) dX9_sends_37 ?_
      refine Z_goto (tgt := 55) dX9_sends_40 (by decide) ?_
      exact Z_pick [1, 2] rfl h
set_option maxRecDepth 100000 in
set_option maxHeartbeats 4000000 in
theorem zb_X9_sends_58 {l : Launch} {G : zG} {y1 : Int32} {M : zM} {Kf : zM → Prop} (h : (zCalV l G Y_X9_putsFlow 0 0 [vr 30 0, vi y1, vi 7, vi 0] M (fun M1 => (zCalI l G Y_X9_ofFlow 0 0 [vr 30 0, vi y1, vi 8] M1 (fun x3 M2 => (zCalV l G Y_X9_putsFlow 0 0 [vr 30 0, vi y1, vi 8, vi (x3 + 1)] M2 (fun M4 => (zCalI l G Y_X9_ofFlow 0 0 [vr 30 0, vi y1, vi 6] M4 (fun x6 M5 => (zCalI l G Y_X9_arriveMany 0 0 [vr 30 0, vi y1, vi x6] M5 (fun x8 M7 => (Kf M7)))))))))))) : zAt l G Y_X9_sends (zEV G Y_X9_sends Kf) 58 [(0, vr 30 0), (1, vi y1)] [] M 0 0 := by
  refine Z_aload_n dX9_sends_58 rfl 0 rfl ?_
  refine Z_iload_n dX9_sends_59 rfl 1 rfl ?_
  refine Z_bipush (v := 7) (by decide) dX9_sends_60 ?_
  refine Z_iconst (v := 0) (by decide) dX9_sends_62 ?_
  refine Z_callVV (as := [vi y1, vi 7, vi 0]) zRm_M zcv_X9_sends_X9_putsFlow_71 (ci := 13) rfl rfl rfl rfl (zle rfl) dX9_sends_63 ⟨Nat.le_refl _, Nat.le_refl _⟩ h (fun M1 h => ?_)
  refine Z_aload_n dX9_sends_66 rfl 0 rfl ?_
  refine Z_iload_n dX9_sends_67 rfl 1 rfl ?_
  refine Z_bipush (v := 8) (by decide) dX9_sends_68 ?_
  refine Z_aload_n dX9_sends_70 rfl 0 rfl ?_
  refine Z_iload_n dX9_sends_71 rfl 1 rfl ?_
  refine Z_bipush (v := 8) (by decide) dX9_sends_72 ?_
  refine Z_callVI (as := [vi y1, vi 8]) zRm_M zcv_X9_sends_X9_ofFlow_67 (ci := 13) rfl rfl rfl rfl (zle rfl) dX9_sends_74 ⟨Nat.le_refl _, Nat.le_refl _⟩ h (fun x3 M2 h => ?_)
  refine Z_iconst (v := 1) (by decide) dX9_sends_77 ?_
  refine Z_iadd dX9_sends_78 ?_
  refine Z_callVV (as := [vi y1, vi 8, vi (x3 + 1)]) zRm_M zcv_X9_sends_X9_putsFlow_71 (ci := 13) rfl rfl rfl rfl (zle rfl) dX9_sends_79 ⟨Nat.le_refl _, Nat.le_refl _⟩ h (fun M4 h => ?_)
  refine Z_aload_n dX9_sends_82 rfl 0 rfl ?_
  refine Z_iload_n dX9_sends_83 rfl 1 rfl ?_
  refine Z_aload_n dX9_sends_84 rfl 0 rfl ?_
  refine Z_iload_n dX9_sends_85 rfl 1 rfl ?_
  refine Z_bipush (v := 6) (by decide) dX9_sends_86 ?_
  refine Z_callVI (as := [vi y1, vi 6]) zRm_M zcv_X9_sends_X9_ofFlow_67 (ci := 13) rfl rfl rfl rfl (zle rfl) dX9_sends_88 ⟨Nat.le_refl _, Nat.le_refl _⟩ h (fun x6 M5 h => ?_)
  refine Z_callVI (as := [vi y1, vi x6]) zRm_M zcv_X9_sends_X9_arriveMany_156 (ci := 13) rfl rfl rfl rfl (zle rfl) dX9_sends_91 ⟨Nat.le_refl _, Nat.le_refl _⟩ h (fun x8 M7 h => ?_)
  refine Z_istore_n (lv2 := [(3, vi x8), (0, vr 30 0), (1, vi y1)]) dX9_sends_94 rfl (by decide) rfl ?_
  exact Z_vret rfl dX9_sends_95 (Nat.le_refl _) (Nat.le_refl _) ⟨rfl, h⟩
set_option maxRecDepth 100000 in
set_option maxHeartbeats 4000000 in
theorem zb_X9_sends_55 {l : Launch} {G : zG} {y1 : Int32} {s0 : Int32} {s1 : Int32} {s2 : Int32} {M : zM} {Kf : zM → Prop} (h : (zCalV l G Y_X9_putsFlow 0 0 [vr 30 0, vi s2, vi s1, vi s0] M (fun M1 => zAt l G Y_X9_sends (zEV G Y_X9_sends Kf) 58 [(0, vr 30 0), (1, vi y1)] [] M1 0 0))) : zAt l G Y_X9_sends (zEV G Y_X9_sends Kf) 55 [(0, vr 30 0), (1, vi y1)] [vi s0, vi s1, vi s2, vr 30 0] M 0 0 := by
  refine Z_callVV (as := [vi s2, vi s1, vi s0]) zRm_M zcv_X9_sends_X9_putsFlow_71 (ci := 13) rfl rfl rfl rfl (zle rfl) dX9_sends_55 ⟨Nat.le_refl _, Nat.le_refl _⟩ h (fun M1 h => ?_)
  exact h
-- X9_sureBurst
set_option maxRecDepth 100000 in
set_option maxHeartbeats 4000000 in
theorem zm_X9_sureBurst {l : Launch} {G : zG} {p1 : Int32} {M : zM} {Kf : Int32 → zM → Prop} (h : (zCalI l G Y_X9_in 0 0 [vi p1, vi 1, vi 100] (zsI M 30 0 7 0) (fun x2 M1 => ((¬ x2 = 0 → zAt l G Y_X9_sureBurst (zEI G Y_X9_sureBurst Kf) 21 [(0, vr 30 0), (1, vi p1)] [vi 0, vr 30 0] M1 0 0) ∧ (x2 = 0 → zAt l G Y_X9_sureBurst (zEI G Y_X9_sureBurst Kf) 21 [(0, vr 30 0), (1, vi p1)] [vi 1, vr 30 0] M1 0 0))))) : zCalI l G Y_X9_sureBurst 0 0 [vr 30 0, vi p1] M Kf := by
  refine zCal_of (lv := [(0, vr 30 0), (1, vi p1)]) (by decide) rfl (zle rfl) rfl (fun hv => zlv_args (lv := [(0, vr 30 0), (1, vi p1)]) rfl hv) ?_
  refine Z_aload_n dX9_sureBurst_0 rfl 0 rfl ?_
  refine Z_iconst (v := 0) (by decide) dX9_sureBurst_1 ?_
  refine Z_putI zfp_X9_60 rfl rfl dX9_sureBurst_2 ?_
  refine Z_aload_n dX9_sureBurst_5 rfl 0 rfl ?_
  refine Z_iload_n dX9_sureBurst_6 rfl 1 rfl ?_
  refine Z_iconst (v := 1) (by decide) dX9_sureBurst_7 ?_
  refine Z_bipush (v := 100) (by decide) dX9_sureBurst_8 ?_
  refine Z_callSI (as := [vi p1, vi 1, vi 100]) zRm_M zcs_X9_sureBurst_X9_in_63 rfl rfl (zle rfl) dX9_sureBurst_10 ⟨Nat.le_refl _, Nat.le_refl _⟩ h (fun x2 M1 h => ?_)
  refine Z_if_ne (tgt := 20) dX9_sureBurst_13 (by decide) (fun q => ?_) (fun q => ?_)
  · have h := h.1 q
    refine Z_iconst (v := 0) (by decide) dX9_sureBurst_20 ?_
    exact h
  · have h := h.2 q
    refine Z_iconst (v := 1) (by decide) dX9_sureBurst_16 ?_
    refine Z_goto (tgt := 21) dX9_sureBurst_17 (by decide) ?_
    exact h
set_option maxRecDepth 100000 in
set_option maxHeartbeats 4000000 in
theorem zb_X9_sureBurst_21 {l : Launch} {G : zG} {y1 : Int32} {s0 : Int32} {M : zM} {Kf : Int32 → zM → Prop} (h : (zCalI l G Y_X9_fails 0 0 [vr 30 0, vi s0, vi 1] M (fun x2 M1 => ((x2 = 0 → zAt l G Y_X9_sureBurst (zEI G Y_X9_sureBurst Kf) 32 [(0, vr 30 0), (1, vi y1), (2, vi 0)] [] M1 0 0) ∧ (¬ x2 = 0 → (Kf 0 M1)))))) : zAt l G Y_X9_sureBurst (zEI G Y_X9_sureBurst Kf) 21 [(0, vr 30 0), (1, vi y1)] [vi s0, vr 30 0] M 0 0 := by
  refine Z_iconst (v := 1) (by decide) dX9_sureBurst_21 ?_
  refine Z_callVI (as := [vi s0, vi 1]) zRm_M zcv_X9_sureBurst_X9_fails_366 (ci := 13) rfl rfl rfl rfl (zle rfl) dX9_sureBurst_22 ⟨Nat.le_refl _, Nat.le_refl _⟩ h (fun x2 M1 h => ?_)
  refine Z_if_eq (tgt := 30) dX9_sureBurst_25 (by decide) (fun q => ?_) (fun q => ?_)
  · have h := h.1 q
    refine Z_iconst (v := 0) (by decide) dX9_sureBurst_30 ?_
    refine Z_istore_n (lv2 := [(2, vi 0), (0, vr 30 0), (1, vi y1)]) dX9_sureBurst_31 rfl (by decide) rfl ?_
    exact Z_pick [1, 2, 0] rfl h
  · have h := h.2 q
    refine Z_iconst (v := 0) (by decide) dX9_sureBurst_28 ?_
    exact Z_iret rfl rfl dX9_sureBurst_29 (Nat.le_refl _) (Nat.le_refl _) ⟨_, rfl, h⟩
set_option maxRecDepth 100000 in
set_option maxHeartbeats 4000000 in
theorem zb_X9_sureBurst_32 {l : Launch} {G : zG} {y1 : Int32} {y2 : Int32} {M : zM} {Kf : Int32 → zM → Prop} (h : ((60 ≤ y2 → (Kf y2 M)) ∧ (¬ 60 ≤ y2 → (zCalD l G Y_X9_burstOf 0 0 [vr 30 0, vi (y2 + 1)] M (fun x2 M1 => (vf_n64 (FP.ddiv (FP.i2d y1) 4636737291354636288) ∧ (((Op.cmpValue (FP.dcmp x2 (FP.ddiv (FP.i2d y1) 4636737291354636288)) .l) < 0 → (Kf y2 M1)) ∧ (¬ (Op.cmpValue (FP.dcmp x2 (FP.ddiv (FP.i2d y1) 4636737291354636288)) .l) < 0 → zAt l G Y_X9_sureBurst (zEI G Y_X9_sureBurst Kf) 32 [(0, vr 30 0), (1, vi y1), (2, vi (y2 + 1))] [] M1 0 0)))))))) : zAt l G Y_X9_sureBurst (zEI G Y_X9_sureBurst Kf) 32 [(0, vr 30 0), (1, vi y1), (2, vi y2)] [] M 0 0 := by
  refine Z_iload_n dX9_sureBurst_32 rfl 2 rfl ?_
  refine Z_bipush (v := 60) (by decide) dX9_sureBurst_33 ?_
  refine Z_icmp_ge (tgt := 61) dX9_sureBurst_35 (by decide) (fun q => ?_) (fun q => ?_)
  · have h := h.1 q
    refine Z_iload_n dX9_sureBurst_61 rfl 2 rfl ?_
    exact Z_iret rfl rfl dX9_sureBurst_62 (Nat.le_refl _) (Nat.le_refl _) ⟨_, rfl, h⟩
  · have h := h.2 q
    refine Z_aload_n dX9_sureBurst_38 rfl 0 rfl ?_
    refine Z_iload_n dX9_sureBurst_39 rfl 2 rfl ?_
    refine Z_iconst (v := 1) (by decide) dX9_sureBurst_40 ?_
    refine Z_iadd dX9_sureBurst_41 ?_
    refine Z_callVD (as := [vi (y2 + 1)]) zRm_M zcv_X9_sureBurst_X9_burstOf_404 (ci := 13) rfl rfl rfl rfl (zle rfl) dX9_sureBurst_42 ⟨Nat.le_refl _, Nat.le_refl _⟩ h (fun x2 M1 h => ?_)
    refine Z_iload_n dX9_sureBurst_45 rfl 1 rfl ?_
    refine Z_i2d dX9_sureBurst_46 ?_
    refine Z_ldc2d (v := 4636737291354636288) zw_2108 dX9_sureBurst_47 ?_
    obtain ⟨g3, h⟩ := h
    refine Z_ddiv dX9_sureBurst_50 g3 ?_
    refine Z_dcmp dX9_sureBurst_51 ?_
    refine Z_if_lt (tgt := 61) dX9_sureBurst_52 (by decide) (fun q => ?_) (fun q => ?_)
    · have h := h.1 q
      refine Z_iload_n dX9_sureBurst_61 rfl 2 rfl ?_
      exact Z_iret rfl rfl dX9_sureBurst_62 (Nat.le_refl _) (Nat.le_refl _) ⟨_, rfl, h⟩
    · have h := h.2 q
      refine Z_iinc (v := (y2 + 1)) (lv2 := [(2, vi (y2 + 1)), (0, vr 30 0), (1, vi y1)]) dX9_sureBurst_55 2 rfl rfl (by decide) rfl ?_
      refine Z_goto (tgt := 32) dX9_sureBurst_58 (by decide) ?_
      exact Z_pick [1, 2, 0] rfl h
-- X9_passes
set_option maxRecDepth 100000 in
set_option maxHeartbeats 4000000 in
theorem zm_X9_passes {l : Launch} {G : zG} {M : zM} {Kf : zM → Prop} (h : zAt l G Y_X9_passes (zEV G Y_X9_passes Kf) 13 [(0, vr 30 0), (1, vi 0)] [] (zsI M 31 0 7 ((zmI M 31 0 7) + 1)) 0 0) : zCalV l G Y_X9_passes 0 0 [vr 30 0] M Kf := by
  refine zCal_of (lv := [(0, vr 30 0)]) (by decide) rfl (zle rfl) rfl (fun hv => zlv_args (lv := [(0, vr 30 0)]) rfl hv) ?_
  refine Z_aload_n dX9_passes_0 rfl 0 rfl ?_
  refine Z_getR (s1 := 31) (i1 := 0) zfl_X9_9 rfl (fun q => by first | exact q | decide) dX9_passes_1 ?_
  refine Z_bipush (v := 7) (by decide) dX9_passes_4 ?_
  refine Z_dup2 rfl rfl dX9_passes_6 ?_
  refine Z_ialdK (n := 484) (j := 7) rfl (by decide) (zvin (by decide)) dX9_passes_7 ?_
  refine Z_iconst (v := 1) (by decide) dX9_passes_8 ?_
  refine Z_iadd dX9_passes_9 ?_
  refine Z_iastK (n := 484) (j := 7) rfl (by decide) (zvin (by decide)) dX9_passes_10 ?_
  refine Z_iconst (v := 0) (by decide) dX9_passes_11 ?_
  refine Z_istore_n (lv2 := [(1, vi 0), (0, vr 30 0)]) dX9_passes_12 rfl (by decide) rfl ?_
  exact Z_pick [1, 0] rfl h
set_option maxRecDepth 100000 in
set_option maxHeartbeats 4000000 in
theorem zb_X9_passes_13 {l : Launch} {G : zG} {y1 : Int32} {M : zM} {Kf : zM → Prop} (h : (((zmI M 31 0 11) ≤ y1 → zAt l G Y_X9_passes (zEV G Y_X9_passes Kf) 62 [(0, vr 30 0), (1, vi (if (zmI M 31 0 8) < (zmI M 31 0 1) then (zmI M 31 0 8) else (zmI M 31 0 1))), (2, vi 0)] [] M 0 0) ∧ (¬ (zmI M 31 0 11) ≤ y1 → (zCalI l G Y_X9_sendsNow 0 0 [vr 30 0, vi y1] M (fun x5 M4 => ((x5 = 0 → zAt l G Y_X9_passes (zEV G Y_X9_passes Kf) 37 [(0, vr 30 0), (1, vi y1)] [] M4 0 0) ∧ (¬ x5 = 0 → (zCalV l G Y_X9_sends 0 0 [vr 30 0, vi y1] M4 (fun M6 => zAt l G Y_X9_passes (zEV G Y_X9_passes Kf) 37 [(0, vr 30 0), (1, vi y1)] [] M6 0 0))))))))) : zAt l G Y_X9_passes (zEV G Y_X9_passes Kf) 13 [(0, vr 30 0), (1, vi y1)] [] M 0 0 := by
  refine Z_iload_n dX9_passes_13 rfl 1 rfl ?_
  refine Z_aload_n dX9_passes_14 rfl 0 rfl ?_
  refine Z_getR (s1 := 31) (i1 := 0) zfl_X9_9 rfl (fun q => by first | exact q | decide) dX9_passes_15 ?_
  refine Z_bipush (v := 11) (by decide) dX9_passes_18 ?_
  refine Z_ialdK (n := 484) (j := 11) rfl (by decide) (zvin (by decide)) dX9_passes_20 ?_
  refine Z_icmp_ge (tgt := 43) dX9_passes_21 (by decide) (fun q => ?_) (fun q => ?_)
  · have h := h.1 q
    refine Z_aload_n dX9_passes_43 rfl 0 rfl ?_
    refine Z_getR (s1 := 31) (i1 := 0) zfl_X9_9 rfl (fun q => by first | exact q | decide) dX9_passes_44 ?_
    refine Z_iconst (v := 1) (by decide) dX9_passes_47 ?_
    refine Z_ialdK (n := 484) (j := 1) rfl (by decide) (zvin (by decide)) dX9_passes_48 ?_
    refine Z_aload_n dX9_passes_49 rfl 0 rfl ?_
    refine Z_getR (s1 := 31) (i1 := 0) zfl_X9_9 rfl (fun q => by first | exact q | decide) dX9_passes_50 ?_
    refine Z_bipush (v := 8) (by decide) dX9_passes_53 ?_
    refine Z_ialdK (n := 484) (j := 8) rfl (by decide) (zvin (by decide)) dX9_passes_55 ?_
    refine Z_mmin zw_1850 zw_797 zw_129 zw_798 zRm_M (by decide) (zle rfl) (Nat.zero_le _) (Nat.zero_le _) dX9_passes_56 ?_
    refine Z_istore_n (lv2 := [(1, vi (if (zmI M 31 0 8) < (zmI M 31 0 1) then (zmI M 31 0 8) else (zmI M 31 0 1))), (0, vr 30 0)]) dX9_passes_59 rfl (by decide) rfl ?_
    refine Z_iconst (v := 0) (by decide) dX9_passes_60 ?_
    refine Z_istore_n (lv2 := [(2, vi 0), (1, vi (if (zmI M 31 0 8) < (zmI M 31 0 1) then (zmI M 31 0 8) else (zmI M 31 0 1))), (0, vr 30 0)]) dX9_passes_61 rfl (by decide) rfl ?_
    exact Z_pick [2, 1, 0] rfl h
  · have h := h.2 q
    refine Z_aload_n dX9_passes_24 rfl 0 rfl ?_
    refine Z_iload_n dX9_passes_25 rfl 1 rfl ?_
    refine Z_callVI (as := [vi y1]) zRm_M zcv_X9_passes_X9_sendsNow_162 (ci := 13) rfl rfl rfl rfl (zle rfl) dX9_passes_26 ⟨Nat.le_refl _, Nat.le_refl _⟩ h (fun x5 M4 h => ?_)
    refine Z_if_eq (tgt := 37) dX9_passes_29 (by decide) (fun q => ?_) (fun q => ?_)
    · have h := h.1 q
      exact h
    · have h := h.2 q
      refine Z_aload_n dX9_passes_32 rfl 0 rfl ?_
      refine Z_iload_n dX9_passes_33 rfl 1 rfl ?_
      refine Z_callVV (as := [vi y1]) zRm_M zcv_X9_passes_X9_sends_165 (ci := 13) rfl rfl rfl rfl (zle rfl) dX9_passes_34 ⟨Nat.le_refl _, Nat.le_refl _⟩ h (fun M6 h => ?_)
      exact h
set_option maxRecDepth 100000 in
set_option maxHeartbeats 4000000 in
theorem zb_X9_passes_62 {l : Launch} {G : zG} {y1 : Int32} {y2 : Int32} {M : zM} {Kf : zM → Prop} (h : ((y1 ≤ y2 → zAt l G Y_X9_passes (zEV G Y_X9_passes Kf) 93 [(0, vr 30 0), (1, vi y1), (2, vi 172)] [] (zsI M 31 0 8 ((zmI M 31 0 8) - y1)) 0 0) ∧ (¬ y1 ≤ y2 → (zCalV l G Y_X9_leaves 0 0 [vr 30 0, vi y2] M (fun M3 => zAt l G Y_X9_passes (zEV G Y_X9_passes Kf) 62 [(0, vr 30 0), (1, vi y1), (2, vi (y2 + 1))] [] M3 0 0))))) : zAt l G Y_X9_passes (zEV G Y_X9_passes Kf) 62 [(0, vr 30 0), (1, vi y1), (2, vi y2)] [] M 0 0 := by
  refine Z_iload_n dX9_passes_62 rfl 2 rfl ?_
  refine Z_iload_n dX9_passes_63 rfl 1 rfl ?_
  refine Z_icmp_ge (tgt := 78) dX9_passes_64 (by decide) (fun q => ?_) (fun q => ?_)
  · have h := h.1 q
    refine Z_aload_n dX9_passes_78 rfl 0 rfl ?_
    refine Z_getR (s1 := 31) (i1 := 0) zfl_X9_9 rfl (fun q => by first | exact q | decide) dX9_passes_79 ?_
    refine Z_bipush (v := 8) (by decide) dX9_passes_82 ?_
    refine Z_dup2 rfl rfl dX9_passes_84 ?_
    refine Z_ialdK (n := 484) (j := 8) rfl (by decide) (zvin (by decide)) dX9_passes_85 ?_
    refine Z_iload_n dX9_passes_86 rfl 1 rfl ?_
    refine Z_isub dX9_passes_87 ?_
    refine Z_iastK (n := 484) (j := 8) rfl (by decide) (zvin (by decide)) dX9_passes_88 ?_
    refine Z_sipush (v := 172) (by decide) dX9_passes_89 ?_
    refine Z_istore_n (lv2 := [(2, vi 172), (0, vr 30 0), (1, vi y1)]) dX9_passes_92 rfl (by decide) rfl ?_
    exact Z_pick [1, 2, 0] rfl h
  · have h := h.2 q
    refine Z_aload_n dX9_passes_67 rfl 0 rfl ?_
    refine Z_iload_n dX9_passes_68 rfl 2 rfl ?_
    refine Z_callVV (as := [vi y2]) zRm_M zcv_X9_passes_X9_leaves_169 (ci := 13) rfl rfl rfl rfl (zle rfl) dX9_passes_69 ⟨Nat.le_refl _, Nat.le_refl _⟩ h (fun M3 h => ?_)
    refine Z_iinc (v := (y2 + 1)) (lv2 := [(2, vi (y2 + 1)), (0, vr 30 0), (1, vi y1)]) dX9_passes_72 2 rfl rfl (by decide) rfl ?_
    refine Z_goto (tgt := 62) dX9_passes_75 (by decide) ?_
    exact Z_pick [1, 2, 0] rfl h
set_option maxRecDepth 100000 in
set_option maxHeartbeats 4000000 in
theorem zb_X9_passes_37 {l : Launch} {G : zG} {y1 : Int32} {M : zM} {Kf : zM → Prop} (h : zAt l G Y_X9_passes (zEV G Y_X9_passes Kf) 13 [(0, vr 30 0), (1, vi (y1 + 1))] [] M 0 0) : zAt l G Y_X9_passes (zEV G Y_X9_passes Kf) 37 [(0, vr 30 0), (1, vi y1)] [] M 0 0 := by
  refine Z_iinc (v := (y1 + 1)) (lv2 := [(1, vi (y1 + 1)), (0, vr 30 0)]) dX9_passes_37 1 rfl rfl (by decide) rfl ?_
  refine Z_goto (tgt := 13) dX9_passes_40 (by decide) ?_
  exact Z_pick [1, 0] rfl h
set_option maxRecDepth 100000 in
set_option maxHeartbeats 4000000 in
theorem zb_X9_passes_93 {l : Launch} {G : zG} {y1 : Int32} {y2 : Int32} {M : zM} {Kf : zM → Prop} (h : (((172 + (3 * (zmI M 31 0 8))) ≤ y2 → ((¬ (zmI M 31 0 8) = 0 → (Kf M)) ∧ ((zmI M 31 0 8) = 0 → (Kf (zsI M 31 0 9 ((zmI M 31 0 9) - ((zmI M 31 0 9) >>> ((zmI M 31 0 5) &&& 31)))))))) ∧ (¬ (172 + (3 * (zmI M 31 0 8))) ≤ y2 → (vp_in (y2 + (3 * y1)) 484 ∧ (vp_in y2 484 ∧ zAt l G Y_X9_passes (zEV G Y_X9_passes Kf) 93 [(0, vr 30 0), (1, vi y1), (2, vi (y2 + 1))] [] (zsI M 31 0 y2.toNatClampNeg (zmI M 31 0 (y2 + (3 * y1)).toNatClampNeg)) 0 0))))) : zAt l G Y_X9_passes (zEV G Y_X9_passes Kf) 93 [(0, vr 30 0), (1, vi y1), (2, vi y2)] [] M 0 0 := by
  refine Z_iload_n dX9_passes_93 rfl 2 rfl ?_
  refine Z_sipush (v := 172) (by decide) dX9_passes_94 ?_
  refine Z_iconst (v := 3) (by decide) dX9_passes_97 ?_
  refine Z_aload_n dX9_passes_98 rfl 0 rfl ?_
  refine Z_getR (s1 := 31) (i1 := 0) zfl_X9_9 rfl (fun q => by first | exact q | decide) dX9_passes_99 ?_
  refine Z_bipush (v := 8) (by decide) dX9_passes_102 ?_
  refine Z_ialdK (n := 484) (j := 8) rfl (by decide) (zvin (by decide)) dX9_passes_104 ?_
  refine Z_imul dX9_passes_105 ?_
  refine Z_iadd dX9_passes_106 ?_
  refine Z_icmp_ge (tgt := 132) dX9_passes_107 (by decide) (fun q => ?_) (fun q => ?_)
  · have h := h.1 q
    refine Z_aload_n dX9_passes_132 rfl 0 rfl ?_
    refine Z_getR (s1 := 31) (i1 := 0) zfl_X9_9 rfl (fun q => by first | exact q | decide) dX9_passes_133 ?_
    refine Z_bipush (v := 8) (by decide) dX9_passes_136 ?_
    refine Z_ialdK (n := 484) (j := 8) rfl (by decide) (zvin (by decide)) dX9_passes_138 ?_
    refine Z_if_ne (tgt := 166) dX9_passes_139 (by decide) (fun q => ?_) (fun q => ?_)
    · have h := h.1 q
      exact Z_vret rfl dX9_passes_166 (Nat.le_refl _) (Nat.le_refl _) ⟨rfl, h⟩
    · have h := h.2 q
      refine Z_aload_n dX9_passes_142 rfl 0 rfl ?_
      refine Z_getR (s1 := 31) (i1 := 0) zfl_X9_9 rfl (fun q => by first | exact q | decide) dX9_passes_143 ?_
      refine Z_bipush (v := 9) (by decide) dX9_passes_146 ?_
      refine Z_dup2 rfl rfl dX9_passes_148 ?_
      refine Z_ialdK (n := 484) (j := 9) rfl (by decide) (zvin (by decide)) dX9_passes_149 ?_
      refine Z_aload_n dX9_passes_150 rfl 0 rfl ?_
      refine Z_getR (s1 := 31) (i1 := 0) zfl_X9_9 rfl (fun q => by first | exact q | decide) dX9_passes_151 ?_
      refine Z_bipush (v := 9) (by decide) dX9_passes_154 ?_
      refine Z_ialdK (n := 484) (j := 9) rfl (by decide) (zvin (by decide)) dX9_passes_156 ?_
      refine Z_aload_n dX9_passes_157 rfl 0 rfl ?_
      refine Z_getR (s1 := 31) (i1 := 0) zfl_X9_9 rfl (fun q => by first | exact q | decide) dX9_passes_158 ?_
      refine Z_iconst (v := 5) (by decide) dX9_passes_161 ?_
      refine Z_ialdK (n := 484) (j := 5) rfl (by decide) (zvin (by decide)) dX9_passes_162 ?_
      refine Z_ishr dX9_passes_163 ?_
      refine Z_isub dX9_passes_164 ?_
      refine Z_iastK (n := 484) (j := 9) rfl (by decide) (zvin (by decide)) dX9_passes_165 ?_
      exact Z_vret rfl dX9_passes_166 (Nat.le_refl _) (Nat.le_refl _) ⟨rfl, h⟩
  · have h := h.2 q
    refine Z_aload_n dX9_passes_110 rfl 0 rfl ?_
    refine Z_getR (s1 := 31) (i1 := 0) zfl_X9_9 rfl (fun q => by first | exact q | decide) dX9_passes_111 ?_
    refine Z_iload_n dX9_passes_114 rfl 2 rfl ?_
    refine Z_aload_n dX9_passes_115 rfl 0 rfl ?_
    refine Z_getR (s1 := 31) (i1 := 0) zfl_X9_9 rfl (fun q => by first | exact q | decide) dX9_passes_116 ?_
    refine Z_iload_n dX9_passes_119 rfl 2 rfl ?_
    refine Z_iconst (v := 3) (by decide) dX9_passes_120 ?_
    refine Z_iload_n dX9_passes_121 rfl 1 rfl ?_
    refine Z_imul dX9_passes_122 ?_
    refine Z_iadd dX9_passes_123 ?_
    obtain ⟨g7, h⟩ := h
    refine Z_iald (n := 484) rfl g7 dX9_passes_124 ?_
    obtain ⟨g8, h⟩ := h
    refine Z_iast (n := 484) rfl g8 dX9_passes_125 ?_
    refine Z_iinc (v := (y2 + 1)) (lv2 := [(2, vi (y2 + 1)), (0, vr 30 0), (1, vi y1)]) dX9_passes_126 2 rfl rfl (by decide) rfl ?_
    refine Z_goto (tgt := 93) dX9_passes_129 (by decide) ?_
    exact Z_pick [1, 2, 0] rfl h
-- X9_dropIn
set_option maxRecDepth 100000 in
set_option maxHeartbeats 4000000 in
theorem zm_X9_dropIn {l : Launch} {G : zG} {M : zM} {Kf : Int32 → zM → Prop} (h : (zCalV l G Y_X9_aside 0 0 [vr 30 0] (zsI M 30 0 7 0) (fun M1 => (zCalI l G Y_X9_dropped 0 0 [vr 30 0] M1 (fun x3 M2 => zAt l G Y_X9_dropIn (zEI G Y_X9_dropIn Kf) 16 [(0, vr 30 0), (1, vi x3), (2, vi 0)] [] M2 0 0))))) : zCalI l G Y_X9_dropIn 0 0 [vr 30 0] M Kf := by
  refine zCal_of (lv := [(0, vr 30 0)]) (by decide) rfl (zle rfl) rfl (fun hv => zlv_args (lv := [(0, vr 30 0)]) rfl hv) ?_
  refine Z_aload_n dX9_dropIn_0 rfl 0 rfl ?_
  refine Z_iconst (v := 0) (by decide) dX9_dropIn_1 ?_
  refine Z_putI zfp_X9_60 rfl rfl dX9_dropIn_2 ?_
  refine Z_aload_n dX9_dropIn_5 rfl 0 rfl ?_
  refine Z_callVV (as := []) zRm_M zcv_X9_dropIn_X9_aside_286 (ci := 13) rfl rfl rfl rfl (zle rfl) dX9_dropIn_6 ⟨Nat.le_refl _, Nat.le_refl _⟩ h (fun M1 h => ?_)
  refine Z_aload_n dX9_dropIn_9 rfl 0 rfl ?_
  refine Z_callVI (as := []) zRm_M zcv_X9_dropIn_X9_dropped_395 (ci := 13) rfl rfl rfl rfl (zle rfl) dX9_dropIn_10 ⟨Nat.le_refl _, Nat.le_refl _⟩ h (fun x3 M2 h => ?_)
  refine Z_istore_n (lv2 := [(1, vi x3), (0, vr 30 0)]) dX9_dropIn_13 rfl (by decide) rfl ?_
  refine Z_iconst (v := 0) (by decide) dX9_dropIn_14 ?_
  refine Z_istore_n (lv2 := [(2, vi 0), (1, vi x3), (0, vr 30 0)]) dX9_dropIn_15 rfl (by decide) rfl ?_
  exact Z_pick [2, 1, 0] rfl h
set_option maxRecDepth 100000 in
set_option maxHeartbeats 4000000 in
theorem zb_X9_dropIn_16 {l : Launch} {G : zG} {y1 : Int32} {y2 : Int32} {M : zM} {Kf : Int32 → zM → Prop} (h : ((200 ≤ y2 → zAt l G Y_X9_dropIn (zEI G Y_X9_dropIn Kf) 41 [(0, vr 30 0), (1, vi y1), (2, vi y2)] [] M 0 0) ∧ (¬ 200 ≤ y2 → (zCalI l G Y_X9_dropped 0 0 [vr 30 0] M (fun x2 M1 => ((¬ x2 = y1 → zAt l G Y_X9_dropIn (zEI G Y_X9_dropIn Kf) 41 [(0, vr 30 0), (1, vi y1), (2, vi y2)] [] M1 0 0) ∧ (x2 = y1 → (zCalV l G Y_X9_passes 0 0 [vr 30 0] M1 (fun M3 => zAt l G Y_X9_dropIn (zEI G Y_X9_dropIn Kf) 16 [(0, vr 30 0), (1, vi y1), (2, vi (y2 + 1))] [] M3 0 0))))))))) : zAt l G Y_X9_dropIn (zEI G Y_X9_dropIn Kf) 16 [(0, vr 30 0), (1, vi y1), (2, vi y2)] [] M 0 0 := by
  refine Z_iload_n dX9_dropIn_16 rfl 2 rfl ?_
  refine Z_sipush (v := 200) (by decide) dX9_dropIn_17 ?_
  refine Z_icmp_ge (tgt := 41) dX9_dropIn_20 (by decide) (fun q => ?_) (fun q => ?_)
  · have h := h.1 q
    exact h
  · have h := h.2 q
    refine Z_aload_n dX9_dropIn_23 rfl 0 rfl ?_
    refine Z_callVI (as := []) zRm_M zcv_X9_dropIn_X9_dropped_395 (ci := 13) rfl rfl rfl rfl (zle rfl) dX9_dropIn_24 ⟨Nat.le_refl _, Nat.le_refl _⟩ h (fun x2 M1 h => ?_)
    refine Z_iload_n dX9_dropIn_27 rfl 1 rfl ?_
    refine Z_icmp_ne (tgt := 41) dX9_dropIn_28 (by decide) (fun q => ?_) (fun q => ?_)
    · have h := h.1 q
      exact h
    · have h := h.2 q
      refine Z_aload_n dX9_dropIn_31 rfl 0 rfl ?_
      refine Z_callVV (as := []) zRm_M zcv_X9_dropIn_X9_passes_172 (ci := 13) rfl rfl rfl rfl (zle rfl) dX9_dropIn_32 ⟨Nat.le_refl _, Nat.le_refl _⟩ h (fun M3 h => ?_)
      refine Z_iinc (v := (y2 + 1)) (lv2 := [(2, vi (y2 + 1)), (0, vr 30 0), (1, vi y1)]) dX9_dropIn_35 2 rfl rfl (by decide) rfl ?_
      refine Z_goto (tgt := 16) dX9_dropIn_38 (by decide) ?_
      exact Z_pick [1, 2, 0] rfl h
set_option maxRecDepth 100000 in
set_option maxHeartbeats 4000000 in
theorem zb_X9_dropIn_41 {l : Launch} {G : zG} {y1 : Int32} {y2 : Int32} {M : zM} {Kf : Int32 → zM → Prop} (h : (zCalI l G Y_X9_dropped 0 0 [vr 30 0] M (fun x2 M1 => ((¬ x2 = y1 → zAt l G Y_X9_dropIn (zEI G Y_X9_dropIn Kf) 55 [] [vi y2, vr 30 0] M1 0 0) ∧ (x2 = y1 → zAt l G Y_X9_dropIn (zEI G Y_X9_dropIn Kf) 55 [] [vi (-1), vr 30 0] M1 0 0))))) : zAt l G Y_X9_dropIn (zEI G Y_X9_dropIn Kf) 41 [(0, vr 30 0), (1, vi y1), (2, vi y2)] [] M 0 0 := by
  refine Z_aload_n dX9_dropIn_41 rfl 0 rfl ?_
  refine Z_aload_n dX9_dropIn_42 rfl 0 rfl ?_
  refine Z_callVI (as := []) zRm_M zcv_X9_dropIn_X9_dropped_395 (ci := 13) rfl rfl rfl rfl (zle rfl) dX9_dropIn_43 ⟨Nat.le_refl _, Nat.le_refl _⟩ h (fun x2 M1 h => ?_)
  refine Z_iload_n dX9_dropIn_46 rfl 1 rfl ?_
  refine Z_icmp_ne (tgt := 54) dX9_dropIn_47 (by decide) (fun q => ?_) (fun q => ?_)
  · have h := h.1 q
    refine Z_iload_n dX9_dropIn_54 rfl 2 rfl ?_
    exact Z_pick [] rfl h
  · have h := h.2 q
    refine Z_iconst (v := (-1)) (by decide) dX9_dropIn_50 ?_
    refine Z_goto (tgt := 55) dX9_dropIn_51 (by decide) ?_
    exact Z_pick [] rfl h
set_option maxRecDepth 100000 in
set_option maxHeartbeats 4000000 in
theorem zb_X9_dropIn_55 {l : Launch} {G : zG} {s0 : Int32} {M : zM} {Kf : Int32 → zM → Prop} (h : (zCalI l G Y_X9_back 0 0 [vr 30 0, vi s0] M (fun x2 M1 => (Kf x2 M1)))) : zAt l G Y_X9_dropIn (zEI G Y_X9_dropIn Kf) 55 [] [vi s0, vr 30 0] M 0 0 := by
  refine Z_callVI (as := [vi s0]) zRm_M zcv_X9_dropIn_X9_back_295 (ci := 13) rfl rfl rfl rfl (zle rfl) dX9_dropIn_55 ⟨Nat.le_refl _, Nat.le_refl _⟩ h (fun x2 M1 h => ?_)
  exact Z_iret rfl rfl dX9_dropIn_58 (Nat.le_refl _) (Nat.le_refl _) ⟨_, rfl, h⟩
-- X9_longest
set_option maxRecDepth 100000 in
set_option maxHeartbeats 4000000 in
theorem zm_X9_longest {l : Launch} {G : zG} {p1 : Int32} {M : zM} {Kf : Int32 → zM → Prop} (h : (zCalI l G Y_X9_noTicks 0 0 [vr 30 0, vi p1, vi 1, vi 200, vi 1] (zsI M 30 0 7 0) (fun x2 M1 => ((x2 = 0 → (zCalV l G Y_X9_aside 0 0 [vr 30 0] M1 (fun M3 => zAt l G Y_X9_longest (zEI G Y_X9_longest Kf) 28 [(0, vr 30 0), (1, vi p1), (2, vi 0), (3, vi 0)] [] M3 0 0))) ∧ (¬ x2 = 0 → (Kf 0 M1)))))) : zCalI l G Y_X9_longest 0 0 [vr 30 0, vi p1] M Kf := by
  refine zCal_of (lv := [(0, vr 30 0), (1, vi p1)]) (by decide) rfl (zle rfl) rfl (fun hv => zlv_args (lv := [(0, vr 30 0), (1, vi p1)]) rfl hv) ?_
  refine Z_aload_n dX9_longest_0 rfl 0 rfl ?_
  refine Z_iconst (v := 0) (by decide) dX9_longest_1 ?_
  refine Z_putI zfp_X9_60 rfl rfl dX9_longest_2 ?_
  refine Z_aload_n dX9_longest_5 rfl 0 rfl ?_
  refine Z_iload_n dX9_longest_6 rfl 1 rfl ?_
  refine Z_iconst (v := 1) (by decide) dX9_longest_7 ?_
  refine Z_sipush (v := 200) (by decide) dX9_longest_8 ?_
  refine Z_iconst (v := 1) (by decide) dX9_longest_11 ?_
  refine Z_callVI (as := [vi p1, vi 1, vi 200, vi 1]) zRm_M zcv_X9_longest_X9_noTicks_410 (ci := 13) rfl rfl rfl rfl (zle rfl) dX9_longest_12 ⟨Nat.le_refl _, Nat.le_refl _⟩ h (fun x2 M1 h => ?_)
  refine Z_if_eq (tgt := 20) dX9_longest_15 (by decide) (fun q => ?_) (fun q => ?_)
  · have h := h.1 q
    refine Z_aload_n dX9_longest_20 rfl 0 rfl ?_
    refine Z_callVV (as := []) zRm_M zcv_X9_longest_X9_aside_286 (ci := 13) rfl rfl rfl rfl (zle rfl) dX9_longest_21 ⟨Nat.le_refl _, Nat.le_refl _⟩ h (fun M3 h => ?_)
    refine Z_iconst (v := 0) (by decide) dX9_longest_24 ?_
    refine Z_istore_n (lv2 := [(2, vi 0), (0, vr 30 0), (1, vi p1)]) dX9_longest_25 rfl (by decide) rfl ?_
    refine Z_iconst (v := 0) (by decide) dX9_longest_26 ?_
    refine Z_istore_n (lv2 := [(3, vi 0), (2, vi 0), (0, vr 30 0), (1, vi p1)]) dX9_longest_27 rfl (by decide) rfl ?_
    exact Z_pick [2, 3, 1, 0] rfl h
  · have h := h.2 q
    refine Z_iconst (v := 0) (by decide) dX9_longest_18 ?_
    exact Z_iret rfl rfl dX9_longest_19 (Nat.le_refl _) (Nat.le_refl _) ⟨_, rfl, h⟩
set_option maxRecDepth 100000 in
set_option maxHeartbeats 4000000 in
theorem zb_X9_longest_28 {l : Launch} {G : zG} {y1 : Int32} {y2 : Int32} {y3 : Int32} {M : zM} {Kf : Int32 → zM → Prop} (h : ((y1 ≤ y3 → (zCalI l G Y_X9_back 0 0 [vr 30 0, vi y2] M (fun x2 M1 => (Kf x2 M1)))) ∧ (¬ y1 ≤ y3 → (zCalV l G Y_X9_passes 0 0 [vr 30 0] M (fun M3 => zAt l G Y_X9_longest (zEI G Y_X9_longest Kf) 28 [(0, vr 30 0), (1, vi y1), (2, vi (if y2 < (zmI M3 31 0 8) then (zmI M3 31 0 8) else y2)), (3, vi (y3 + 1))] [] M3 0 0))))) : zAt l G Y_X9_longest (zEI G Y_X9_longest Kf) 28 [(0, vr 30 0), (1, vi y1), (2, vi y2), (3, vi y3)] [] M 0 0 := by
  refine Z_iload_n dX9_longest_28 rfl 3 rfl ?_
  refine Z_iload_n dX9_longest_29 rfl 1 rfl ?_
  refine Z_icmp_ge (tgt := 55) dX9_longest_30 (by decide) (fun q => ?_) (fun q => ?_)
  · have h := h.1 q
    refine Z_aload_n dX9_longest_55 rfl 0 rfl ?_
    refine Z_iload_n dX9_longest_56 rfl 2 rfl ?_
    refine Z_callVI (as := [vi y2]) zRm_M zcv_X9_longest_X9_back_295 (ci := 13) rfl rfl rfl rfl (zle rfl) dX9_longest_57 ⟨Nat.le_refl _, Nat.le_refl _⟩ h (fun x2 M1 h => ?_)
    exact Z_iret rfl rfl dX9_longest_60 (Nat.le_refl _) (Nat.le_refl _) ⟨_, rfl, h⟩
  · have h := h.2 q
    refine Z_aload_n dX9_longest_33 rfl 0 rfl ?_
    refine Z_callVV (as := []) zRm_M zcv_X9_longest_X9_passes_172 (ci := 13) rfl rfl rfl rfl (zle rfl) dX9_longest_34 ⟨Nat.le_refl _, Nat.le_refl _⟩ h (fun M3 h => ?_)
    refine Z_iload_n dX9_longest_37 rfl 2 rfl ?_
    refine Z_aload_n dX9_longest_38 rfl 0 rfl ?_
    refine Z_getR (s1 := 31) (i1 := 0) zfl_X9_9 rfl (fun q => by first | exact q | decide) dX9_longest_39 ?_
    refine Z_bipush (v := 8) (by decide) dX9_longest_42 ?_
    refine Z_ialdK (n := 484) (j := 8) rfl (by decide) (zvin (by decide)) dX9_longest_44 ?_
    refine Z_mmax zw_1895 zw_829 zw_129 zw_830 zRm_M (by decide) (zle rfl) (Nat.zero_le _) (Nat.zero_le _) dX9_longest_45 ?_
    refine Z_istore_n (lv2 := [(2, vi (if y2 < (zmI M3 31 0 8) then (zmI M3 31 0 8) else y2)), (0, vr 30 0), (1, vi y1), (3, vi y3)]) dX9_longest_48 rfl (by decide) rfl ?_
    refine Z_iinc (v := (y3 + 1)) (lv2 := [(3, vi (y3 + 1)), (2, vi (if y2 < (zmI M3 31 0 8) then (zmI M3 31 0 8) else y2)), (0, vr 30 0), (1, vi y1)]) dX9_longest_49 3 rfl rfl (by decide) rfl ?_
    refine Z_goto (tgt := 28) dX9_longest_52 (by decide) ?_
    exact Z_pick [2, 3, 1, 0] rfl h
-- X9_passesMany
set_option maxRecDepth 100000 in
set_option maxHeartbeats 4000000 in
theorem zm_X9_passesMany {l : Launch} {G : zG} {p1 : Int32} {M : zM} {Kf : zM → Prop} (h : zAt l G Y_X9_passesMany (zEV G Y_X9_passesMany Kf) 2 [(0, vr 30 0), (1, vi p1), (2, vi 0)] [] M 0 0) : zCalV l G Y_X9_passesMany 0 0 [vr 30 0, vi p1] M Kf := by
  refine zCal_of (lv := [(0, vr 30 0), (1, vi p1)]) (by decide) rfl (zle rfl) rfl (fun hv => zlv_args (lv := [(0, vr 30 0), (1, vi p1)]) rfl hv) ?_
  refine Z_iconst (v := 0) (by decide) dX9_passesMany_0 ?_
  refine Z_istore_n (lv2 := [(2, vi 0), (0, vr 30 0), (1, vi p1)]) dX9_passesMany_1 rfl (by decide) rfl ?_
  exact Z_pick [1, 2, 0] rfl h
set_option maxRecDepth 100000 in
set_option maxHeartbeats 4000000 in
theorem zb_X9_passesMany_2 {l : Launch} {G : zG} {y1 : Int32} {y2 : Int32} {M : zM} {Kf : zM → Prop} (h : ((y1 ≤ y2 → (Kf M)) ∧ (¬ y1 ≤ y2 → (zCalV l G Y_X9_passes 0 0 [vr 30 0] M (fun M1 => zAt l G Y_X9_passesMany (zEV G Y_X9_passesMany Kf) 2 [(0, vr 30 0), (1, vi y1), (2, vi (y2 + 1))] [] M1 0 0))))) : zAt l G Y_X9_passesMany (zEV G Y_X9_passesMany Kf) 2 [(0, vr 30 0), (1, vi y1), (2, vi y2)] [] M 0 0 := by
  refine Z_iload_n dX9_passesMany_2 rfl 2 rfl ?_
  refine Z_iload_n dX9_passesMany_3 rfl 1 rfl ?_
  refine Z_icmp_ge (tgt := 17) dX9_passesMany_4 (by decide) (fun q => ?_) (fun q => ?_)
  · have h := h.1 q
    exact Z_vret rfl dX9_passesMany_17 (Nat.le_refl _) (Nat.le_refl _) ⟨rfl, h⟩
  · have h := h.2 q
    refine Z_aload_n dX9_passesMany_7 rfl 0 rfl ?_
    refine Z_callVV (as := []) zRm_M zcv_X9_passesMany_X9_passes_172 (ci := 13) rfl rfl rfl rfl (zle rfl) dX9_passesMany_8 ⟨Nat.le_refl _, Nat.le_refl _⟩ h (fun M1 h => ?_)
    refine Z_iinc (v := (y2 + 1)) (lv2 := [(2, vi (y2 + 1)), (0, vr 30 0), (1, vi y1)]) dX9_passesMany_11 2 rfl rfl (by decide) rfl ?_
    refine Z_goto (tgt := 2) dX9_passesMany_14 (by decide) ?_
    exact Z_pick [1, 2, 0] rfl h
-- X9_accountIn
set_option maxRecDepth 100000 in
set_option maxHeartbeats 4000000 in
theorem zm_X9_accountIn {l : Launch} {G : zG} {p1 : Int32} {p2 : Int32} {p3 : Int32} {M : zM} {Kf : Int64 → zM → Prop} (h : (zCalI l G Y_X9_noFlows 0 0 [vr 30 0, vi p1] (zsI M 30 0 7 0) (fun x2 M1 => ((¬ x2 = 0 → (Kf 0 M1)) ∧ (x2 = 0 → (zCalI l G Y_X9_noAccount 0 0 [vr 30 0, vi p2] M1 (fun x4 M3 => ((¬ x4 = 0 → (Kf 0 M3)) ∧ (x4 = 0 → (zCalI l G Y_X9_noTicks 0 0 [vr 30 0, vi p3, vi 0, vi 200, vi 2] M3 (fun x6 M5 => ((x6 = 0 → (zCalV l G Y_X9_aside 0 0 [vr 30 0] M5 (fun M7 => (zCalI l G Y_X9_accountOf 0 0 [vr 30 0, vi p1, vi p2] M7 (fun x9 M8 => (zCalV l G Y_X9_passesMany 0 0 [vr 30 0, vi p3] M8 (fun M10 => (zCalI l G Y_X9_accountOf 0 0 [vr 30 0, vi p1, vi p2] M10 (fun x12 M11 => (zCalI l G Y_X9_back 0 0 [vr 30 0, vi (x12 - x9)] M11 (fun x14 M13 => (Kf ((x14 : Int32).toInt64) M13)))))))))))) ∧ (¬ x6 = 0 → (Kf 0 M5)))))))))))))) : zCalL l G Y_X9_accountIn 0 0 [vr 30 0, vi p1, vi p2, vi p3] M Kf := by
  refine zCal_of (lv := [(0, vr 30 0), (1, vi p1), (2, vi p2), (3, vi p3)]) (by decide) rfl (zle rfl) rfl (fun hv => zlv_args (lv := [(0, vr 30 0), (1, vi p1), (2, vi p2), (3, vi p3)]) rfl hv) ?_
  refine Z_aload_n dX9_accountIn_0 rfl 0 rfl ?_
  refine Z_iconst (v := 0) (by decide) dX9_accountIn_1 ?_
  refine Z_putI zfp_X9_60 rfl rfl dX9_accountIn_2 ?_
  refine Z_aload_n dX9_accountIn_5 rfl 0 rfl ?_
  refine Z_iload_n dX9_accountIn_6 rfl 1 rfl ?_
  refine Z_callVI (as := [vi p1]) zRm_M zcv_X9_accountIn_X9_noFlows_384 (ci := 13) rfl rfl rfl rfl (zle rfl) dX9_accountIn_7 ⟨Nat.le_refl _, Nat.le_refl _⟩ h (fun x2 M1 h => ?_)
  refine Z_if_ne (tgt := 34) dX9_accountIn_10 (by decide) (fun q => ?_) (fun q => ?_)
  · have h := h.1 q
    refine Z_lconst (v := 0) (by decide) dX9_accountIn_34 ?_
    exact Z_lret rfl dX9_accountIn_35 (Nat.le_refl _) (Nat.le_refl _) ⟨_, rfl, h⟩
  · have h := h.2 q
    refine Z_aload_n dX9_accountIn_13 rfl 0 rfl ?_
    refine Z_iload_n dX9_accountIn_14 rfl 2 rfl ?_
    refine Z_callVI (as := [vi p2]) zRm_M zcv_X9_accountIn_X9_noAccount_387 (ci := 13) rfl rfl rfl rfl (zle rfl) dX9_accountIn_15 ⟨Nat.le_refl _, Nat.le_refl _⟩ h (fun x4 M3 h => ?_)
    refine Z_if_ne (tgt := 34) dX9_accountIn_18 (by decide) (fun q => ?_) (fun q => ?_)
    · have h := h.1 q
      refine Z_lconst (v := 0) (by decide) dX9_accountIn_34 ?_
      exact Z_lret rfl dX9_accountIn_35 (Nat.le_refl _) (Nat.le_refl _) ⟨_, rfl, h⟩
    · have h := h.2 q
      refine Z_aload_n dX9_accountIn_21 rfl 0 rfl ?_
      refine Z_iload_n dX9_accountIn_22 rfl 3 rfl ?_
      refine Z_iconst (v := 0) (by decide) dX9_accountIn_23 ?_
      refine Z_sipush (v := 200) (by decide) dX9_accountIn_24 ?_
      refine Z_iconst (v := 2) (by decide) dX9_accountIn_27 ?_
      refine Z_callVI (as := [vi p3, vi 0, vi 200, vi 2]) zRm_M zcv_X9_accountIn_X9_noTicks_410 (ci := 13) rfl rfl rfl rfl (zle rfl) dX9_accountIn_28 ⟨Nat.le_refl _, Nat.le_refl _⟩ h (fun x6 M5 h => ?_)
      refine Z_if_eq (tgt := 36) dX9_accountIn_31 (by decide) (fun q => ?_) (fun q => ?_)
      · have h := h.1 q
        refine Z_aload_n dX9_accountIn_36 rfl 0 rfl ?_
        refine Z_callVV (as := []) zRm_M zcv_X9_accountIn_X9_aside_286 (ci := 13) rfl rfl rfl rfl (zle rfl) dX9_accountIn_37 ⟨Nat.le_refl _, Nat.le_refl _⟩ h (fun M7 h => ?_)
        refine Z_aload_n dX9_accountIn_40 rfl 0 rfl ?_
        refine Z_iload_n dX9_accountIn_41 rfl 1 rfl ?_
        refine Z_iload_n dX9_accountIn_42 rfl 2 rfl ?_
        refine Z_callVI (as := [vi p1, vi p2]) zRm_M zcv_X9_accountIn_X9_accountOf_75 (ci := 13) rfl rfl rfl rfl (zle rfl) dX9_accountIn_43 ⟨Nat.le_refl _, Nat.le_refl _⟩ h (fun x9 M8 h => ?_)
        refine Z_istore (lv2 := [(4, vi x9), (0, vr 30 0), (1, vi p1), (2, vi p2), (3, vi p3)]) dX9_accountIn_46 (by decide) rfl ?_
        refine Z_aload_n dX9_accountIn_48 rfl 1 rfl ?_
        refine Z_iload_n dX9_accountIn_49 rfl 4 rfl ?_
        refine Z_callVV (as := [vi p3]) zRm_M zcv_X9_accountIn_X9_passesMany_414 (ci := 13) rfl rfl rfl rfl (zle rfl) dX9_accountIn_50 ⟨Nat.le_refl _, Nat.le_refl _⟩ h (fun M10 h => ?_)
        refine Z_aload_n dX9_accountIn_53 rfl 1 rfl ?_
        refine Z_aload_n dX9_accountIn_54 rfl 1 rfl ?_
        refine Z_iload_n dX9_accountIn_55 rfl 2 rfl ?_
        refine Z_iload_n dX9_accountIn_56 rfl 3 rfl ?_
        refine Z_callVI (as := [vi p1, vi p2]) zRm_M zcv_X9_accountIn_X9_accountOf_75 (ci := 13) rfl rfl rfl rfl (zle rfl) dX9_accountIn_57 ⟨Nat.le_refl _, Nat.le_refl _⟩ h (fun x12 M11 h => ?_)
        refine Z_iload dX9_accountIn_60 0 rfl ?_
        refine Z_isub dX9_accountIn_62 ?_
        refine Z_callVI (as := [vi (x12 - x9)]) zRm_M zcv_X9_accountIn_X9_back_295 (ci := 13) rfl rfl rfl rfl (zle rfl) dX9_accountIn_63 ⟨Nat.le_refl _, Nat.le_refl _⟩ h (fun x14 M13 h => ?_)
        refine Z_i2l dX9_accountIn_66 ?_
        exact Z_lret rfl dX9_accountIn_67 (Nat.le_refl _) (Nat.le_refl _) ⟨_, rfl, h⟩
      · have h := h.2 q
        refine Z_lconst (v := 0) (by decide) dX9_accountIn_34 ?_
        exact Z_lret rfl dX9_accountIn_35 (Nat.le_refl _) (Nat.le_refl _) ⟨_, rfl, h⟩
-- X9_averageIn
set_option maxRecDepth 100000 in
set_option maxHeartbeats 4000000 in
theorem zm_X9_averageIn {l : Launch} {G : zG} {p1 : Int32} {M : zM} {Kf : Int32 → zM → Prop} (h : (zCalI l G Y_X9_noTicks 0 0 [vr 30 0, vi p1, vi 0, vi 200, vi 1] (zsI M 30 0 7 0) (fun x2 M1 => ((x2 = 0 → (zCalV l G Y_X9_aside 0 0 [vr 30 0] M1 (fun M3 => (zCalV l G Y_X9_passesMany 0 0 [vr 30 0, vi p1] M3 (fun M4 => (zCalI l G Y_X9_back 0 0 [vr 30 0, vi (zmI M4 31 0 9)] M4 (fun x7 M6 => (Kf x7 M6)))))))) ∧ (¬ x2 = 0 → (Kf 0 M1)))))) : zCalI l G Y_X9_averageIn 0 0 [vr 30 0, vi p1] M Kf := by
  refine zCal_of (lv := [(0, vr 30 0), (1, vi p1)]) (by decide) rfl (zle rfl) rfl (fun hv => zlv_args (lv := [(0, vr 30 0), (1, vi p1)]) rfl hv) ?_
  refine Z_aload_n dX9_averageIn_0 rfl 0 rfl ?_
  refine Z_iconst (v := 0) (by decide) dX9_averageIn_1 ?_
  refine Z_putI zfp_X9_60 rfl rfl dX9_averageIn_2 ?_
  refine Z_aload_n dX9_averageIn_5 rfl 0 rfl ?_
  refine Z_iload_n dX9_averageIn_6 rfl 1 rfl ?_
  refine Z_iconst (v := 0) (by decide) dX9_averageIn_7 ?_
  refine Z_sipush (v := 200) (by decide) dX9_averageIn_8 ?_
  refine Z_iconst (v := 1) (by decide) dX9_averageIn_11 ?_
  refine Z_callVI (as := [vi p1, vi 0, vi 200, vi 1]) zRm_M zcv_X9_averageIn_X9_noTicks_410 (ci := 13) rfl rfl rfl rfl (zle rfl) dX9_averageIn_12 ⟨Nat.le_refl _, Nat.le_refl _⟩ h (fun x2 M1 h => ?_)
  refine Z_if_eq (tgt := 20) dX9_averageIn_15 (by decide) (fun q => ?_) (fun q => ?_)
  · have h := h.1 q
    refine Z_aload_n dX9_averageIn_20 rfl 0 rfl ?_
    refine Z_callVV (as := []) zRm_M zcv_X9_averageIn_X9_aside_286 (ci := 13) rfl rfl rfl rfl (zle rfl) dX9_averageIn_21 ⟨Nat.le_refl _, Nat.le_refl _⟩ h (fun M3 h => ?_)
    refine Z_aload_n dX9_averageIn_24 rfl 0 rfl ?_
    refine Z_iload_n dX9_averageIn_25 rfl 1 rfl ?_
    refine Z_callVV (as := [vi p1]) zRm_M zcv_X9_averageIn_X9_passesMany_414 (ci := 13) rfl rfl rfl rfl (zle rfl) dX9_averageIn_26 ⟨Nat.le_refl _, Nat.le_refl _⟩ h (fun M4 h => ?_)
    refine Z_aload_n dX9_averageIn_29 rfl 0 rfl ?_
    refine Z_aload_n dX9_averageIn_30 rfl 0 rfl ?_
    refine Z_getR (s1 := 31) (i1 := 0) zfl_X9_9 rfl (fun q => by first | exact q | decide) dX9_averageIn_31 ?_
    refine Z_bipush (v := 9) (by decide) dX9_averageIn_34 ?_
    refine Z_ialdK (n := 484) (j := 9) rfl (by decide) (zvin (by decide)) dX9_averageIn_36 ?_
    refine Z_callVI (as := [vi (zmI M4 31 0 9)]) zRm_M zcv_X9_averageIn_X9_back_295 (ci := 13) rfl rfl rfl rfl (zle rfl) dX9_averageIn_37 ⟨Nat.le_refl _, Nat.le_refl _⟩ h (fun x7 M6 h => ?_)
    exact Z_iret rfl rfl dX9_averageIn_40 (Nat.le_refl _) (Nat.le_refl _) ⟨_, rfl, h⟩
  · have h := h.2 q
    refine Z_iconst (v := 0) (by decide) dX9_averageIn_18 ?_
    exact Z_iret rfl rfl dX9_averageIn_19 (Nat.le_refl _) (Nat.le_refl _) ⟨_, rfl, h⟩
-- X9_droppedIn
set_option maxRecDepth 100000 in
set_option maxHeartbeats 4000000 in
theorem zm_X9_droppedIn {l : Launch} {G : zG} {p1 : Int32} {M : zM} {Kf : Int32 → zM → Prop} (h : (zCalI l G Y_X9_dropped 0 0 [vr 30 0] M (fun x2 M1 => (zCalV l G Y_X9_passesMany 0 0 [vr 30 0, vi p1] M1 (fun M3 => (zCalI l G Y_X9_dropped 0 0 [vr 30 0] M3 (fun x5 M4 => (Kf (x5 - x2) M4)))))))) : zCalI l G Y_X9_droppedIn 0 0 [vr 30 0, vi p1] M Kf := by
  refine zCal_of (lv := [(0, vr 30 0), (1, vi p1)]) (by decide) rfl (zle rfl) rfl (fun hv => zlv_args (lv := [(0, vr 30 0), (1, vi p1)]) rfl hv) ?_
  refine Z_aload_n dX9_droppedIn_0 rfl 0 rfl ?_
  refine Z_callVI (as := []) zRm_M zcv_X9_droppedIn_X9_dropped_395 (ci := 13) rfl rfl rfl rfl (zle rfl) dX9_droppedIn_1 ⟨Nat.le_refl _, Nat.le_refl _⟩ h (fun x2 M1 h => ?_)
  refine Z_istore_n (lv2 := [(2, vi x2), (0, vr 30 0), (1, vi p1)]) dX9_droppedIn_4 rfl (by decide) rfl ?_
  refine Z_aload_n dX9_droppedIn_5 rfl 1 rfl ?_
  refine Z_iload_n dX9_droppedIn_6 rfl 2 rfl ?_
  refine Z_callVV (as := [vi p1]) zRm_M zcv_X9_droppedIn_X9_passesMany_414 (ci := 13) rfl rfl rfl rfl (zle rfl) dX9_droppedIn_7 ⟨Nat.le_refl _, Nat.le_refl _⟩ h (fun M3 h => ?_)
  refine Z_aload_n dX9_droppedIn_10 rfl 1 rfl ?_
  refine Z_callVI (as := []) zRm_M zcv_X9_droppedIn_X9_dropped_395 (ci := 13) rfl rfl rfl rfl (zle rfl) dX9_droppedIn_11 ⟨Nat.le_refl _, Nat.le_refl _⟩ h (fun x5 M4 h => ?_)
  refine Z_iload_n dX9_droppedIn_14 rfl 0 rfl ?_
  refine Z_isub dX9_droppedIn_15 ?_
  exact Z_iret rfl rfl dX9_droppedIn_16 (Nat.le_refl _) (Nat.le_refl _) ⟨_, rfl, h⟩
-- X9_queueIn
set_option maxRecDepth 100000 in
set_option maxHeartbeats 4000000 in
theorem zm_X9_queueIn {l : Launch} {G : zG} {p1 : Int32} {M : zM} {Kf : Int32 → zM → Prop} (h : (zCalI l G Y_X9_noTicks 0 0 [vr 30 0, vi p1, vi 0, vi 200, vi 1] (zsI M 30 0 7 0) (fun x2 M1 => ((x2 = 0 → (zCalV l G Y_X9_aside 0 0 [vr 30 0] M1 (fun M3 => (zCalV l G Y_X9_passesMany 0 0 [vr 30 0, vi p1] M3 (fun M4 => (zCalI l G Y_X9_back 0 0 [vr 30 0, vi (zmI M4 31 0 8)] M4 (fun x7 M6 => (Kf x7 M6)))))))) ∧ (¬ x2 = 0 → (Kf 0 M1)))))) : zCalI l G Y_X9_queueIn 0 0 [vr 30 0, vi p1] M Kf := by
  refine zCal_of (lv := [(0, vr 30 0), (1, vi p1)]) (by decide) rfl (zle rfl) rfl (fun hv => zlv_args (lv := [(0, vr 30 0), (1, vi p1)]) rfl hv) ?_
  refine Z_aload_n dX9_queueIn_0 rfl 0 rfl ?_
  refine Z_iconst (v := 0) (by decide) dX9_queueIn_1 ?_
  refine Z_putI zfp_X9_60 rfl rfl dX9_queueIn_2 ?_
  refine Z_aload_n dX9_queueIn_5 rfl 0 rfl ?_
  refine Z_iload_n dX9_queueIn_6 rfl 1 rfl ?_
  refine Z_iconst (v := 0) (by decide) dX9_queueIn_7 ?_
  refine Z_sipush (v := 200) (by decide) dX9_queueIn_8 ?_
  refine Z_iconst (v := 1) (by decide) dX9_queueIn_11 ?_
  refine Z_callVI (as := [vi p1, vi 0, vi 200, vi 1]) zRm_M zcv_X9_queueIn_X9_noTicks_410 (ci := 13) rfl rfl rfl rfl (zle rfl) dX9_queueIn_12 ⟨Nat.le_refl _, Nat.le_refl _⟩ h (fun x2 M1 h => ?_)
  refine Z_if_eq (tgt := 20) dX9_queueIn_15 (by decide) (fun q => ?_) (fun q => ?_)
  · have h := h.1 q
    refine Z_aload_n dX9_queueIn_20 rfl 0 rfl ?_
    refine Z_callVV (as := []) zRm_M zcv_X9_queueIn_X9_aside_286 (ci := 13) rfl rfl rfl rfl (zle rfl) dX9_queueIn_21 ⟨Nat.le_refl _, Nat.le_refl _⟩ h (fun M3 h => ?_)
    refine Z_aload_n dX9_queueIn_24 rfl 0 rfl ?_
    refine Z_iload_n dX9_queueIn_25 rfl 1 rfl ?_
    refine Z_callVV (as := [vi p1]) zRm_M zcv_X9_queueIn_X9_passesMany_414 (ci := 13) rfl rfl rfl rfl (zle rfl) dX9_queueIn_26 ⟨Nat.le_refl _, Nat.le_refl _⟩ h (fun M4 h => ?_)
    refine Z_aload_n dX9_queueIn_29 rfl 0 rfl ?_
    refine Z_aload_n dX9_queueIn_30 rfl 0 rfl ?_
    refine Z_getR (s1 := 31) (i1 := 0) zfl_X9_9 rfl (fun q => by first | exact q | decide) dX9_queueIn_31 ?_
    refine Z_bipush (v := 8) (by decide) dX9_queueIn_34 ?_
    refine Z_ialdK (n := 484) (j := 8) rfl (by decide) (zvin (by decide)) dX9_queueIn_36 ?_
    refine Z_callVI (as := [vi (zmI M4 31 0 8)]) zRm_M zcv_X9_queueIn_X9_back_295 (ci := 13) rfl rfl rfl rfl (zle rfl) dX9_queueIn_37 ⟨Nat.le_refl _, Nat.le_refl _⟩ h (fun x7 M6 h => ?_)
    exact Z_iret rfl rfl dX9_queueIn_40 (Nat.le_refl _) (Nat.le_refl _) ⟨_, rfl, h⟩
  · have h := h.2 q
    refine Z_iconst (v := 0) (by decide) dX9_queueIn_18 ?_
    exact Z_iret rfl rfl dX9_queueIn_19 (Nat.le_refl _) (Nat.le_refl _) ⟨_, rfl, h⟩
-- X9_tickNow
set_option maxRecDepth 100000 in
set_option maxHeartbeats 4000000 in
theorem zm_X9_tickNow {l : Launch} {G : zG} {p1 : Int32} {M : zM} {Kf : Int32 → zM → Prop} (h : ((((zmI M 31 0 7) + p1) ≤ 9999 → (zCalV l G Y_X9_passesMany 0 0 [vr 30 0, vi p1] M (fun M2 => (Kf (zmI M2 31 0 7) M2)))) ∧ (¬ ((zmI M 31 0 7) + p1) ≤ 9999 → (Kf (-2) M)))) : zCalI l G Y_X9_tickNow 0 0 [vr 30 0, vi p1] M Kf := by
  refine zCal_of (lv := [(0, vr 30 0), (1, vi p1)]) (by decide) rfl (zle rfl) rfl (fun hv => zlv_args (lv := [(0, vr 30 0), (1, vi p1)]) rfl hv) ?_
  refine Z_aload_n dX9_tickNow_0 rfl 0 rfl ?_
  refine Z_getR (s1 := 31) (i1 := 0) zfl_X9_9 rfl (fun q => by first | exact q | decide) dX9_tickNow_1 ?_
  refine Z_bipush (v := 7) (by decide) dX9_tickNow_4 ?_
  refine Z_ialdK (n := 484) (j := 7) rfl (by decide) (zvin (by decide)) dX9_tickNow_6 ?_
  refine Z_iload_n dX9_tickNow_7 rfl 1 rfl ?_
  refine Z_iadd dX9_tickNow_8 ?_
  refine Z_sipush (v := 9999) (by decide) dX9_tickNow_9 ?_
  refine Z_icmp_le (tgt := 18) dX9_tickNow_12 (by decide) (fun q => ?_) (fun q => ?_)
  · have h := h.1 q
    refine Z_aload_n dX9_tickNow_18 rfl 0 rfl ?_
    refine Z_iload_n dX9_tickNow_19 rfl 1 rfl ?_
    refine Z_callVV (as := [vi p1]) zRm_M zcv_X9_tickNow_X9_passesMany_414 (ci := 13) rfl rfl rfl rfl (zle rfl) dX9_tickNow_20 ⟨Nat.le_refl _, Nat.le_refl _⟩ h (fun M2 h => ?_)
    refine Z_aload_n dX9_tickNow_23 rfl 0 rfl ?_
    refine Z_getR (s1 := 31) (i1 := 0) zfl_X9_9 rfl (fun q => by first | exact q | decide) dX9_tickNow_24 ?_
    refine Z_bipush (v := 7) (by decide) dX9_tickNow_27 ?_
    refine Z_ialdK (n := 484) (j := 7) rfl (by decide) (zvin (by decide)) dX9_tickNow_29 ?_
    exact Z_iret rfl rfl dX9_tickNow_30 (Nat.le_refl _) (Nat.le_refl _) ⟨_, rfl, h⟩
  · have h := h.2 q
    refine Z_bipush (v := (-2)) (by decide) dX9_tickNow_15 ?_
    exact Z_iret rfl rfl dX9_tickNow_17 (Nat.le_refl _) (Nat.le_refl _) ⟨_, rfl, h⟩
-- X9_windowIn
set_option maxRecDepth 100000 in
set_option maxHeartbeats 4000000 in
theorem zm_X9_windowIn {l : Launch} {G : zG} {p1 : Int32} {p2 : Int32} {M : zM} {Kf : Int32 → zM → Prop} (h : (zCalI l G Y_X9_noFlow 0 0 [vr 30 0, vi p1] (zsI M 30 0 7 0) (fun x2 M1 => ((¬ x2 = 0 → (Kf 0 M1)) ∧ (x2 = 0 → (zCalI l G Y_X9_noTicks 0 0 [vr 30 0, vi p2, vi 0, vi 200, vi 2] M1 (fun x4 M3 => ((x4 = 0 → (zCalV l G Y_X9_aside 0 0 [vr 30 0] M3 (fun M5 => (zCalV l G Y_X9_passesMany 0 0 [vr 30 0, vi p2] M5 (fun M6 => (zCalI l G Y_X9_ofFlow 0 0 [vr 30 0, vi p1, vi 6] M6 (fun x8 M7 => (zCalI l G Y_X9_back 0 0 [vr 30 0, vi x8] M7 (fun x10 M9 => (Kf x10 M9)))))))))) ∧ (¬ x4 = 0 → (Kf 0 M3)))))))))) : zCalI l G Y_X9_windowIn 0 0 [vr 30 0, vi p1, vi p2] M Kf := by
  refine zCal_of (lv := [(0, vr 30 0), (1, vi p1), (2, vi p2)]) (by decide) rfl (zle rfl) rfl (fun hv => zlv_args (lv := [(0, vr 30 0), (1, vi p1), (2, vi p2)]) rfl hv) ?_
  refine Z_aload_n dX9_windowIn_0 rfl 0 rfl ?_
  refine Z_iconst (v := 0) (by decide) dX9_windowIn_1 ?_
  refine Z_putI zfp_X9_60 rfl rfl dX9_windowIn_2 ?_
  refine Z_aload_n dX9_windowIn_5 rfl 0 rfl ?_
  refine Z_iload_n dX9_windowIn_6 rfl 1 rfl ?_
  refine Z_callVI (as := [vi p1]) zRm_M zcv_X9_windowIn_X9_noFlow_375 (ci := 13) rfl rfl rfl rfl (zle rfl) dX9_windowIn_7 ⟨Nat.le_refl _, Nat.le_refl _⟩ h (fun x2 M1 h => ?_)
  refine Z_if_ne (tgt := 26) dX9_windowIn_10 (by decide) (fun q => ?_) (fun q => ?_)
  · have h := h.1 q
    refine Z_iconst (v := 0) (by decide) dX9_windowIn_26 ?_
    exact Z_iret rfl rfl dX9_windowIn_27 (Nat.le_refl _) (Nat.le_refl _) ⟨_, rfl, h⟩
  · have h := h.2 q
    refine Z_aload_n dX9_windowIn_13 rfl 0 rfl ?_
    refine Z_iload_n dX9_windowIn_14 rfl 2 rfl ?_
    refine Z_iconst (v := 0) (by decide) dX9_windowIn_15 ?_
    refine Z_sipush (v := 200) (by decide) dX9_windowIn_16 ?_
    refine Z_iconst (v := 2) (by decide) dX9_windowIn_19 ?_
    refine Z_callVI (as := [vi p2, vi 0, vi 200, vi 2]) zRm_M zcv_X9_windowIn_X9_noTicks_410 (ci := 13) rfl rfl rfl rfl (zle rfl) dX9_windowIn_20 ⟨Nat.le_refl _, Nat.le_refl _⟩ h (fun x4 M3 h => ?_)
    refine Z_if_eq (tgt := 28) dX9_windowIn_23 (by decide) (fun q => ?_) (fun q => ?_)
    · have h := h.1 q
      refine Z_aload_n dX9_windowIn_28 rfl 0 rfl ?_
      refine Z_callVV (as := []) zRm_M zcv_X9_windowIn_X9_aside_286 (ci := 13) rfl rfl rfl rfl (zle rfl) dX9_windowIn_29 ⟨Nat.le_refl _, Nat.le_refl _⟩ h (fun M5 h => ?_)
      refine Z_aload_n dX9_windowIn_32 rfl 0 rfl ?_
      refine Z_iload_n dX9_windowIn_33 rfl 2 rfl ?_
      refine Z_callVV (as := [vi p2]) zRm_M zcv_X9_windowIn_X9_passesMany_414 (ci := 13) rfl rfl rfl rfl (zle rfl) dX9_windowIn_34 ⟨Nat.le_refl _, Nat.le_refl _⟩ h (fun M6 h => ?_)
      refine Z_aload_n dX9_windowIn_37 rfl 0 rfl ?_
      refine Z_aload_n dX9_windowIn_38 rfl 0 rfl ?_
      refine Z_iload_n dX9_windowIn_39 rfl 1 rfl ?_
      refine Z_bipush (v := 6) (by decide) dX9_windowIn_40 ?_
      refine Z_callVI (as := [vi p1, vi 6]) zRm_M zcv_X9_windowIn_X9_ofFlow_67 (ci := 13) rfl rfl rfl rfl (zle rfl) dX9_windowIn_42 ⟨Nat.le_refl _, Nat.le_refl _⟩ h (fun x8 M7 h => ?_)
      refine Z_callVI (as := [vi x8]) zRm_M zcv_X9_windowIn_X9_back_295 (ci := 13) rfl rfl rfl rfl (zle rfl) dX9_windowIn_45 ⟨Nat.le_refl _, Nat.le_refl _⟩ h (fun x10 M9 h => ?_)
      exact Z_iret rfl rfl dX9_windowIn_48 (Nat.le_refl _) (Nat.le_refl _) ⟨_, rfl, h⟩
    · have h := h.2 q
      refine Z_iconst (v := 0) (by decide) dX9_windowIn_26 ?_
      exact Z_iret rfl rfl dX9_windowIn_27 (Nat.le_refl _) (Nat.le_refl _) ⟨_, rfl, h⟩
-- X9_does
set_option maxRecDepth 100000 in
set_option maxHeartbeats 4000000 in
theorem zm_X9_does {l : Launch} {G : zG} {p1 : Int32} {M : zM} {Kf : Int32 → zM → Prop} (h : (vp_in p1 64 ∧ (((zmI M 38 0 p1.toNatClampNeg) = 0 → (vp_in p1 64 ∧ (zCalI l G Y_X9_tickNow 0 0 [vr 30 0, vi (zmI M 39 0 p1.toNatClampNeg)] M (fun x4 M3 => (Kf x4 M3))))) ∧ ((zmI M 38 0 p1.toNatClampNeg) = 1 → (vp_in p1 64 ∧ (vp_in p1 64 ∧ (zCalI l G Y_X9_arriveMany 0 0 [vr 30 0, vi (zmI M 39 0 p1.toNatClampNeg), vi (zmI M 40 0 p1.toNatClampNeg)] M (fun x8 M7 => (Kf x8 M7)))))) ∧ ((zmI M 38 0 p1.toNatClampNeg) = 2 → (vp_in p1 64 ∧ (vp_in p1 64 ∧ (zCalI l G Y_X9_limitsNow 0 0 [vr 30 0, vi (zmI M 39 0 p1.toNatClampNeg), vi (zmI M 40 0 p1.toNatClampNeg)] M (fun x12 M11 => (Kf x12 M11)))))) ∧ ((zmI M 38 0 p1.toNatClampNeg) = 3 → (vp_in p1 64 ∧ (zCalI l G Y_X9_setNow 0 0 [vr 30 0, vi 4, vi (zmI M 39 0 p1.toNatClampNeg)] M (fun x15 M14 => (Kf x15 M14))))) ∧ ((zmI M 38 0 p1.toNatClampNeg) = 4 → (vp_in p1 64 ∧ (zCalI l G Y_X9_setNow 0 0 [vr 30 0, vi 5, vi (zmI M 39 0 p1.toNatClampNeg)] M (fun x18 M17 => (Kf x18 M17))))) ∧ ((zmI M 38 0 p1.toNatClampNeg) = 5 → (vp_in p1 64 ∧ (zCalI l G Y_X9_setNow 0 0 [vr 30 0, vi 6, vi (zmI M 39 0 p1.toNatClampNeg)] M (fun x21 M20 => (Kf x21 M20))))) ∧ ((zmI M 38 0 p1.toNatClampNeg) = 6 → (vp_in p1 64 ∧ (zCalI l G Y_X9_turnNow 0 0 [vr 30 0, vi (zmI M 39 0 p1.toNatClampNeg), vi 0] M (fun x24 M23 => (Kf x24 M23))))) ∧ (¬ (zmI M 38 0 p1.toNatClampNeg) = 0 ∧ ¬ (zmI M 38 0 p1.toNatClampNeg) = 1 ∧ ¬ (zmI M 38 0 p1.toNatClampNeg) = 2 ∧ ¬ (zmI M 38 0 p1.toNatClampNeg) = 3 ∧ ¬ (zmI M 38 0 p1.toNatClampNeg) = 4 ∧ ¬ (zmI M 38 0 p1.toNatClampNeg) = 5 ∧ ¬ (zmI M 38 0 p1.toNatClampNeg) = 6 → (vp_in p1 64 ∧ (zCalI l G Y_X9_turnNow 0 0 [vr 30 0, vi (zmI M 39 0 p1.toNatClampNeg), vi 1] M (fun x27 M26 => (Kf x27 M26)))))))) : zCalI l G Y_X9_does 0 0 [vr 30 0, vi p1] M Kf := by
  refine zCal_of (lv := [(0, vr 30 0), (1, vi p1)]) (by decide) rfl (zle rfl) rfl (fun hv => zlv_args (lv := [(0, vr 30 0), (1, vi p1)]) rfl hv) ?_
  refine Z_aload_n dX9_does_0 rfl 0 rfl ?_
  refine Z_getR (s1 := 38) (i1 := 0) zfl_X9_36 rfl (fun q => by first | exact q | decide) dX9_does_1 ?_
  refine Z_iload_n dX9_does_4 rfl 1 rfl ?_
  obtain ⟨g1, h⟩ := h
  refine Z_iald (n := 64) rfl g1 dX9_does_5 ?_
  by_cases qs0 : (zmI M 38 0 p1.toNatClampNeg) = 0
  · have h := h.1 qs0
    refine Z_tabIn (x := (zmI M 38 0 p1.toNatClampNeg)) dX9_does_6 (j := 0) (by rw [qs0]; decide) (off := 42) (tgt := 48) rfl (by decide) ?_
    refine Z_aload_n dX9_does_48 rfl 0 rfl ?_
    refine Z_aload_n dX9_does_49 rfl 0 rfl ?_
    refine Z_getR (s1 := 39) (i1 := 0) zfl_X9_39 rfl (fun q => by first | exact q | decide) dX9_does_50 ?_
    refine Z_iload_n dX9_does_53 rfl 1 rfl ?_
    obtain ⟨g2, h⟩ := h
    refine Z_iald (n := 64) rfl g2 dX9_does_54 ?_
    refine Z_callVI (as := [vi (zmI M 39 0 p1.toNatClampNeg)]) zRm_M zcv_X9_does_X9_tickNow_341 (ci := 13) rfl rfl rfl rfl (zle rfl) dX9_does_55 ⟨Nat.le_refl _, Nat.le_refl _⟩ h (fun x4 M3 h => ?_)
    exact Z_iret rfl rfl dX9_does_58 (Nat.le_refl _) (Nat.le_refl _) ⟨_, rfl, h⟩
  by_cases qs1 : (zmI M 38 0 p1.toNatClampNeg) = 1
  · have h := h.2.1 qs1
    refine Z_tabIn (x := (zmI M 38 0 p1.toNatClampNeg)) dX9_does_6 (j := 1) (by rw [qs1]; decide) (off := 53) (tgt := 59) rfl (by decide) ?_
    refine Z_aload_n dX9_does_59 rfl 0 rfl ?_
    refine Z_aload_n dX9_does_60 rfl 0 rfl ?_
    refine Z_getR (s1 := 39) (i1 := 0) zfl_X9_39 rfl (fun q => by first | exact q | decide) dX9_does_61 ?_
    refine Z_iload_n dX9_does_64 rfl 1 rfl ?_
    obtain ⟨g5, h⟩ := h
    refine Z_iald (n := 64) rfl g5 dX9_does_65 ?_
    refine Z_aload_n dX9_does_66 rfl 0 rfl ?_
    refine Z_getR (s1 := 40) (i1 := 0) zfl_X9_42 rfl (fun q => by first | exact q | decide) dX9_does_67 ?_
    refine Z_iload_n dX9_does_70 rfl 1 rfl ?_
    obtain ⟨g6, h⟩ := h
    refine Z_iald (n := 64) rfl g6 dX9_does_71 ?_
    refine Z_callVI (as := [vi (zmI M 39 0 p1.toNatClampNeg), vi (zmI M 40 0 p1.toNatClampNeg)]) zRm_M zcv_X9_does_X9_arriveMany_156 (ci := 13) rfl rfl rfl rfl (zle rfl) dX9_does_72 ⟨Nat.le_refl _, Nat.le_refl _⟩ h (fun x8 M7 h => ?_)
    exact Z_iret rfl rfl dX9_does_75 (Nat.le_refl _) (Nat.le_refl _) ⟨_, rfl, h⟩
  by_cases qs2 : (zmI M 38 0 p1.toNatClampNeg) = 2
  · have h := h.2.2.1 qs2
    refine Z_tabIn (x := (zmI M 38 0 p1.toNatClampNeg)) dX9_does_6 (j := 2) (by rw [qs2]; decide) (off := 70) (tgt := 76) rfl (by decide) ?_
    refine Z_aload_n dX9_does_76 rfl 0 rfl ?_
    refine Z_aload_n dX9_does_77 rfl 0 rfl ?_
    refine Z_getR (s1 := 39) (i1 := 0) zfl_X9_39 rfl (fun q => by first | exact q | decide) dX9_does_78 ?_
    refine Z_iload_n dX9_does_81 rfl 1 rfl ?_
    obtain ⟨g9, h⟩ := h
    refine Z_iald (n := 64) rfl g9 dX9_does_82 ?_
    refine Z_aload_n dX9_does_83 rfl 0 rfl ?_
    refine Z_getR (s1 := 40) (i1 := 0) zfl_X9_42 rfl (fun q => by first | exact q | decide) dX9_does_84 ?_
    refine Z_iload_n dX9_does_87 rfl 1 rfl ?_
    obtain ⟨g10, h⟩ := h
    refine Z_iald (n := 64) rfl g10 dX9_does_88 ?_
    refine Z_callVI (as := [vi (zmI M 39 0 p1.toNatClampNeg), vi (zmI M 40 0 p1.toNatClampNeg)]) zRm_M zcv_X9_does_X9_limitsNow_344 (ci := 13) rfl rfl rfl rfl (zle rfl) dX9_does_89 ⟨Nat.le_refl _, Nat.le_refl _⟩ h (fun x12 M11 h => ?_)
    exact Z_iret rfl rfl dX9_does_92 (Nat.le_refl _) (Nat.le_refl _) ⟨_, rfl, h⟩
  by_cases qs3 : (zmI M 38 0 p1.toNatClampNeg) = 3
  · have h := h.2.2.2.1 qs3
    refine Z_tabIn (x := (zmI M 38 0 p1.toNatClampNeg)) dX9_does_6 (j := 3) (by rw [qs3]; decide) (off := 87) (tgt := 93) rfl (by decide) ?_
    refine Z_aload_n dX9_does_93 rfl 0 rfl ?_
    refine Z_iconst (v := 4) (by decide) dX9_does_94 ?_
    refine Z_aload_n dX9_does_95 rfl 0 rfl ?_
    refine Z_getR (s1 := 39) (i1 := 0) zfl_X9_39 rfl (fun q => by first | exact q | decide) dX9_does_96 ?_
    refine Z_iload_n dX9_does_99 rfl 1 rfl ?_
    obtain ⟨g13, h⟩ := h
    refine Z_iald (n := 64) rfl g13 dX9_does_100 ?_
    refine Z_callVI (as := [vi 4, vi (zmI M 39 0 p1.toNatClampNeg)]) zRm_M zcv_X9_does_X9_setNow_347 (ci := 13) rfl rfl rfl rfl (zle rfl) dX9_does_101 ⟨Nat.le_refl _, Nat.le_refl _⟩ h (fun x15 M14 h => ?_)
    exact Z_iret rfl rfl dX9_does_104 (Nat.le_refl _) (Nat.le_refl _) ⟨_, rfl, h⟩
  by_cases qs4 : (zmI M 38 0 p1.toNatClampNeg) = 4
  · have h := h.2.2.2.2.1 qs4
    refine Z_tabIn (x := (zmI M 38 0 p1.toNatClampNeg)) dX9_does_6 (j := 4) (by rw [qs4]; decide) (off := 99) (tgt := 105) rfl (by decide) ?_
    refine Z_aload_n dX9_does_105 rfl 0 rfl ?_
    refine Z_iconst (v := 5) (by decide) dX9_does_106 ?_
    refine Z_aload_n dX9_does_107 rfl 0 rfl ?_
    refine Z_getR (s1 := 39) (i1 := 0) zfl_X9_39 rfl (fun q => by first | exact q | decide) dX9_does_108 ?_
    refine Z_iload_n dX9_does_111 rfl 1 rfl ?_
    obtain ⟨g16, h⟩ := h
    refine Z_iald (n := 64) rfl g16 dX9_does_112 ?_
    refine Z_callVI (as := [vi 5, vi (zmI M 39 0 p1.toNatClampNeg)]) zRm_M zcv_X9_does_X9_setNow_347 (ci := 13) rfl rfl rfl rfl (zle rfl) dX9_does_113 ⟨Nat.le_refl _, Nat.le_refl _⟩ h (fun x18 M17 h => ?_)
    exact Z_iret rfl rfl dX9_does_116 (Nat.le_refl _) (Nat.le_refl _) ⟨_, rfl, h⟩
  by_cases qs5 : (zmI M 38 0 p1.toNatClampNeg) = 5
  · have h := h.2.2.2.2.2.1 qs5
    refine Z_tabIn (x := (zmI M 38 0 p1.toNatClampNeg)) dX9_does_6 (j := 5) (by rw [qs5]; decide) (off := 111) (tgt := 117) rfl (by decide) ?_
    refine Z_aload_n dX9_does_117 rfl 0 rfl ?_
    refine Z_bipush (v := 6) (by decide) dX9_does_118 ?_
    refine Z_aload_n dX9_does_120 rfl 0 rfl ?_
    refine Z_getR (s1 := 39) (i1 := 0) zfl_X9_39 rfl (fun q => by first | exact q | decide) dX9_does_121 ?_
    refine Z_iload_n dX9_does_124 rfl 1 rfl ?_
    obtain ⟨g19, h⟩ := h
    refine Z_iald (n := 64) rfl g19 dX9_does_125 ?_
    refine Z_callVI (as := [vi 6, vi (zmI M 39 0 p1.toNatClampNeg)]) zRm_M zcv_X9_does_X9_setNow_347 (ci := 13) rfl rfl rfl rfl (zle rfl) dX9_does_126 ⟨Nat.le_refl _, Nat.le_refl _⟩ h (fun x21 M20 h => ?_)
    exact Z_iret rfl rfl dX9_does_129 (Nat.le_refl _) (Nat.le_refl _) ⟨_, rfl, h⟩
  by_cases qs6 : (zmI M 38 0 p1.toNatClampNeg) = 6
  · have h := h.2.2.2.2.2.2.1 qs6
    refine Z_tabIn (x := (zmI M 38 0 p1.toNatClampNeg)) dX9_does_6 (j := 6) (by rw [qs6]; decide) (off := 124) (tgt := 130) rfl (by decide) ?_
    refine Z_aload_n dX9_does_130 rfl 0 rfl ?_
    refine Z_aload_n dX9_does_131 rfl 0 rfl ?_
    refine Z_getR (s1 := 39) (i1 := 0) zfl_X9_39 rfl (fun q => by first | exact q | decide) dX9_does_132 ?_
    refine Z_iload_n dX9_does_135 rfl 1 rfl ?_
    obtain ⟨g22, h⟩ := h
    refine Z_iald (n := 64) rfl g22 dX9_does_136 ?_
    refine Z_iconst (v := 0) (by decide) dX9_does_137 ?_
    refine Z_callVI (as := [vi (zmI M 39 0 p1.toNatClampNeg), vi 0]) zRm_M zcv_X9_does_X9_turnNow_350 (ci := 13) rfl rfl rfl rfl (zle rfl) dX9_does_138 ⟨Nat.le_refl _, Nat.le_refl _⟩ h (fun x24 M23 h => ?_)
    exact Z_iret rfl rfl dX9_does_141 (Nat.le_refl _) (Nat.le_refl _) ⟨_, rfl, h⟩
  have h := h.2.2.2.2.2.2.2 ⟨qs0, qs1, qs2, qs3, qs4, qs5, qs6⟩
  refine Z_tabOut (x := (zmI M 38 0 p1.toNatClampNeg)) dX9_does_6 (zsw7 qs0 qs1 qs2 qs3 qs4 qs5 qs6) (tgt := 142) (by decide) ?_
  refine Z_aload_n dX9_does_142 rfl 0 rfl ?_
  refine Z_aload_n dX9_does_143 rfl 0 rfl ?_
  refine Z_getR (s1 := 39) (i1 := 0) zfl_X9_39 rfl (fun q => by first | exact q | decide) dX9_does_144 ?_
  refine Z_iload_n dX9_does_147 rfl 1 rfl ?_
  obtain ⟨g25, h⟩ := h
  refine Z_iald (n := 64) rfl g25 dX9_does_148 ?_
  refine Z_iconst (v := 1) (by decide) dX9_does_149 ?_
  refine Z_callVI (as := [vi (zmI M 39 0 p1.toNatClampNeg), vi 1]) zRm_M zcv_X9_does_X9_turnNow_350 (ci := 13) rfl rfl rfl rfl (zle rfl) dX9_does_150 ⟨Nat.le_refl _, Nat.le_refl _⟩ h (fun x27 M26 h => ?_)
  exact Z_iret rfl rfl dX9_does_153 (Nat.le_refl _) (Nat.le_refl _) ⟨_, rfl, h⟩
-- X9_droppedBy
set_option maxRecDepth 100000 in
set_option maxHeartbeats 4000000 in
theorem zm_X9_droppedBy {l : Launch} {G : zG} {p1 : Int32} {p2 : Int32} {p3 : Int32} {M : zM} {Kf : Int32 → zM → Prop} (h : (zCalV l G Y_X9_aside 0 0 [vr 30 0] M (fun M1 => (vp_in p1 484 ∧ (zCalI l G Y_X9_droppedIn 0 0 [vr 30 0, vi p3] (zsI M1 31 0 p1.toNatClampNeg p2) (fun x4 M3 => (zCalI l G Y_X9_back 0 0 [vr 30 0, vi x4] M3 (fun x6 M5 => (Kf x6 M5))))))))) : zCalI l G Y_X9_droppedBy 0 0 [vr 30 0, vi p1, vi p2, vi p3] M Kf := by
  refine zCal_of (lv := [(0, vr 30 0), (1, vi p1), (2, vi p2), (3, vi p3)]) (by decide) rfl (zle rfl) rfl (fun hv => zlv_args (lv := [(0, vr 30 0), (1, vi p1), (2, vi p2), (3, vi p3)]) rfl hv) ?_
  refine Z_aload_n dX9_droppedBy_0 rfl 0 rfl ?_
  refine Z_callVV (as := []) zRm_M zcv_X9_droppedBy_X9_aside_286 (ci := 13) rfl rfl rfl rfl (zle rfl) dX9_droppedBy_1 ⟨Nat.le_refl _, Nat.le_refl _⟩ h (fun M1 h => ?_)
  refine Z_aload_n dX9_droppedBy_4 rfl 0 rfl ?_
  refine Z_getR (s1 := 31) (i1 := 0) zfl_X9_9 rfl (fun q => by first | exact q | decide) dX9_droppedBy_5 ?_
  refine Z_iload_n dX9_droppedBy_8 rfl 1 rfl ?_
  refine Z_iload_n dX9_droppedBy_9 rfl 2 rfl ?_
  obtain ⟨g2, h⟩ := h
  refine Z_iast (n := 484) rfl g2 dX9_droppedBy_10 ?_
  refine Z_aload_n dX9_droppedBy_11 rfl 0 rfl ?_
  refine Z_aload_n dX9_droppedBy_12 rfl 0 rfl ?_
  refine Z_iload_n dX9_droppedBy_13 rfl 3 rfl ?_
  refine Z_callVI (as := [vi p3]) zRm_M zcv_X9_droppedBy_X9_droppedIn_420 (ci := 13) rfl rfl rfl rfl (zle rfl) dX9_droppedBy_14 ⟨Nat.le_refl _, Nat.le_refl _⟩ h (fun x4 M3 h => ?_)
  refine Z_callVI (as := [vi x4]) zRm_M zcv_X9_droppedBy_X9_back_295 (ci := 13) rfl rfl rfl rfl (zle rfl) dX9_droppedBy_17 ⟨Nat.le_refl _, Nat.le_refl _⟩ h (fun x6 M5 h => ?_)
  exact Z_iret rfl rfl dX9_droppedBy_20 (Nat.le_refl _) (Nat.le_refl _) ⟨_, rfl, h⟩
-- X9_gain
set_option maxRecDepth 100000 in
set_option maxHeartbeats 4000000 in
theorem zm_X9_gain {l : Launch} {G : zG} {p1 : Int32} {M : zM} {Kf : Int64 → zM → Prop} (h : (zCalI l G Y_X9_noTicks 0 0 [vr 30 0, vi p1, vi 1, vi 200, vi 1] (zsI M 30 0 7 0) (fun x2 M1 => ((x2 = 0 → (zCalV l G Y_X9_aside 0 0 [vr 30 0] M1 (fun M3 => (zCalI l G Y_X9_droppedIn 0 0 [vr 30 0, vi p1] M3 (fun x5 M4 => (zCalI l G Y_X9_back 0 0 [vr 30 0, vi x5] M4 (fun x7 M6 => (zCalV l G Y_X9_aside 0 0 [vr 30 0] M6 (fun M8 => (zCalI l G Y_X9_droppedIn 0 0 [vr 30 0, vi p1] (zsI M8 30 0 8 1) (fun x10 M9 => (zCalI l G Y_X9_back 0 0 [vr 30 0, vi x10] M9 (fun x12 M11 => (Kf (((x12 - x7) : Int32).toInt64) (zsI M11 30 0 8 0))))))))))))))) ∧ (¬ x2 = 0 → (Kf 0 M1)))))) : zCalL l G Y_X9_gain 0 0 [vr 30 0, vi p1] M Kf := by
  refine zCal_of (lv := [(0, vr 30 0), (1, vi p1)]) (by decide) rfl (zle rfl) rfl (fun hv => zlv_args (lv := [(0, vr 30 0), (1, vi p1)]) rfl hv) ?_
  refine Z_aload_n dX9_gain_0 rfl 0 rfl ?_
  refine Z_iconst (v := 0) (by decide) dX9_gain_1 ?_
  refine Z_putI zfp_X9_60 rfl rfl dX9_gain_2 ?_
  refine Z_aload_n dX9_gain_5 rfl 0 rfl ?_
  refine Z_iload_n dX9_gain_6 rfl 1 rfl ?_
  refine Z_iconst (v := 1) (by decide) dX9_gain_7 ?_
  refine Z_sipush (v := 200) (by decide) dX9_gain_8 ?_
  refine Z_iconst (v := 1) (by decide) dX9_gain_11 ?_
  refine Z_callVI (as := [vi p1, vi 1, vi 200, vi 1]) zRm_M zcv_X9_gain_X9_noTicks_410 (ci := 13) rfl rfl rfl rfl (zle rfl) dX9_gain_12 ⟨Nat.le_refl _, Nat.le_refl _⟩ h (fun x2 M1 h => ?_)
  refine Z_if_eq (tgt := 20) dX9_gain_15 (by decide) (fun q => ?_) (fun q => ?_)
  · have h := h.1 q
    refine Z_aload_n dX9_gain_20 rfl 0 rfl ?_
    refine Z_callVV (as := []) zRm_M zcv_X9_gain_X9_aside_286 (ci := 13) rfl rfl rfl rfl (zle rfl) dX9_gain_21 ⟨Nat.le_refl _, Nat.le_refl _⟩ h (fun M3 h => ?_)
    refine Z_aload_n dX9_gain_24 rfl 0 rfl ?_
    refine Z_aload_n dX9_gain_25 rfl 0 rfl ?_
    refine Z_iload_n dX9_gain_26 rfl 1 rfl ?_
    refine Z_callVI (as := [vi p1]) zRm_M zcv_X9_gain_X9_droppedIn_420 (ci := 13) rfl rfl rfl rfl (zle rfl) dX9_gain_27 ⟨Nat.le_refl _, Nat.le_refl _⟩ h (fun x5 M4 h => ?_)
    refine Z_callVI (as := [vi x5]) zRm_M zcv_X9_gain_X9_back_295 (ci := 13) rfl rfl rfl rfl (zle rfl) dX9_gain_30 ⟨Nat.le_refl _, Nat.le_refl _⟩ h (fun x7 M6 h => ?_)
    refine Z_istore_n (lv2 := [(2, vi x7), (0, vr 30 0), (1, vi p1)]) dX9_gain_33 rfl (by decide) rfl ?_
    refine Z_aload_n dX9_gain_34 rfl 1 rfl ?_
    refine Z_callVV (as := []) zRm_M zcv_X9_gain_X9_aside_286 (ci := 13) rfl rfl rfl rfl (zle rfl) dX9_gain_35 ⟨Nat.le_refl _, Nat.le_refl _⟩ h (fun M8 h => ?_)
    refine Z_aload_n dX9_gain_38 rfl 1 rfl ?_
    refine Z_iconst (v := 1) (by decide) dX9_gain_39 ?_
    refine Z_putI zfp_X9_112 (by decide) (by decide) dX9_gain_40 ?_
    refine Z_aload_n dX9_gain_43 rfl 1 rfl ?_
    refine Z_aload_n dX9_gain_44 rfl 1 rfl ?_
    refine Z_iload_n dX9_gain_45 rfl 2 rfl ?_
    refine Z_callVI (as := [vi p1]) zRm_M zcv_X9_gain_X9_droppedIn_420 (ci := 13) rfl rfl rfl rfl (zle rfl) dX9_gain_46 ⟨Nat.le_refl _, Nat.le_refl _⟩ h (fun x10 M9 h => ?_)
    refine Z_callVI (as := [vi x10]) zRm_M zcv_X9_gain_X9_back_295 (ci := 13) rfl rfl rfl rfl (zle rfl) dX9_gain_49 ⟨Nat.le_refl _, Nat.le_refl _⟩ h (fun x12 M11 h => ?_)
    refine Z_istore_n (lv2 := [(3, vi x12), (2, vi x7), (0, vr 30 0), (1, vi p1)]) dX9_gain_52 rfl (by decide) rfl ?_
    refine Z_aload_n dX9_gain_53 rfl 2 rfl ?_
    refine Z_iconst (v := 0) (by decide) dX9_gain_54 ?_
    refine Z_putI zfp_X9_112 (by decide) (by decide) dX9_gain_55 ?_
    refine Z_iload_n dX9_gain_58 rfl 0 rfl ?_
    refine Z_iload_n dX9_gain_59 rfl 1 rfl ?_
    refine Z_isub dX9_gain_60 ?_
    refine Z_i2l dX9_gain_61 ?_
    exact Z_lret rfl dX9_gain_62 (Nat.le_refl _) (Nat.le_refl _) ⟨_, rfl, h⟩
  · have h := h.2 q
    refine Z_lconst (v := 0) (by decide) dX9_gain_18 ?_
    exact Z_lret rfl dX9_gain_19 (Nat.le_refl _) (Nat.le_refl _) ⟨_, rfl, h⟩
-- X9_tick
set_option maxRecDepth 100000 in
set_option maxHeartbeats 4000000 in
theorem zm_X9_tick {l : Launch} {G : zG} {p1 : Int32} {M : zM} {Kf : Int32 → zM → Prop} (h : (zCalI l G Y_X9_noTicks 0 0 [vr 30 0, vi p1, vi 1, vi 50, vi 1] (zsI M 30 0 7 0) (fun x2 M1 => ((x2 = 0 → (zCalV l G Y_X9_starts 0 0 [vr 30 0] M1 (fun M3 => (zCalI l G Y_X9_tickNow 0 0 [vr 30 0, vi p1] M3 (fun x5 M4 => (zCalI l G Y_X9_recorded 0 0 [vr 30 0, vi x5] M4 (fun x7 M6 => (Kf x7 M6)))))))) ∧ (¬ x2 = 0 → (Kf 0 M1)))))) : zCalI l G Y_X9_tick 0 0 [vr 30 0, vi p1] M Kf := by
  refine zCal_of (lv := [(0, vr 30 0), (1, vi p1)]) (by decide) rfl (zle rfl) rfl (fun hv => zlv_args (lv := [(0, vr 30 0), (1, vi p1)]) rfl hv) ?_
  refine Z_aload_n dX9_tick_0 rfl 0 rfl ?_
  refine Z_iconst (v := 0) (by decide) dX9_tick_1 ?_
  refine Z_putI zfp_X9_60 rfl rfl dX9_tick_2 ?_
  refine Z_aload_n dX9_tick_5 rfl 0 rfl ?_
  refine Z_iload_n dX9_tick_6 rfl 1 rfl ?_
  refine Z_iconst (v := 1) (by decide) dX9_tick_7 ?_
  refine Z_bipush (v := 50) (by decide) dX9_tick_8 ?_
  refine Z_iconst (v := 1) (by decide) dX9_tick_10 ?_
  refine Z_callVI (as := [vi p1, vi 1, vi 50, vi 1]) zRm_M zcv_X9_tick_X9_noTicks_410 (ci := 13) rfl rfl rfl rfl (zle rfl) dX9_tick_11 ⟨Nat.le_refl _, Nat.le_refl _⟩ h (fun x2 M1 h => ?_)
  refine Z_if_eq (tgt := 19) dX9_tick_14 (by decide) (fun q => ?_) (fun q => ?_)
  · have h := h.1 q
    refine Z_aload_n dX9_tick_19 rfl 0 rfl ?_
    refine Z_callVV (as := []) zRm_M zcv_X9_tick_X9_starts_423 (ci := 13) rfl rfl rfl rfl (zle rfl) dX9_tick_20 ⟨Nat.le_refl _, Nat.le_refl _⟩ h (fun M3 h => ?_)
    refine Z_aload_n dX9_tick_23 rfl 0 rfl ?_
    refine Z_aload_n dX9_tick_24 rfl 0 rfl ?_
    refine Z_iload_n dX9_tick_25 rfl 1 rfl ?_
    refine Z_callVI (as := [vi p1]) zRm_M zcv_X9_tick_X9_tickNow_341 (ci := 13) rfl rfl rfl rfl (zle rfl) dX9_tick_26 ⟨Nat.le_refl _, Nat.le_refl _⟩ h (fun x5 M4 h => ?_)
    refine Z_callVI (as := [vi x5]) zRm_M zcv_X9_tick_X9_recorded_426 (ci := 13) rfl rfl rfl rfl (zle rfl) dX9_tick_29 ⟨Nat.le_refl _, Nat.le_refl _⟩ h (fun x7 M6 h => ?_)
    exact Z_iret rfl rfl dX9_tick_32 (Nat.le_refl _) (Nat.le_refl _) ⟨_, rfl, h⟩
  · have h := h.2 q
    refine Z_iconst (v := 0) (by decide) dX9_tick_17 ?_
    exact Z_iret rfl rfl dX9_tick_18 (Nat.le_refl _) (Nat.le_refl _) ⟨_, rfl, h⟩
-- X9_bestTop
set_option maxRecDepth 100000 in
set_option maxHeartbeats 4000000 in
theorem zm_X9_bestTop {l : Launch} {G : zG} {p1 : Int32} {M : zM} {Kf : Int32 → zM → Prop} (h : (zCalI l G Y_X9_noTicks 0 0 [vr 30 0, vi p1, vi 1, vi 100, vi 1] (zsI M 30 0 7 0) (fun x2 M1 => ((x2 = 0 → (zCalI l G Y_X9_droppedBy 0 0 [vr 30 0, vi 4, vi 0, vi p1] M1 (fun x4 M3 => zAt l G Y_X9_bestTop (zEI G Y_X9_bestTop Kf) 34 [(0, vr 30 0), (1, vi p1), (2, vi 0), (3, vi x4), (4, vi 4096)] [] M3 0 0))) ∧ (¬ x2 = 0 → (Kf 0 M1)))))) : zCalI l G Y_X9_bestTop 0 0 [vr 30 0, vi p1] M Kf := by
  refine zCal_of (lv := [(0, vr 30 0), (1, vi p1)]) (by decide) rfl (zle rfl) rfl (fun hv => zlv_args (lv := [(0, vr 30 0), (1, vi p1)]) rfl hv) ?_
  refine Z_aload_n dX9_bestTop_0 rfl 0 rfl ?_
  refine Z_iconst (v := 0) (by decide) dX9_bestTop_1 ?_
  refine Z_putI zfp_X9_60 rfl rfl dX9_bestTop_2 ?_
  refine Z_aload_n dX9_bestTop_5 rfl 0 rfl ?_
  refine Z_iload_n dX9_bestTop_6 rfl 1 rfl ?_
  refine Z_iconst (v := 1) (by decide) dX9_bestTop_7 ?_
  refine Z_bipush (v := 100) (by decide) dX9_bestTop_8 ?_
  refine Z_iconst (v := 1) (by decide) dX9_bestTop_10 ?_
  refine Z_callVI (as := [vi p1, vi 1, vi 100, vi 1]) zRm_M zcv_X9_bestTop_X9_noTicks_410 (ci := 13) rfl rfl rfl rfl (zle rfl) dX9_bestTop_11 ⟨Nat.le_refl _, Nat.le_refl _⟩ h (fun x2 M1 h => ?_)
  refine Z_if_eq (tgt := 19) dX9_bestTop_14 (by decide) (fun q => ?_) (fun q => ?_)
  · have h := h.1 q
    refine Z_iconst (v := 0) (by decide) dX9_bestTop_19 ?_
    refine Z_istore_n (lv2 := [(2, vi 0), (0, vr 30 0), (1, vi p1)]) dX9_bestTop_20 rfl (by decide) rfl ?_
    refine Z_aload_n dX9_bestTop_21 rfl 1 rfl ?_
    refine Z_iconst (v := 4) (by decide) dX9_bestTop_22 ?_
    refine Z_iconst (v := 0) (by decide) dX9_bestTop_23 ?_
    refine Z_iload_n dX9_bestTop_24 rfl 2 rfl ?_
    refine Z_callVI (as := [vi 4, vi 0, vi p1]) zRm_M zcv_X9_bestTop_X9_droppedBy_417 (ci := 13) rfl rfl rfl rfl (zle rfl) dX9_bestTop_25 ⟨Nat.le_refl _, Nat.le_refl _⟩ h (fun x4 M3 h => ?_)
    refine Z_istore_n (lv2 := [(3, vi x4), (2, vi 0), (0, vr 30 0), (1, vi p1)]) dX9_bestTop_28 rfl (by decide) rfl ?_
    refine Z_sipush (v := 4096) (by decide) dX9_bestTop_29 ?_
    refine Z_istore (lv2 := [(4, vi 4096), (3, vi x4), (2, vi 0), (0, vr 30 0), (1, vi p1)]) dX9_bestTop_32 (by decide) rfl ?_
    exact Z_pick [3, 4, 2, 1, 0] rfl h
  · have h := h.2 q
    refine Z_iconst (v := 0) (by decide) dX9_bestTop_17 ?_
    exact Z_iret rfl rfl dX9_bestTop_18 (Nat.le_refl _) (Nat.le_refl _) ⟨_, rfl, h⟩
set_option maxRecDepth 100000 in
set_option maxHeartbeats 4000000 in
theorem zb_X9_bestTop_34 {l : Launch} {G : zG} {y1 : Int32} {y2 : Int32} {y3 : Int32} {y4 : Int32} {M : zM} {Kf : Int32 → zM → Prop} (h : ((65536 < y4 → (Kf y2 M)) ∧ (¬ 65536 < y4 → (zCalI l G Y_X9_droppedBy 0 0 [vr 30 0, vi 4, vi y4, vi y1] M (fun x2 M1 => ((x2 < y3 → zAt l G Y_X9_bestTop (zEI G Y_X9_bestTop Kf) 66 [(0, vr 30 0), (1, vi y1), (2, vi y4), (3, vi x2), (4, vi y4)] [] M1 0 0) ∧ (¬ x2 < y3 → zAt l G Y_X9_bestTop (zEI G Y_X9_bestTop Kf) 66 [(0, vr 30 0), (1, vi y1), (2, vi y2), (3, vi y3), (4, vi y4)] [] M1 0 0))))))) : zAt l G Y_X9_bestTop (zEI G Y_X9_bestTop Kf) 34 [(0, vr 30 0), (1, vi y1), (2, vi y2), (3, vi y3), (4, vi y4)] [] M 0 0 := by
  refine Z_iload dX9_bestTop_34 4 rfl ?_
  refine Z_ldc (v := 65536) zw_1775 dX9_bestTop_36 ?_
  refine Z_icmp_gt (tgt := 75) dX9_bestTop_38 (by decide) (fun q => ?_) (fun q => ?_)
  · have h := h.1 q
    refine Z_iload_n dX9_bestTop_75 rfl 2 rfl ?_
    exact Z_iret rfl rfl dX9_bestTop_76 (Nat.le_refl _) (Nat.le_refl _) ⟨_, rfl, h⟩
  · have h := h.2 q
    refine Z_aload_n dX9_bestTop_41 rfl 0 rfl ?_
    refine Z_iconst (v := 4) (by decide) dX9_bestTop_42 ?_
    refine Z_iload dX9_bestTop_43 4 rfl ?_
    refine Z_iload_n dX9_bestTop_45 rfl 1 rfl ?_
    refine Z_callVI (as := [vi 4, vi y4, vi y1]) zRm_M zcv_X9_bestTop_X9_droppedBy_417 (ci := 13) rfl rfl rfl rfl (zle rfl) dX9_bestTop_46 ⟨Nat.le_refl _, Nat.le_refl _⟩ h (fun x2 M1 h => ?_)
    refine Z_istore (lv2 := [(5, vi x2), (0, vr 30 0), (1, vi y1), (2, vi y2), (3, vi y3), (4, vi y4)]) dX9_bestTop_49 (by decide) rfl ?_
    refine Z_iload dX9_bestTop_51 0 rfl ?_
    refine Z_iload_n dX9_bestTop_53 rfl 4 rfl ?_
    refine Z_icmp_lt (tgt := 60) dX9_bestTop_54 (by decide) (fun q => ?_) (fun q => ?_)
    · have h := h.1 q
      refine Z_iload dX9_bestTop_60 5 rfl ?_
      refine Z_istore_n (lv2 := [(2, vi y4), (5, vi x2), (0, vr 30 0), (1, vi y1), (3, vi y3), (4, vi y4)]) dX9_bestTop_62 rfl (by decide) rfl ?_
      refine Z_iload dX9_bestTop_63 1 rfl ?_
      refine Z_istore_n (lv2 := [(3, vi x2), (2, vi y4), (5, vi x2), (0, vr 30 0), (1, vi y1), (4, vi y4)]) dX9_bestTop_65 rfl (by decide) rfl ?_
      exact Z_pick [3, 4, 1, 0, 5] rfl h
    · have h := h.2 q
      refine Z_goto (tgt := 66) dX9_bestTop_57 (by decide) ?_
      exact Z_pick [1, 2, 3, 4, 5] rfl h
set_option maxRecDepth 100000 in
set_option maxHeartbeats 4000000 in
theorem zb_X9_bestTop_66 {l : Launch} {G : zG} {y1 : Int32} {y2 : Int32} {y3 : Int32} {y4 : Int32} {M : zM} {Kf : Int32 → zM → Prop} (h : zAt l G Y_X9_bestTop (zEI G Y_X9_bestTop Kf) 34 [(0, vr 30 0), (1, vi y1), (2, vi y2), (3, vi y3), (4, vi (y4 + 4096))] [] M 0 0) : zAt l G Y_X9_bestTop (zEI G Y_X9_bestTop Kf) 66 [(0, vr 30 0), (1, vi y1), (2, vi y2), (3, vi y3), (4, vi y4)] [] M 0 0 := by
  refine Z_iincW (v := (y4 + 4096)) (lv2 := [(4, vi (y4 + 4096)), (0, vr 30 0), (1, vi y1), (2, vi y2), (3, vi y3)]) dX9_bestTop_66 4 rfl rfl (by decide) rfl ?_
  refine Z_goto (tgt := 34) dX9_bestTop_72 (by decide) ?_
  exact Z_pick [1, 2, 3, 4, 0] rfl h
-- X9_bestWeight
set_option maxRecDepth 100000 in
set_option maxHeartbeats 4000000 in
theorem zm_X9_bestWeight {l : Launch} {G : zG} {p1 : Int32} {M : zM} {Kf : Int32 → zM → Prop} (h : (zCalI l G Y_X9_noTicks 0 0 [vr 30 0, vi p1, vi 1, vi 100, vi 1] (zsI M 30 0 7 0) (fun x2 M1 => ((x2 = 0 → zAt l G Y_X9_bestWeight (zEI G Y_X9_bestWeight Kf) 26 [(0, vr 30 0), (1, vi p1), (2, vi (-1)), (3, vi 0), (4, vi 0)] [] M1 0 0) ∧ (¬ x2 = 0 → (Kf 0 M1)))))) : zCalI l G Y_X9_bestWeight 0 0 [vr 30 0, vi p1] M Kf := by
  refine zCal_of (lv := [(0, vr 30 0), (1, vi p1)]) (by decide) rfl (zle rfl) rfl (fun hv => zlv_args (lv := [(0, vr 30 0), (1, vi p1)]) rfl hv) ?_
  refine Z_aload_n dX9_bestWeight_0 rfl 0 rfl ?_
  refine Z_iconst (v := 0) (by decide) dX9_bestWeight_1 ?_
  refine Z_putI zfp_X9_60 rfl rfl dX9_bestWeight_2 ?_
  refine Z_aload_n dX9_bestWeight_5 rfl 0 rfl ?_
  refine Z_iload_n dX9_bestWeight_6 rfl 1 rfl ?_
  refine Z_iconst (v := 1) (by decide) dX9_bestWeight_7 ?_
  refine Z_bipush (v := 100) (by decide) dX9_bestWeight_8 ?_
  refine Z_iconst (v := 1) (by decide) dX9_bestWeight_10 ?_
  refine Z_callVI (as := [vi p1, vi 1, vi 100, vi 1]) zRm_M zcv_X9_bestWeight_X9_noTicks_410 (ci := 13) rfl rfl rfl rfl (zle rfl) dX9_bestWeight_11 ⟨Nat.le_refl _, Nat.le_refl _⟩ h (fun x2 M1 h => ?_)
  refine Z_if_eq (tgt := 19) dX9_bestWeight_14 (by decide) (fun q => ?_) (fun q => ?_)
  · have h := h.1 q
    refine Z_iconst (v := (-1)) (by decide) dX9_bestWeight_19 ?_
    refine Z_istore_n (lv2 := [(2, vi (-1)), (0, vr 30 0), (1, vi p1)]) dX9_bestWeight_20 rfl (by decide) rfl ?_
    refine Z_iconst (v := 0) (by decide) dX9_bestWeight_21 ?_
    refine Z_istore_n (lv2 := [(3, vi 0), (2, vi (-1)), (0, vr 30 0), (1, vi p1)]) dX9_bestWeight_22 rfl (by decide) rfl ?_
    refine Z_iconst (v := 0) (by decide) dX9_bestWeight_23 ?_
    refine Z_istore (lv2 := [(4, vi 0), (3, vi 0), (2, vi (-1)), (0, vr 30 0), (1, vi p1)]) dX9_bestWeight_24 (by decide) rfl ?_
    exact Z_pick [3, 4, 2, 1, 0] rfl h
  · have h := h.2 q
    refine Z_iconst (v := 0) (by decide) dX9_bestWeight_17 ?_
    exact Z_iret rfl rfl dX9_bestWeight_18 (Nat.le_refl _) (Nat.le_refl _) ⟨_, rfl, h⟩
set_option maxRecDepth 100000 in
set_option maxHeartbeats 4000000 in
theorem zb_X9_bestWeight_26 {l : Launch} {G : zG} {y1 : Int32} {y2 : Int32} {y3 : Int32} {y4 : Int32} {M : zM} {Kf : Int32 → zM → Prop} (h : ((10 < y4 → (Kf y2 M)) ∧ (¬ 10 < y4 → (zCalI l G Y_X9_droppedBy 0 0 [vr 30 0, vi 5, vi y4, vi y1] M (fun x2 M1 => ((y2 = (-1) → zAt l G Y_X9_bestWeight (zEI G Y_X9_bestWeight Kf) 57 [(0, vr 30 0), (1, vi y1), (4, vi y4), (5, vi x2)] [] M1 0 0) ∧ (¬ y2 = (-1) → ((x2 < y3 → zAt l G Y_X9_bestWeight (zEI G Y_X9_bestWeight Kf) 57 [(0, vr 30 0), (1, vi y1), (4, vi y4), (5, vi x2)] [] M1 0 0) ∧ (¬ x2 < y3 → zAt l G Y_X9_bestWeight (zEI G Y_X9_bestWeight Kf) 63 [(0, vr 30 0), (1, vi y1), (2, vi y2), (3, vi y3), (4, vi y4)] [] M1 0 0))))))))) : zAt l G Y_X9_bestWeight (zEI G Y_X9_bestWeight Kf) 26 [(0, vr 30 0), (1, vi y1), (2, vi y2), (3, vi y3), (4, vi y4)] [] M 0 0 := by
  refine Z_iload dX9_bestWeight_26 4 rfl ?_
  refine Z_bipush (v := 10) (by decide) dX9_bestWeight_28 ?_
  refine Z_icmp_gt (tgt := 69) dX9_bestWeight_30 (by decide) (fun q => ?_) (fun q => ?_)
  · have h := h.1 q
    refine Z_iload_n dX9_bestWeight_69 rfl 2 rfl ?_
    exact Z_iret rfl rfl dX9_bestWeight_70 (Nat.le_refl _) (Nat.le_refl _) ⟨_, rfl, h⟩
  · have h := h.2 q
    refine Z_aload_n dX9_bestWeight_33 rfl 0 rfl ?_
    refine Z_iconst (v := 5) (by decide) dX9_bestWeight_34 ?_
    refine Z_iload dX9_bestWeight_35 4 rfl ?_
    refine Z_iload_n dX9_bestWeight_37 rfl 1 rfl ?_
    refine Z_callVI (as := [vi 5, vi y4, vi y1]) zRm_M zcv_X9_bestWeight_X9_droppedBy_417 (ci := 13) rfl rfl rfl rfl (zle rfl) dX9_bestWeight_38 ⟨Nat.le_refl _, Nat.le_refl _⟩ h (fun x2 M1 h => ?_)
    refine Z_istore (lv2 := [(5, vi x2), (0, vr 30 0), (1, vi y1), (2, vi y2), (3, vi y3), (4, vi y4)]) dX9_bestWeight_41 (by decide) rfl ?_
    refine Z_iload_n dX9_bestWeight_43 rfl 3 rfl ?_
    refine Z_iconst (v := (-1)) (by decide) dX9_bestWeight_44 ?_
    refine Z_icmp_eq (tgt := 57) dX9_bestWeight_45 (by decide) (fun q => ?_) (fun q => ?_)
    · have h := h.1 q
      exact Z_pick [1, 2, 5, 0] rfl h
    · have h := h.2 q
      refine Z_iload dX9_bestWeight_48 0 rfl ?_
      refine Z_iload_n dX9_bestWeight_50 rfl 4 rfl ?_
      refine Z_icmp_lt (tgt := 57) dX9_bestWeight_51 (by decide) (fun q => ?_) (fun q => ?_)
      · have h := h.1 q
        exact Z_pick [1, 2, 5, 0] rfl h
      · have h := h.2 q
        refine Z_goto (tgt := 63) dX9_bestWeight_54 (by decide) ?_
        exact Z_pick [1, 2, 3, 4, 5] rfl h
set_option maxRecDepth 100000 in
set_option maxHeartbeats 4000000 in
theorem zb_X9_bestWeight_57 {l : Launch} {G : zG} {y1 : Int32} {y4 : Int32} {y5 : Int32} {M : zM} {Kf : Int32 → zM → Prop} (h : zAt l G Y_X9_bestWeight (zEI G Y_X9_bestWeight Kf) 63 [(0, vr 30 0), (1, vi y1), (2, vi y4), (3, vi y5), (4, vi y4)] [] M 0 0) : zAt l G Y_X9_bestWeight (zEI G Y_X9_bestWeight Kf) 57 [(0, vr 30 0), (1, vi y1), (4, vi y4), (5, vi y5)] [] M 0 0 := by
  refine Z_iload dX9_bestWeight_57 2 rfl ?_
  refine Z_istore_n (lv2 := [(2, vi y4), (0, vr 30 0), (1, vi y1), (4, vi y4), (5, vi y5)]) dX9_bestWeight_59 rfl (by decide) rfl ?_
  refine Z_iload dX9_bestWeight_60 4 rfl ?_
  refine Z_istore_n (lv2 := [(3, vi y5), (2, vi y4), (0, vr 30 0), (1, vi y1), (4, vi y4), (5, vi y5)]) dX9_bestWeight_62 rfl (by decide) rfl ?_
  exact Z_pick [2, 3, 1, 0, 4] rfl h
set_option maxRecDepth 100000 in
set_option maxHeartbeats 4000000 in
theorem zb_X9_bestWeight_63 {l : Launch} {G : zG} {y1 : Int32} {y2 : Int32} {y3 : Int32} {y4 : Int32} {M : zM} {Kf : Int32 → zM → Prop} (h : zAt l G Y_X9_bestWeight (zEI G Y_X9_bestWeight Kf) 26 [(0, vr 30 0), (1, vi y1), (2, vi y2), (3, vi y3), (4, vi (y4 + 1))] [] M 0 0) : zAt l G Y_X9_bestWeight (zEI G Y_X9_bestWeight Kf) 63 [(0, vr 30 0), (1, vi y1), (2, vi y2), (3, vi y3), (4, vi y4)] [] M 0 0 := by
  refine Z_iinc (v := (y4 + 1)) (lv2 := [(4, vi (y4 + 1)), (0, vr 30 0), (1, vi y1), (2, vi y2), (3, vi y3)]) dX9_bestWeight_63 4 rfl rfl (by decide) rfl ?_
  refine Z_goto (tgt := 26) dX9_bestWeight_66 (by decide) ?_
  exact Z_pick [1, 2, 3, 4, 0] rfl h
