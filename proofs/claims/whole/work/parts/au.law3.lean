/-! printed by wip/whole/h_*.py -/
abbrev YL_law : zY := (yL_law, cL_law, 10, (some .boolean), 60, [])
theorem zw_509 : Cond.methodLink RL 108 yX8_feed ∈ zAll := zin 509 (by decide +kernel) (by decide +kernel)
theorem zw_510 : Cond.instanceMethod yX8_feed ∈ zAll := zin 510 (by decide +kernel) (by decide +kernel)
theorem zw_511 : Cond.selects RX8 yX8_feed yX8_feed ∈ zAll := zin 511 (by decide +kernel) (by decide +kernel)
theorem zw_512 : Cond.code yX8_feed cX8_feed 7 (some .int) ∈ zAll := zin 512 (by decide +kernel) (by decide +kernel)
theorem zcv_YL_law_108 : zLV YL_law 108 Y_X8_feed 5 RX8 := ⟨zw_509, zw_510, zw_511, zw_111, zw_512, by decide +kernel, by decide, by decide⟩
theorem zw_1689 : Cond.methodLink RL 112 yX9_feed ∈ zAll := zin 1689 (by decide +kernel) (by decide +kernel)
theorem zw_1690 : Cond.instanceMethod yX9_feed ∈ zAll := zin 1690 (by decide +kernel) (by decide +kernel)
theorem zw_1691 : Cond.selects RX9 yX9_feed yX9_feed ∈ zAll := zin 1691 (by decide +kernel) (by decide +kernel)
theorem zw_1692 : Cond.code yX9_feed cX9_feed 6 (some .int) ∈ zAll := zin 1692 (by decide +kernel) (by decide +kernel)
theorem zcv_YL_law_112 : zLV YL_law 112 Y_X9_feed 5 RX9 := ⟨zw_1689, zw_1690, zw_1691, zw_124, zw_1692, by decide +kernel, by decide, by decide⟩
theorem zw_520 : Cond.methodLink RL 113 yX8_load ∈ zAll := zin 520 (by decide +kernel) (by decide +kernel)
theorem zw_521 : Cond.instanceMethod yX8_load ∈ zAll := zin 521 (by decide +kernel) (by decide +kernel)
theorem zw_522 : Cond.selects RX8 yX8_load yX8_load ∈ zAll := zin 522 (by decide +kernel) (by decide +kernel)
theorem zw_523 : Cond.code yX8_load cX8_load 3 (some .int) ∈ zAll := zin 523 (by decide +kernel) (by decide +kernel)
theorem zcv_YL_law_113 : zLV YL_law 113 Y_X8_load 0 RX8 := ⟨zw_520, zw_521, zw_522, zw_111, zw_523, by decide +kernel, by decide, by decide⟩
theorem zw_1703 : Cond.methodLink RL 117 yX9_load ∈ zAll := zin 1703 (by decide +kernel) (by decide +kernel)
theorem zw_1704 : Cond.instanceMethod yX9_load ∈ zAll := zin 1704 (by decide +kernel) (by decide +kernel)
theorem zw_1705 : Cond.selects RX9 yX9_load yX9_load ∈ zAll := zin 1705 (by decide +kernel) (by decide +kernel)
theorem zw_1706 : Cond.code yX9_load cX9_load 2 (some .int) ∈ zAll := zin 1706 (by decide +kernel) (by decide +kernel)
theorem zcv_YL_law_117 : zLV YL_law 117 Y_X9_load 0 RX9 := ⟨zw_1703, zw_1704, zw_1705, zw_124, zw_1706, by decide +kernel, by decide, by decide⟩
theorem zw_742 : Cond.methodLink RL 118 yX8_run ∈ zAll := zin 742 (by decide +kernel) (by decide +kernel)
theorem zw_743 : Cond.instanceMethod yX8_run ∈ zAll := zin 743 (by decide +kernel) (by decide +kernel)
theorem zw_744 : Cond.selects RX8 yX8_run yX8_run ∈ zAll := zin 744 (by decide +kernel) (by decide +kernel)
theorem zw_745 : Cond.code yX8_run cX8_run 2 (some .int) ∈ zAll := zin 745 (by decide +kernel) (by decide +kernel)
theorem zcv_YL_law_118 : zLV YL_law 118 Y_X8_run 0 RX8 := ⟨zw_742, zw_743, zw_744, zw_111, zw_745, by decide +kernel, by decide, by decide⟩
theorem zw_1813 : Cond.methodLink RL 121 yX9_run ∈ zAll := zin 1813 (by decide +kernel) (by decide +kernel)
theorem zw_1814 : Cond.instanceMethod yX9_run ∈ zAll := zin 1814 (by decide +kernel) (by decide +kernel)
theorem zw_1815 : Cond.selects RX9 yX9_run yX9_run ∈ zAll := zin 1815 (by decide +kernel) (by decide +kernel)
theorem zw_1816 : Cond.code yX9_run cX9_run 2 (some .int) ∈ zAll := zin 1816 (by decide +kernel) (by decide +kernel)
theorem zcv_YL_law_121 : zLV YL_law 121 Y_X9_run 0 RX9 := ⟨zw_1813, zw_1814, zw_1815, zw_124, zw_1816, by decide +kernel, by decide, by decide⟩
theorem zw_929 : Cond.methodLink RL 122 yX8_errorPosition ∈ zAll := zin 929 (by decide +kernel) (by decide +kernel)
theorem zw_930 : Cond.instanceMethod yX8_errorPosition ∈ zAll := zin 930 (by decide +kernel) (by decide +kernel)
theorem zw_931 : Cond.selects RX8 yX8_errorPosition yX8_errorPosition ∈ zAll := zin 931 (by decide +kernel) (by decide +kernel)
theorem zw_932 : Cond.code yX8_errorPosition cX8_errorPosition 1 (some .int) ∈ zAll := zin 932 (by decide +kernel) (by decide +kernel)
theorem zcv_YL_law_122 : zLV YL_law 122 Y_X8_errorPosition 0 RX8 := ⟨zw_929, zw_930, zw_931, zw_111, zw_932, by decide +kernel, by decide, by decide⟩
theorem zw_1809 : Cond.methodLink RL 125 yX9_errorPosition ∈ zAll := zin 1809 (by decide +kernel) (by decide +kernel)
theorem zw_1810 : Cond.instanceMethod yX9_errorPosition ∈ zAll := zin 1810 (by decide +kernel) (by decide +kernel)
theorem zw_1811 : Cond.selects RX9 yX9_errorPosition yX9_errorPosition ∈ zAll := zin 1811 (by decide +kernel) (by decide +kernel)
theorem zw_1812 : Cond.code yX9_errorPosition cX9_errorPosition 1 (some .int) ∈ zAll := zin 1812 (by decide +kernel) (by decide +kernel)
theorem zcv_YL_law_125 : zLV YL_law 125 Y_X9_errorPosition 0 RX9 := ⟨zw_1809, zw_1810, zw_1811, zw_124, zw_1812, by decide +kernel, by decide, by decide⟩
theorem zw_1318 : Cond.methodLink RL 126 yL_size ∈ zAll := zin 1318 (by decide +kernel) (by decide +kernel)
theorem zw_1319 : Cond.static yL_size ∈ zAll := zin 1319 (by decide +kernel) (by decide +kernel)
theorem zw_110 : Cond.initialized RL ∈ zAll := zin 110 (by decide +kernel) (by decide +kernel)
theorem zw_1320 : Cond.codeWith yL_size cL_size 4 (some .int) [(0, 9, 12, 13)] ∈ zAll := zin 1320 (by decide +kernel) (by decide +kernel)
theorem zls_law_size : lLS YL_law 126 YL_size 3 := ⟨zw_1318, zw_1319, zw_110, zw_1320, by decide +kernel, by decide, by decide⟩
theorem zw_1989 : Cond.methodLink RL 131 yX9_size ∈ zAll := zin 1989 (by decide +kernel) (by decide +kernel)
theorem zw_1990 : Cond.instanceMethod yX9_size ∈ zAll := zin 1990 (by decide +kernel) (by decide +kernel)
theorem zw_1991 : Cond.selects RX9 yX9_size yX9_size ∈ zAll := zin 1991 (by decide +kernel) (by decide +kernel)
theorem zw_1992 : Cond.code yX9_size cX9_size 2 (some .int) ∈ zAll := zin 1992 (by decide +kernel) (by decide +kernel)
theorem zcv_YL_law_131 : zLV YL_law 131 Y_X9_size 1 RX9 := ⟨zw_1989, zw_1990, zw_1991, zw_124, zw_1992, by decide +kernel, by decide, by decide⟩
theorem zw_1685 : Cond.methodLink RL 132 yX9_thrown ∈ zAll := zin 1685 (by decide +kernel) (by decide +kernel)
theorem zw_1686 : Cond.instanceMethod yX9_thrown ∈ zAll := zin 1686 (by decide +kernel) (by decide +kernel)
theorem zw_1687 : Cond.selects RX9 yX9_thrown yX9_thrown ∈ zAll := zin 1687 (by decide +kernel) (by decide +kernel)
theorem zw_1688 : Cond.code yX9_thrown cX9_thrown 1 (some .int) ∈ zAll := zin 1688 (by decide +kernel) (by decide +kernel)
theorem zcv_YL_law_132 : zLV YL_law 132 Y_X9_thrown 0 RX9 := ⟨zw_1685, zw_1686, zw_1687, zw_124, zw_1688, by decide +kernel, by decide, by decide⟩
theorem zw_1333 : Cond.methodLink RL 135 yL_flow ∈ zAll := zin 1333 (by decide +kernel) (by decide +kernel)
theorem zw_1334 : Cond.static yL_flow ∈ zAll := zin 1334 (by decide +kernel) (by decide +kernel)
theorem zw_1335 : Cond.codeWith yL_flow cL_flow 5 (some .int) [(0, 10, 13, 19), (0, 10, 17, 13)] ∈ zAll := zin 1335 (by decide +kernel) (by decide +kernel)
theorem zls_law_flow : lLS YL_law 135 YL_flow 4 := ⟨zw_1333, zw_1334, zw_110, zw_1335, by decide +kernel, by decide, by decide⟩
theorem zw_1997 : Cond.methodLink RL 138 yX9_flow ∈ zAll := zin 1997 (by decide +kernel) (by decide +kernel)
theorem zw_1998 : Cond.instanceMethod yX9_flow ∈ zAll := zin 1998 (by decide +kernel) (by decide +kernel)
theorem zw_1999 : Cond.selects RX9 yX9_flow yX9_flow ∈ zAll := zin 1999 (by decide +kernel) (by decide +kernel)
theorem zw_2000 : Cond.code yX9_flow cX9_flow 3 (some .int) ∈ zAll := zin 2000 (by decide +kernel) (by decide +kernel)
theorem zcv_YL_law_138 : zLV YL_law 138 Y_X9_flow 2 RX9 := ⟨zw_1997, zw_1998, zw_1999, zw_124, zw_2000, by decide +kernel, by decide, by decide⟩
theorem zw_1370 : Cond.methodLink RL 139 yL_letter ∈ zAll := zin 1370 (by decide +kernel) (by decide +kernel)
theorem zw_1371 : Cond.static yL_letter ∈ zAll := zin 1371 (by decide +kernel) (by decide +kernel)
theorem zw_1372 : Cond.codeWith yL_letter cL_letter 5 (some .int) [(0, 10, 13, 19)] ∈ zAll := zin 1372 (by decide +kernel) (by decide +kernel)
theorem zls_law_letter : lLS YL_law 139 YL_letter 4 := ⟨zw_1370, zw_1371, zw_110, zw_1372, by decide +kernel, by decide, by decide⟩
theorem zw_2017 : Cond.methodLink RL 141 yX9_letter ∈ zAll := zin 2017 (by decide +kernel) (by decide +kernel)
theorem zw_2018 : Cond.instanceMethod yX9_letter ∈ zAll := zin 2018 (by decide +kernel) (by decide +kernel)
theorem zw_2019 : Cond.selects RX9 yX9_letter yX9_letter ∈ zAll := zin 2019 (by decide +kernel) (by decide +kernel)
theorem zw_2020 : Cond.code yX9_letter cX9_letter 3 (some .int) ∈ zAll := zin 2020 (by decide +kernel) (by decide +kernel)
theorem zcv_YL_law_141 : zLV YL_law 141 Y_X9_letter 2 RX9 := ⟨zw_2017, zw_2018, zw_2019, zw_124, zw_2020, by decide +kernel, by decide, by decide⟩
theorem zw_1379 : Cond.methodLink RL 142 yL_packet ∈ zAll := zin 1379 (by decide +kernel) (by decide +kernel)
theorem zw_1380 : Cond.static yL_packet ∈ zAll := zin 1380 (by decide +kernel) (by decide +kernel)
theorem zw_1381 : Cond.codeWith yL_packet cL_packet 5 (some .int) [(0, 10, 13, 19), (0, 10, 17, 13)] ∈ zAll := zin 1381 (by decide +kernel) (by decide +kernel)
theorem zls_law_packet : lLS YL_law 142 YL_packet 4 := ⟨zw_1379, zw_1380, zw_110, zw_1381, by decide +kernel, by decide, by decide⟩
theorem zw_2021 : Cond.methodLink RL 144 yX9_packet ∈ zAll := zin 2021 (by decide +kernel) (by decide +kernel)
theorem zw_2022 : Cond.instanceMethod yX9_packet ∈ zAll := zin 2022 (by decide +kernel) (by decide +kernel)
theorem zw_2023 : Cond.selects RX9 yX9_packet yX9_packet ∈ zAll := zin 2023 (by decide +kernel) (by decide +kernel)
theorem zw_2024 : Cond.code yX9_packet cX9_packet 3 (some .int) ∈ zAll := zin 2024 (by decide +kernel) (by decide +kernel)
theorem zcv_YL_law_144 : zLV YL_law 144 Y_X9_packet 2 RX9 := ⟨zw_2021, zw_2022, zw_2023, zw_124, zw_2024, by decide +kernel, by decide, by decide⟩
theorem zw_1386 : Cond.methodLink RL 145 yL_account ∈ zAll := zin 1386 (by decide +kernel) (by decide +kernel)
theorem zw_1387 : Cond.static yL_account ∈ zAll := zin 1387 (by decide +kernel) (by decide +kernel)
theorem zw_1388 : Cond.codeWith yL_account cL_account 5 (some .int) [(0, 9, 12, 19), (0, 9, 16, 13)] ∈ zAll := zin 1388 (by decide +kernel) (by decide +kernel)
theorem zls_law_account : lLS YL_law 145 YL_account 4 := ⟨zw_1386, zw_1387, zw_110, zw_1388, by decide +kernel, by decide, by decide⟩
theorem zw_2025 : Cond.methodLink RL 147 yX9_account ∈ zAll := zin 2025 (by decide +kernel) (by decide +kernel)
theorem zw_2026 : Cond.instanceMethod yX9_account ∈ zAll := zin 2026 (by decide +kernel) (by decide +kernel)
theorem zw_2027 : Cond.selects RX9 yX9_account yX9_account ∈ zAll := zin 2027 (by decide +kernel) (by decide +kernel)
theorem zw_2028 : Cond.code yX9_account cX9_account 3 (some .long) ∈ zAll := zin 2028 (by decide +kernel) (by decide +kernel)
theorem zcv_YL_law_147 : zLV YL_law 147 Y_X9_account 2 RX9 := ⟨zw_2025, zw_2026, zw_2027, zw_124, zw_2028, by decide +kernel, by decide, by decide⟩
theorem zw_1397 : Cond.methodLink RL 148 yL_decision ∈ zAll := zin 1397 (by decide +kernel) (by decide +kernel)
theorem zw_1398 : Cond.static yL_decision ∈ zAll := zin 1398 (by decide +kernel) (by decide +kernel)
theorem zw_1399 : Cond.codeWith yL_decision cL_decision 5 (some .int) [(0, 10, 13, 19), (0, 10, 17, 13)] ∈ zAll := zin 1399 (by decide +kernel) (by decide +kernel)
theorem zls_law_decision : lLS YL_law 148 YL_decision 4 := ⟨zw_1397, zw_1398, zw_110, zw_1399, by decide +kernel, by decide, by decide⟩
theorem zw_2041 : Cond.methodLink RL 150 yX9_decision ∈ zAll := zin 2041 (by decide +kernel) (by decide +kernel)
theorem zw_2042 : Cond.instanceMethod yX9_decision ∈ zAll := zin 2042 (by decide +kernel) (by decide +kernel)
theorem zw_2043 : Cond.selects RX9 yX9_decision yX9_decision ∈ zAll := zin 2043 (by decide +kernel) (by decide +kernel)
theorem zw_2044 : Cond.code yX9_decision cX9_decision 3 (some .int) ∈ zAll := zin 2044 (by decide +kernel) (by decide +kernel)
theorem zcv_YL_law_150 : zLV YL_law 150 Y_X9_decision 2 RX9 := ⟨zw_2041, zw_2042, zw_2043, zw_124, zw_2044, by decide +kernel, by decide, by decide⟩
theorem zw_933 : Cond.methodLink RL 151 yX8_amiss ∈ zAll := zin 933 (by decide +kernel) (by decide +kernel)
theorem zw_934 : Cond.instanceMethod yX8_amiss ∈ zAll := zin 934 (by decide +kernel) (by decide +kernel)
theorem zw_935 : Cond.selects RX8 yX8_amiss yX8_amiss ∈ zAll := zin 935 (by decide +kernel) (by decide +kernel)
theorem zw_936 : Cond.code yX8_amiss cX8_amiss 3 (some .int) ∈ zAll := zin 936 (by decide +kernel) (by decide +kernel)
theorem zcv_YL_law_151 : zLV YL_law 151 Y_X8_amiss 0 RX8 := ⟨zw_933, zw_934, zw_935, zw_111, zw_936, by decide +kernel, by decide, by decide⟩
theorem zw_2049 : Cond.methodLink RL 154 yX9_amiss ∈ zAll := zin 2049 (by decide +kernel) (by decide +kernel)
theorem zw_2050 : Cond.instanceMethod yX9_amiss ∈ zAll := zin 2050 (by decide +kernel) (by decide +kernel)
theorem zw_2051 : Cond.selects RX9 yX9_amiss yX9_amiss ∈ zAll := zin 2051 (by decide +kernel) (by decide +kernel)
theorem zw_2052 : Cond.code yX9_amiss cX9_amiss 3 (some .int) ∈ zAll := zin 2052 (by decide +kernel) (by decide +kernel)
theorem zcv_YL_law_154 : zLV YL_law 154 Y_X9_amiss 0 RX9 := ⟨zw_2049, zw_2050, zw_2051, zw_124, zw_2052, by decide +kernel, by decide, by decide⟩
theorem zw_945 : Cond.methodLink RL 155 yX8_average ∈ zAll := zin 945 (by decide +kernel) (by decide +kernel)
theorem zw_946 : Cond.instanceMethod yX8_average ∈ zAll := zin 946 (by decide +kernel) (by decide +kernel)
theorem zw_947 : Cond.selects RX8 yX8_average yX8_average ∈ zAll := zin 947 (by decide +kernel) (by decide +kernel)
theorem zw_948 : Cond.code yX8_average cX8_average 1 (some .double) ∈ zAll := zin 948 (by decide +kernel) (by decide +kernel)
theorem zcv_YL_law_155 : zLV YL_law 155 Y_X8_average 0 RX8 := ⟨zw_945, zw_946, zw_947, zw_111, zw_948, by decide +kernel, by decide, by decide⟩
theorem zw_2053 : Cond.methodLink RL 159 yX9_average ∈ zAll := zin 2053 (by decide +kernel) (by decide +kernel)
theorem zw_2054 : Cond.instanceMethod yX9_average ∈ zAll := zin 2054 (by decide +kernel) (by decide +kernel)
theorem zw_2055 : Cond.selects RX9 yX9_average yX9_average ∈ zAll := zin 2055 (by decide +kernel) (by decide +kernel)
theorem zw_2056 : Cond.code yX9_average cX9_average 1 (some .double) ∈ zAll := zin 2056 (by decide +kernel) (by decide +kernel)
theorem zcv_YL_law_159 : zLV YL_law 159 Y_X9_average 0 RX9 := ⟨zw_2053, zw_2054, zw_2055, zw_124, zw_2056, by decide +kernel, by decide, by decide⟩
theorem zw_950 : Cond.methodLink RL 160 yX8_lossShare ∈ zAll := zin 950 (by decide +kernel) (by decide +kernel)
theorem zw_951 : Cond.instanceMethod yX8_lossShare ∈ zAll := zin 951 (by decide +kernel) (by decide +kernel)
theorem zw_952 : Cond.selects RX8 yX8_lossShare yX8_lossShare ∈ zAll := zin 952 (by decide +kernel) (by decide +kernel)
theorem zw_953 : Cond.code yX8_lossShare cX8_lossShare 3 (some .float) ∈ zAll := zin 953 (by decide +kernel) (by decide +kernel)
theorem zcv_YL_law_160 : zLV YL_law 160 Y_X8_lossShare 0 RX8 := ⟨zw_950, zw_951, zw_952, zw_111, zw_953, by decide +kernel, by decide, by decide⟩
theorem zw_2058 : Cond.methodLink RL 164 yX9_lossShare ∈ zAll := zin 2058 (by decide +kernel) (by decide +kernel)
theorem zw_2059 : Cond.instanceMethod yX9_lossShare ∈ zAll := zin 2059 (by decide +kernel) (by decide +kernel)
theorem zw_2060 : Cond.selects RX9 yX9_lossShare yX9_lossShare ∈ zAll := zin 2060 (by decide +kernel) (by decide +kernel)
theorem zw_2061 : Cond.code yX9_lossShare cX9_lossShare 2 (some .float) ∈ zAll := zin 2061 (by decide +kernel) (by decide +kernel)
theorem zcv_YL_law_164 : zLV YL_law 164 Y_X9_lossShare 0 RX9 := ⟨zw_2058, zw_2059, zw_2060, zw_124, zw_2061, by decide +kernel, by decide, by decide⟩
theorem zw_966 : Cond.methodLink RL 165 yX8_fairness ∈ zAll := zin 966 (by decide +kernel) (by decide +kernel)
theorem zw_967 : Cond.instanceMethod yX8_fairness ∈ zAll := zin 967 (by decide +kernel) (by decide +kernel)
theorem zw_968 : Cond.selects RX8 yX8_fairness yX8_fairness ∈ zAll := zin 968 (by decide +kernel) (by decide +kernel)
theorem zw_969 : Cond.code yX8_fairness cX8_fairness 8 (some .double) ∈ zAll := zin 969 (by decide +kernel) (by decide +kernel)
theorem zcv_YL_law_165 : zLV YL_law 165 Y_X8_fairness 0 RX8 := ⟨zw_966, zw_967, zw_968, zw_111, zw_969, by decide +kernel, by decide, by decide⟩
theorem zw_2066 : Cond.methodLink RL 168 yX9_fairness ∈ zAll := zin 2066 (by decide +kernel) (by decide +kernel)
theorem zw_2067 : Cond.instanceMethod yX9_fairness ∈ zAll := zin 2067 (by decide +kernel) (by decide +kernel)
theorem zw_2068 : Cond.selects RX9 yX9_fairness yX9_fairness ∈ zAll := zin 2068 (by decide +kernel) (by decide +kernel)
theorem zw_2069 : Cond.code yX9_fairness cX9_fairness 6 (some .double) ∈ zAll := zin 2069 (by decide +kernel) (by decide +kernel)
theorem zcv_YL_law_168 : zLV YL_law 168 Y_X9_fairness 0 RX9 := ⟨zw_2066, zw_2067, zw_2068, zw_124, zw_2069, by decide +kernel, by decide, by decide⟩
theorem zw_1405 : Cond.methodLink RL 169 yL_meanWait ∈ zAll := zin 1405 (by decide +kernel) (by decide +kernel)
theorem zw_1406 : Cond.static yL_meanWait ∈ zAll := zin 1406 (by decide +kernel) (by decide +kernel)
theorem zw_1407 : Cond.codeWith yL_meanWait cL_meanWait 4 (some .int) [(0, 8, 11, 19)] ∈ zAll := zin 1407 (by decide +kernel) (by decide +kernel)
theorem zls_law_meanWait : lLS YL_law 169 YL_meanWait 3 := ⟨zw_1405, zw_1406, zw_110, zw_1407, by decide +kernel, by decide, by decide⟩
theorem zw_2070 : Cond.methodLink RL 172 yX9_meanWait ∈ zAll := zin 2070 (by decide +kernel) (by decide +kernel)
theorem zw_2071 : Cond.instanceMethod yX9_meanWait ∈ zAll := zin 2071 (by decide +kernel) (by decide +kernel)
theorem zw_2072 : Cond.selects RX9 yX9_meanWait yX9_meanWait ∈ zAll := zin 2072 (by decide +kernel) (by decide +kernel)
theorem zw_2073 : Cond.code yX9_meanWait cX9_meanWait 2 (some .double) ∈ zAll := zin 2073 (by decide +kernel) (by decide +kernel)
theorem zcv_YL_law_172 : zLV YL_law 172 Y_X9_meanWait 1 RX9 := ⟨zw_2070, zw_2071, zw_2072, zw_124, zw_2073, by decide +kernel, by decide, by decide⟩
theorem zw_1412 : Cond.methodLink RL 173 yL_base ∈ zAll := zin 1412 (by decide +kernel) (by decide +kernel)
theorem zw_1413 : Cond.static yL_base ∈ zAll := zin 1413 (by decide +kernel) (by decide +kernel)
theorem zw_1414 : Cond.codeWith yL_base cL_base 4 (some .int) [(0, 9, 12, 13)] ∈ zAll := zin 1414 (by decide +kernel) (by decide +kernel)
theorem zls_law_base : lLS YL_law 173 YL_base 3 := ⟨zw_1412, zw_1413, zw_110, zw_1414, by decide +kernel, by decide, by decide⟩
theorem zw_2074 : Cond.methodLink RL 175 yX9_base ∈ zAll := zin 2074 (by decide +kernel) (by decide +kernel)
theorem zw_2075 : Cond.instanceMethod yX9_base ∈ zAll := zin 2075 (by decide +kernel) (by decide +kernel)
theorem zw_2076 : Cond.selects RX9 yX9_base yX9_base ∈ zAll := zin 2076 (by decide +kernel) (by decide +kernel)
theorem zw_2077 : Cond.code yX9_base cX9_base 2 (some .int) ∈ zAll := zin 2077 (by decide +kernel) (by decide +kernel)
theorem zcv_YL_law_175 : zLV YL_law 175 Y_X9_base 1 RX9 := ⟨zw_2074, zw_2075, zw_2076, zw_124, zw_2077, by decide +kernel, by decide, by decide⟩
theorem zw_1420 : Cond.methodLink RL 176 yL_chance ∈ zAll := zin 1420 (by decide +kernel) (by decide +kernel)
theorem zw_1421 : Cond.static yL_chance ∈ zAll := zin 1421 (by decide +kernel) (by decide +kernel)
theorem zw_1422 : Cond.codeWith yL_chance cL_chance 5 (some .int) [(0, 10, 13, 13)] ∈ zAll := zin 1422 (by decide +kernel) (by decide +kernel)
theorem zls_law_chance : lLS YL_law 176 YL_chance 4 := ⟨zw_1420, zw_1421, zw_110, zw_1422, by decide +kernel, by decide, by decide⟩
theorem zw_2079 : Cond.methodLink RL 178 yX9_chance ∈ zAll := zin 2079 (by decide +kernel) (by decide +kernel)
theorem zw_2080 : Cond.instanceMethod yX9_chance ∈ zAll := zin 2080 (by decide +kernel) (by decide +kernel)
theorem zw_2081 : Cond.selects RX9 yX9_chance yX9_chance ∈ zAll := zin 2081 (by decide +kernel) (by decide +kernel)
theorem zw_2082 : Cond.code yX9_chance cX9_chance 3 (some .int) ∈ zAll := zin 2082 (by decide +kernel) (by decide +kernel)
theorem zcv_YL_law_178 : zLV YL_law 178 Y_X9_chance 2 RX9 := ⟨zw_2079, zw_2080, zw_2081, zw_124, zw_2082, by decide +kernel, by decide, by decide⟩
theorem zw_970 : Cond.methodLink RL 179 yX8_next ∈ zAll := zin 970 (by decide +kernel) (by decide +kernel)
theorem zw_971 : Cond.instanceMethod yX8_next ∈ zAll := zin 971 (by decide +kernel) (by decide +kernel)
theorem zw_972 : Cond.selects RX8 yX8_next yX8_next ∈ zAll := zin 972 (by decide +kernel) (by decide +kernel)
theorem zw_973 : Cond.code yX8_next cX8_next 2 (some .int) ∈ zAll := zin 973 (by decide +kernel) (by decide +kernel)
theorem zcv_YL_law_179 : zLV YL_law 179 Y_X8_next 0 RX8 := ⟨zw_970, zw_971, zw_972, zw_111, zw_973, by decide +kernel, by decide, by decide⟩
theorem zw_2083 : Cond.methodLink RL 182 yX9_next ∈ zAll := zin 2083 (by decide +kernel) (by decide +kernel)
theorem zw_2084 : Cond.instanceMethod yX9_next ∈ zAll := zin 2084 (by decide +kernel) (by decide +kernel)
theorem zw_2085 : Cond.selects RX9 yX9_next yX9_next ∈ zAll := zin 2085 (by decide +kernel) (by decide +kernel)
theorem zw_2086 : Cond.code yX9_next cX9_next 1 (some .int) ∈ zAll := zin 2086 (by decide +kernel) (by decide +kernel)
theorem zcv_YL_law_182 : zLV YL_law 182 Y_X9_next 0 RX9 := ⟨zw_2083, zw_2084, zw_2085, zw_124, zw_2086, by decide +kernel, by decide, by decide⟩
theorem zw_976 : Cond.methodLink RL 183 yX8_nextChance ∈ zAll := zin 976 (by decide +kernel) (by decide +kernel)
theorem zw_977 : Cond.instanceMethod yX8_nextChance ∈ zAll := zin 977 (by decide +kernel) (by decide +kernel)
theorem zw_978 : Cond.selects RX8 yX8_nextChance yX8_nextChance ∈ zAll := zin 978 (by decide +kernel) (by decide +kernel)
theorem zw_979 : Cond.code yX8_nextChance cX8_nextChance 3 (some .int) ∈ zAll := zin 979 (by decide +kernel) (by decide +kernel)
theorem zcv_YL_law_183 : zLV YL_law 183 Y_X8_nextChance 0 RX8 := ⟨zw_976, zw_977, zw_978, zw_111, zw_979, by decide +kernel, by decide, by decide⟩
theorem zw_2087 : Cond.methodLink RL 186 yX9_nextChance ∈ zAll := zin 2087 (by decide +kernel) (by decide +kernel)
theorem zw_2088 : Cond.instanceMethod yX9_nextChance ∈ zAll := zin 2088 (by decide +kernel) (by decide +kernel)
theorem zw_2089 : Cond.selects RX9 yX9_nextChance yX9_nextChance ∈ zAll := zin 2089 (by decide +kernel) (by decide +kernel)
theorem zw_2090 : Cond.code yX9_nextChance cX9_nextChance 1 (some .int) ∈ zAll := zin 2090 (by decide +kernel) (by decide +kernel)
theorem zcv_YL_law_186 : zLV YL_law 186 Y_X9_nextChance 0 RX9 := ⟨zw_2087, zw_2088, zw_2089, zw_124, zw_2090, by decide +kernel, by decide, by decide⟩
theorem zw_1427 : Cond.methodLink RL 187 yL_burst ∈ zAll := zin 1427 (by decide +kernel) (by decide +kernel)
theorem zw_1428 : Cond.static yL_burst ∈ zAll := zin 1428 (by decide +kernel) (by decide +kernel)
theorem zw_1429 : Cond.codeWith yL_burst cL_burst 4 (some .int) [(0, 8, 11, 13)] ∈ zAll := zin 1429 (by decide +kernel) (by decide +kernel)
theorem zls_law_burst : lLS YL_law 187 YL_burst 3 := ⟨zw_1427, zw_1428, zw_110, zw_1429, by decide +kernel, by decide, by decide⟩
theorem zw_2095 : Cond.methodLink RL 189 yX9_burst ∈ zAll := zin 2095 (by decide +kernel) (by decide +kernel)
theorem zw_2096 : Cond.instanceMethod yX9_burst ∈ zAll := zin 2096 (by decide +kernel) (by decide +kernel)
theorem zw_2097 : Cond.selects RX9 yX9_burst yX9_burst ∈ zAll := zin 2097 (by decide +kernel) (by decide +kernel)
theorem zw_2098 : Cond.code yX9_burst cX9_burst 2 (some .double) ∈ zAll := zin 2098 (by decide +kernel) (by decide +kernel)
theorem zcv_YL_law_189 : zLV YL_law 189 Y_X9_burst 1 RX9 := ⟨zw_2095, zw_2096, zw_2097, zw_124, zw_2098, by decide +kernel, by decide, by decide⟩
theorem zw_1440 : Cond.methodLink RL 190 yL_sureBurst ∈ zAll := zin 1440 (by decide +kernel) (by decide +kernel)
theorem zw_1441 : Cond.static yL_sureBurst ∈ zAll := zin 1441 (by decide +kernel) (by decide +kernel)
theorem zw_1442 : Cond.codeWith yL_sureBurst cL_sureBurst 4 (some .int) [(0, 9, 12, 13)] ∈ zAll := zin 1442 (by decide +kernel) (by decide +kernel)
theorem zls_law_sureBurst : lLS YL_law 190 YL_sureBurst 3 := ⟨zw_1440, zw_1441, zw_110, zw_1442, by decide +kernel, by decide, by decide⟩
theorem zw_2104 : Cond.methodLink RL 192 yX9_sureBurst ∈ zAll := zin 2104 (by decide +kernel) (by decide +kernel)
theorem zw_2105 : Cond.instanceMethod yX9_sureBurst ∈ zAll := zin 2105 (by decide +kernel) (by decide +kernel)
theorem zw_2106 : Cond.selects RX9 yX9_sureBurst yX9_sureBurst ∈ zAll := zin 2106 (by decide +kernel) (by decide +kernel)
theorem zw_2107 : Cond.code yX9_sureBurst cX9_sureBurst 3 (some .int) ∈ zAll := zin 2107 (by decide +kernel) (by decide +kernel)
theorem zcv_YL_law_192 : zLV YL_law 192 Y_X9_sureBurst 1 RX9 := ⟨zw_2104, zw_2105, zw_2106, zw_124, zw_2107, by decide +kernel, by decide, by decide⟩
theorem zw_1448 : Cond.methodLink RL 193 yL_accountIn ∈ zAll := zin 1448 (by decide +kernel) (by decide +kernel)
theorem zw_1449 : Cond.static yL_accountIn ∈ zAll := zin 1449 (by decide +kernel) (by decide +kernel)
theorem zw_1450 : Cond.codeWith yL_accountIn cL_accountIn 6 (some .int) [(0, 11, 14, 19), (0, 11, 18, 13)] ∈ zAll := zin 1450 (by decide +kernel) (by decide +kernel)
theorem zls_law_accountIn : lLS YL_law 193 YL_accountIn 5 := ⟨zw_1448, zw_1449, zw_110, zw_1450, by decide +kernel, by decide, by decide⟩
theorem zw_2109 : Cond.methodLink RL 196 yX9_accountIn ∈ zAll := zin 2109 (by decide +kernel) (by decide +kernel)
theorem zw_2110 : Cond.instanceMethod yX9_accountIn ∈ zAll := zin 2110 (by decide +kernel) (by decide +kernel)
theorem zw_2111 : Cond.selects RX9 yX9_accountIn yX9_accountIn ∈ zAll := zin 2111 (by decide +kernel) (by decide +kernel)
theorem zw_2112 : Cond.code yX9_accountIn cX9_accountIn 5 (some .long) ∈ zAll := zin 2112 (by decide +kernel) (by decide +kernel)
theorem zcv_YL_law_196 : zLV YL_law 196 Y_X9_accountIn 3 RX9 := ⟨zw_2109, zw_2110, zw_2111, zw_124, zw_2112, by decide +kernel, by decide, by decide⟩
theorem zw_1459 : Cond.methodLink RL 197 yL_queueIn ∈ zAll := zin 1459 (by decide +kernel) (by decide +kernel)
theorem zw_1460 : Cond.static yL_queueIn ∈ zAll := zin 1460 (by decide +kernel) (by decide +kernel)
theorem zw_1461 : Cond.codeWith yL_queueIn cL_queueIn 4 (some .int) [(0, 9, 12, 13)] ∈ zAll := zin 1461 (by decide +kernel) (by decide +kernel)
theorem zls_law_queueIn : lLS YL_law 197 YL_queueIn 3 := ⟨zw_1459, zw_1460, zw_110, zw_1461, by decide +kernel, by decide, by decide⟩
theorem zw_2117 : Cond.methodLink RL 199 yX9_queueIn ∈ zAll := zin 2117 (by decide +kernel) (by decide +kernel)
theorem zw_2118 : Cond.instanceMethod yX9_queueIn ∈ zAll := zin 2118 (by decide +kernel) (by decide +kernel)
theorem zw_2119 : Cond.selects RX9 yX9_queueIn yX9_queueIn ∈ zAll := zin 2119 (by decide +kernel) (by decide +kernel)
theorem zw_2120 : Cond.code yX9_queueIn cX9_queueIn 2 (some .int) ∈ zAll := zin 2120 (by decide +kernel) (by decide +kernel)
theorem zcv_YL_law_199 : zLV YL_law 199 Y_X9_queueIn 1 RX9 := ⟨zw_2117, zw_2118, zw_2119, zw_124, zw_2120, by decide +kernel, by decide, by decide⟩
theorem zw_1466 : Cond.methodLink RL 200 yL_averageIn ∈ zAll := zin 1466 (by decide +kernel) (by decide +kernel)
theorem zw_1467 : Cond.static yL_averageIn ∈ zAll := zin 1467 (by decide +kernel) (by decide +kernel)
theorem zw_1468 : Cond.codeWith yL_averageIn cL_averageIn 4 (some .int) [(0, 9, 12, 13)] ∈ zAll := zin 1468 (by decide +kernel) (by decide +kernel)
theorem zls_law_averageIn : lLS YL_law 200 YL_averageIn 3 := ⟨zw_1466, zw_1467, zw_110, zw_1468, by decide +kernel, by decide, by decide⟩
theorem zw_2121 : Cond.methodLink RL 202 yX9_averageIn ∈ zAll := zin 2121 (by decide +kernel) (by decide +kernel)
theorem zw_2122 : Cond.instanceMethod yX9_averageIn ∈ zAll := zin 2122 (by decide +kernel) (by decide +kernel)
theorem zw_2123 : Cond.selects RX9 yX9_averageIn yX9_averageIn ∈ zAll := zin 2123 (by decide +kernel) (by decide +kernel)
theorem zw_2124 : Cond.code yX9_averageIn cX9_averageIn 2 (some .int) ∈ zAll := zin 2124 (by decide +kernel) (by decide +kernel)
theorem zcv_YL_law_202 : zLV YL_law 202 Y_X9_averageIn 1 RX9 := ⟨zw_2121, zw_2122, zw_2123, zw_124, zw_2124, by decide +kernel, by decide, by decide⟩
theorem zw_1473 : Cond.methodLink RL 203 yL_windowIn ∈ zAll := zin 1473 (by decide +kernel) (by decide +kernel)
theorem zw_1474 : Cond.static yL_windowIn ∈ zAll := zin 1474 (by decide +kernel) (by decide +kernel)
theorem zw_1475 : Cond.codeWith yL_windowIn cL_windowIn 5 (some .int) [(0, 10, 13, 19), (0, 10, 17, 13)] ∈ zAll := zin 1475 (by decide +kernel) (by decide +kernel)
theorem zls_law_windowIn : lLS YL_law 203 YL_windowIn 4 := ⟨zw_1473, zw_1474, zw_110, zw_1475, by decide +kernel, by decide, by decide⟩
theorem zw_2125 : Cond.methodLink RL 205 yX9_windowIn ∈ zAll := zin 2125 (by decide +kernel) (by decide +kernel)
theorem zw_2126 : Cond.instanceMethod yX9_windowIn ∈ zAll := zin 2126 (by decide +kernel) (by decide +kernel)
theorem zw_2127 : Cond.selects RX9 yX9_windowIn yX9_windowIn ∈ zAll := zin 2127 (by decide +kernel) (by decide +kernel)
theorem zw_2128 : Cond.code yX9_windowIn cX9_windowIn 3 (some .int) ∈ zAll := zin 2128 (by decide +kernel) (by decide +kernel)
theorem zcv_YL_law_205 : zLV YL_law 205 Y_X9_windowIn 2 RX9 := ⟨zw_2125, zw_2126, zw_2127, zw_124, zw_2128, by decide +kernel, by decide, by decide⟩
theorem zw_1480 : Cond.methodLink RL 206 yL_longest ∈ zAll := zin 1480 (by decide +kernel) (by decide +kernel)
theorem zw_1481 : Cond.static yL_longest ∈ zAll := zin 1481 (by decide +kernel) (by decide +kernel)
theorem zw_1482 : Cond.codeWith yL_longest cL_longest 4 (some .int) [(0, 9, 12, 13)] ∈ zAll := zin 1482 (by decide +kernel) (by decide +kernel)
theorem zls_law_longest : lLS YL_law 206 YL_longest 3 := ⟨zw_1480, zw_1481, zw_110, zw_1482, by decide +kernel, by decide, by decide⟩
theorem zw_2129 : Cond.methodLink RL 208 yX9_longest ∈ zAll := zin 2129 (by decide +kernel) (by decide +kernel)
theorem zw_2130 : Cond.instanceMethod yX9_longest ∈ zAll := zin 2130 (by decide +kernel) (by decide +kernel)
theorem zw_2131 : Cond.selects RX9 yX9_longest yX9_longest ∈ zAll := zin 2131 (by decide +kernel) (by decide +kernel)
theorem zw_2132 : Cond.code yX9_longest cX9_longest 4 (some .int) ∈ zAll := zin 2132 (by decide +kernel) (by decide +kernel)
theorem zcv_YL_law_208 : zLV YL_law 208 Y_X9_longest 1 RX9 := ⟨zw_2129, zw_2130, zw_2131, zw_124, zw_2132, by decide +kernel, by decide, by decide⟩
theorem zw_982 : Cond.methodLink RL 209 yX8_dropIn ∈ zAll := zin 982 (by decide +kernel) (by decide +kernel)
theorem zw_983 : Cond.instanceMethod yX8_dropIn ∈ zAll := zin 983 (by decide +kernel) (by decide +kernel)
theorem zw_984 : Cond.selects RX8 yX8_dropIn yX8_dropIn ∈ zAll := zin 984 (by decide +kernel) (by decide +kernel)
theorem zw_985 : Cond.code yX8_dropIn cX8_dropIn 4 (some .int) ∈ zAll := zin 985 (by decide +kernel) (by decide +kernel)
theorem zcv_YL_law_209 : zLV YL_law 209 Y_X8_dropIn 0 RX8 := ⟨zw_982, zw_983, zw_984, zw_111, zw_985, by decide +kernel, by decide, by decide⟩
theorem zw_2133 : Cond.methodLink RL 212 yX9_dropIn ∈ zAll := zin 2133 (by decide +kernel) (by decide +kernel)
theorem zw_2134 : Cond.instanceMethod yX9_dropIn ∈ zAll := zin 2134 (by decide +kernel) (by decide +kernel)
theorem zw_2135 : Cond.selects RX9 yX9_dropIn yX9_dropIn ∈ zAll := zin 2135 (by decide +kernel) (by decide +kernel)
theorem zw_2136 : Cond.code yX9_dropIn cX9_dropIn 3 (some .int) ∈ zAll := zin 2136 (by decide +kernel) (by decide +kernel)
theorem zcv_YL_law_212 : zLV YL_law 212 Y_X9_dropIn 0 RX9 := ⟨zw_2133, zw_2134, zw_2135, zw_124, zw_2136, by decide +kernel, by decide, by decide⟩
theorem zw_1488 : Cond.methodLink RL 213 yL_bestWeight ∈ zAll := zin 1488 (by decide +kernel) (by decide +kernel)
theorem zw_1489 : Cond.static yL_bestWeight ∈ zAll := zin 1489 (by decide +kernel) (by decide +kernel)
theorem zw_1490 : Cond.codeWith yL_bestWeight cL_bestWeight 4 (some .int) [(0, 9, 12, 13)] ∈ zAll := zin 1490 (by decide +kernel) (by decide +kernel)
theorem zls_law_bestWeight : lLS YL_law 213 YL_bestWeight 3 := ⟨zw_1488, zw_1489, zw_110, zw_1490, by decide +kernel, by decide, by decide⟩
theorem zw_2137 : Cond.methodLink RL 215 yX9_bestWeight ∈ zAll := zin 2137 (by decide +kernel) (by decide +kernel)
theorem zw_2138 : Cond.instanceMethod yX9_bestWeight ∈ zAll := zin 2138 (by decide +kernel) (by decide +kernel)
theorem zw_2139 : Cond.selects RX9 yX9_bestWeight yX9_bestWeight ∈ zAll := zin 2139 (by decide +kernel) (by decide +kernel)
theorem zw_2140 : Cond.code yX9_bestWeight cX9_bestWeight 6 (some .int) ∈ zAll := zin 2140 (by decide +kernel) (by decide +kernel)
theorem zcv_YL_law_215 : zLV YL_law 215 Y_X9_bestWeight 1 RX9 := ⟨zw_2137, zw_2138, zw_2139, zw_124, zw_2140, by decide +kernel, by decide, by decide⟩
theorem zw_1500 : Cond.methodLink RL 216 yL_bestTop ∈ zAll := zin 1500 (by decide +kernel) (by decide +kernel)
theorem zw_1501 : Cond.static yL_bestTop ∈ zAll := zin 1501 (by decide +kernel) (by decide +kernel)
theorem zw_1502 : Cond.codeWith yL_bestTop cL_bestTop 4 (some .int) [(0, 9, 12, 13)] ∈ zAll := zin 1502 (by decide +kernel) (by decide +kernel)
theorem zls_law_bestTop : lLS YL_law 216 YL_bestTop 3 := ⟨zw_1500, zw_1501, zw_110, zw_1502, by decide +kernel, by decide, by decide⟩
theorem zw_2149 : Cond.methodLink RL 218 yX9_bestTop ∈ zAll := zin 2149 (by decide +kernel) (by decide +kernel)
theorem zw_2150 : Cond.instanceMethod yX9_bestTop ∈ zAll := zin 2150 (by decide +kernel) (by decide +kernel)
theorem zw_2151 : Cond.selects RX9 yX9_bestTop yX9_bestTop ∈ zAll := zin 2151 (by decide +kernel) (by decide +kernel)
theorem zw_2152 : Cond.code yX9_bestTop cX9_bestTop 6 (some .int) ∈ zAll := zin 2152 (by decide +kernel) (by decide +kernel)
theorem zcv_YL_law_218 : zLV YL_law 218 Y_X9_bestTop 1 RX9 := ⟨zw_2149, zw_2150, zw_2151, zw_124, zw_2152, by decide +kernel, by decide, by decide⟩
theorem zw_1507 : Cond.methodLink RL 219 yL_gain ∈ zAll := zin 1507 (by decide +kernel) (by decide +kernel)
theorem zw_1508 : Cond.static yL_gain ∈ zAll := zin 1508 (by decide +kernel) (by decide +kernel)
theorem zw_1509 : Cond.codeWith yL_gain cL_gain 4 (some .int) [(0, 8, 11, 13)] ∈ zAll := zin 1509 (by decide +kernel) (by decide +kernel)
theorem zls_law_gain : lLS YL_law 219 YL_gain 3 := ⟨zw_1507, zw_1508, zw_110, zw_1509, by decide +kernel, by decide, by decide⟩
theorem zw_2153 : Cond.methodLink RL 221 yX9_gain ∈ zAll := zin 2153 (by decide +kernel) (by decide +kernel)
theorem zw_2154 : Cond.instanceMethod yX9_gain ∈ zAll := zin 2154 (by decide +kernel) (by decide +kernel)
theorem zw_2155 : Cond.selects RX9 yX9_gain yX9_gain ∈ zAll := zin 2155 (by decide +kernel) (by decide +kernel)
theorem zw_2156 : Cond.code yX9_gain cX9_gain 4 (some .long) ∈ zAll := zin 2156 (by decide +kernel) (by decide +kernel)
theorem zcv_YL_law_221 : zLV YL_law 221 Y_X9_gain 1 RX9 := ⟨zw_2153, zw_2154, zw_2155, zw_124, zw_2156, by decide +kernel, by decide, by decide⟩
theorem zw_1514 : Cond.methodLink RL 222 yL_tick ∈ zAll := zin 1514 (by decide +kernel) (by decide +kernel)
theorem zw_1515 : Cond.static yL_tick ∈ zAll := zin 1515 (by decide +kernel) (by decide +kernel)
theorem zw_1516 : Cond.codeWith yL_tick cL_tick 4 (some .int) [(0, 9, 12, 13)] ∈ zAll := zin 1516 (by decide +kernel) (by decide +kernel)
theorem zls_law_tick : lLS YL_law 222 YL_tick 3 := ⟨zw_1514, zw_1515, zw_110, zw_1516, by decide +kernel, by decide, by decide⟩
theorem zw_2157 : Cond.methodLink RL 224 yX9_tick ∈ zAll := zin 2157 (by decide +kernel) (by decide +kernel)
theorem zw_2158 : Cond.instanceMethod yX9_tick ∈ zAll := zin 2158 (by decide +kernel) (by decide +kernel)
theorem zw_2159 : Cond.selects RX9 yX9_tick yX9_tick ∈ zAll := zin 2159 (by decide +kernel) (by decide +kernel)
theorem zw_2160 : Cond.code yX9_tick cX9_tick 2 (some .int) ∈ zAll := zin 2160 (by decide +kernel) (by decide +kernel)
theorem zcv_YL_law_224 : zLV YL_law 224 Y_X9_tick 1 RX9 := ⟨zw_2157, zw_2158, zw_2159, zw_124, zw_2160, by decide +kernel, by decide, by decide⟩
theorem zw_1522 : Cond.methodLink RL 225 yL_send ∈ zAll := zin 1522 (by decide +kernel) (by decide +kernel)
theorem zw_1523 : Cond.static yL_send ∈ zAll := zin 1523 (by decide +kernel) (by decide +kernel)
theorem zw_1524 : Cond.codeWith yL_send cL_send 5 (some .int) [(0, 10, 13, 19), (0, 10, 17, 13)] ∈ zAll := zin 1524 (by decide +kernel) (by decide +kernel)
theorem zls_law_send : lLS YL_law 225 YL_send 4 := ⟨zw_1522, zw_1523, zw_110, zw_1524, by decide +kernel, by decide, by decide⟩
theorem zw_2169 : Cond.methodLink RL 227 yX9_send ∈ zAll := zin 2169 (by decide +kernel) (by decide +kernel)
theorem zw_2170 : Cond.instanceMethod yX9_send ∈ zAll := zin 2170 (by decide +kernel) (by decide +kernel)
theorem zw_2171 : Cond.selects RX9 yX9_send yX9_send ∈ zAll := zin 2171 (by decide +kernel) (by decide +kernel)
theorem zw_2172 : Cond.code yX9_send cX9_send 3 (some .int) ∈ zAll := zin 2172 (by decide +kernel) (by decide +kernel)
theorem zcv_YL_law_227 : zLV YL_law 227 Y_X9_send 2 RX9 := ⟨zw_2169, zw_2170, zw_2171, zw_124, zw_2172, by decide +kernel, by decide, by decide⟩
theorem zw_1530 : Cond.methodLink RL 228 yL_setLimits ∈ zAll := zin 1530 (by decide +kernel) (by decide +kernel)
theorem zw_1531 : Cond.static yL_setLimits ∈ zAll := zin 1531 (by decide +kernel) (by decide +kernel)
theorem zw_1532 : Cond.codeWith yL_setLimits cL_setLimits 5 (some .int) [(0, 10, 13, 13)] ∈ zAll := zin 1532 (by decide +kernel) (by decide +kernel)
theorem zls_law_setLimits : lLS YL_law 228 YL_setLimits 4 := ⟨zw_1530, zw_1531, zw_110, zw_1532, by decide +kernel, by decide, by decide⟩
theorem zw_2173 : Cond.methodLink RL 230 yX9_setLimits ∈ zAll := zin 2173 (by decide +kernel) (by decide +kernel)
theorem zw_2174 : Cond.instanceMethod yX9_setLimits ∈ zAll := zin 2174 (by decide +kernel) (by decide +kernel)
theorem zw_2175 : Cond.selects RX9 yX9_setLimits yX9_setLimits ∈ zAll := zin 2175 (by decide +kernel) (by decide +kernel)
theorem zw_2176 : Cond.code yX9_setLimits cX9_setLimits 3 (some .int) ∈ zAll := zin 2176 (by decide +kernel) (by decide +kernel)
theorem zcv_YL_law_230 : zLV YL_law 230 Y_X9_setLimits 2 RX9 := ⟨zw_2173, zw_2174, zw_2175, zw_124, zw_2176, by decide +kernel, by decide, by decide⟩
theorem zw_1538 : Cond.methodLink RL 231 yL_setTop ∈ zAll := zin 1538 (by decide +kernel) (by decide +kernel)
theorem zw_1539 : Cond.static yL_setTop ∈ zAll := zin 1539 (by decide +kernel) (by decide +kernel)
theorem zw_1540 : Cond.codeWith yL_setTop cL_setTop 4 (some .int) [(0, 9, 12, 13)] ∈ zAll := zin 1540 (by decide +kernel) (by decide +kernel)
theorem zls_law_setTop : lLS YL_law 231 YL_setTop 3 := ⟨zw_1538, zw_1539, zw_110, zw_1540, by decide +kernel, by decide, by decide⟩
theorem zw_2177 : Cond.methodLink RL 233 yX9_setTop ∈ zAll := zin 2177 (by decide +kernel) (by decide +kernel)
theorem zw_2178 : Cond.instanceMethod yX9_setTop ∈ zAll := zin 2178 (by decide +kernel) (by decide +kernel)
theorem zw_2179 : Cond.selects RX9 yX9_setTop yX9_setTop ∈ zAll := zin 2179 (by decide +kernel) (by decide +kernel)
theorem zw_2180 : Cond.code yX9_setTop cX9_setTop 2 (some .int) ∈ zAll := zin 2180 (by decide +kernel) (by decide +kernel)
theorem zcv_YL_law_233 : zLV YL_law 233 Y_X9_setTop 1 RX9 := ⟨zw_2177, zw_2178, zw_2179, zw_124, zw_2180, by decide +kernel, by decide, by decide⟩
theorem zw_1546 : Cond.methodLink RL 234 yL_setWeight ∈ zAll := zin 1546 (by decide +kernel) (by decide +kernel)
theorem zw_1547 : Cond.static yL_setWeight ∈ zAll := zin 1547 (by decide +kernel) (by decide +kernel)
theorem zw_1548 : Cond.codeWith yL_setWeight cL_setWeight 4 (some .int) [(0, 9, 12, 13)] ∈ zAll := zin 1548 (by decide +kernel) (by decide +kernel)
theorem zls_law_setWeight : lLS YL_law 234 YL_setWeight 3 := ⟨zw_1546, zw_1547, zw_110, zw_1548, by decide +kernel, by decide, by decide⟩
theorem zw_2185 : Cond.methodLink RL 236 yX9_setWeight ∈ zAll := zin 2185 (by decide +kernel) (by decide +kernel)
theorem zw_2186 : Cond.instanceMethod yX9_setWeight ∈ zAll := zin 2186 (by decide +kernel) (by decide +kernel)
theorem zw_2187 : Cond.selects RX9 yX9_setWeight yX9_setWeight ∈ zAll := zin 2187 (by decide +kernel) (by decide +kernel)
theorem zw_2188 : Cond.code yX9_setWeight cX9_setWeight 2 (some .int) ∈ zAll := zin 2188 (by decide +kernel) (by decide +kernel)
theorem zcv_YL_law_236 : zLV YL_law 236 Y_X9_setWeight 1 RX9 := ⟨zw_2185, zw_2186, zw_2187, zw_124, zw_2188, by decide +kernel, by decide, by decide⟩
theorem zw_1554 : Cond.methodLink RL 237 yL_setGentle ∈ zAll := zin 1554 (by decide +kernel) (by decide +kernel)
theorem zw_1555 : Cond.static yL_setGentle ∈ zAll := zin 1555 (by decide +kernel) (by decide +kernel)
theorem zw_1556 : Cond.codeWith yL_setGentle cL_setGentle 4 (some .int) [(0, 9, 12, 13)] ∈ zAll := zin 1556 (by decide +kernel) (by decide +kernel)
theorem zls_law_setGentle : lLS YL_law 237 YL_setGentle 3 := ⟨zw_1554, zw_1555, zw_110, zw_1556, by decide +kernel, by decide, by decide⟩
theorem zw_2189 : Cond.methodLink RL 239 yX9_setGentle ∈ zAll := zin 2189 (by decide +kernel) (by decide +kernel)
theorem zw_2190 : Cond.instanceMethod yX9_setGentle ∈ zAll := zin 2190 (by decide +kernel) (by decide +kernel)
theorem zw_2191 : Cond.selects RX9 yX9_setGentle yX9_setGentle ∈ zAll := zin 2191 (by decide +kernel) (by decide +kernel)
theorem zw_2192 : Cond.code yX9_setGentle cX9_setGentle 2 (some .int) ∈ zAll := zin 2192 (by decide +kernel) (by decide +kernel)
theorem zcv_YL_law_239 : zLV YL_law 239 Y_X9_setGentle 1 RX9 := ⟨zw_2189, zw_2190, zw_2191, zw_124, zw_2192, by decide +kernel, by decide, by decide⟩
theorem zw_1562 : Cond.methodLink RL 240 yL_setOn ∈ zAll := zin 1562 (by decide +kernel) (by decide +kernel)
theorem zw_1563 : Cond.static yL_setOn ∈ zAll := zin 1563 (by decide +kernel) (by decide +kernel)
theorem zw_1564 : Cond.codeWith yL_setOn cL_setOn 5 (some .int) [(0, 10, 13, 19)] ∈ zAll := zin 1564 (by decide +kernel) (by decide +kernel)
theorem zls_law_setOn : lLS YL_law 240 YL_setOn 4 := ⟨zw_1562, zw_1563, zw_110, zw_1564, by decide +kernel, by decide, by decide⟩
theorem zw_2193 : Cond.methodLink RL 243 yX9_setOn ∈ zAll := zin 2193 (by decide +kernel) (by decide +kernel)
theorem zw_2194 : Cond.instanceMethod yX9_setOn ∈ zAll := zin 2194 (by decide +kernel) (by decide +kernel)
theorem zw_2195 : Cond.selects RX9 yX9_setOn yX9_setOn ∈ zAll := zin 2195 (by decide +kernel) (by decide +kernel)
theorem zw_2196 : Cond.code yX9_setOn cX9_setOn 3 (some .int) ∈ zAll := zin 2196 (by decide +kernel) (by decide +kernel)
theorem zcv_YL_law_243 : zLV YL_law 243 Y_X9_setOn 2 RX9 := ⟨zw_2193, zw_2194, zw_2195, zw_124, zw_2196, by decide +kernel, by decide, by decide⟩
theorem zw_987 : Cond.methodLink RL 244 yX8_report ∈ zAll := zin 987 (by decide +kernel) (by decide +kernel)
theorem zw_988 : Cond.instanceMethod yX8_report ∈ zAll := zin 988 (by decide +kernel) (by decide +kernel)
theorem zw_989 : Cond.selects RX8 yX8_report yX8_report ∈ zAll := zin 989 (by decide +kernel) (by decide +kernel)
theorem zw_990 : Cond.code yX8_report cX8_report 2 (some .int) ∈ zAll := zin 990 (by decide +kernel) (by decide +kernel)
theorem zcv_YL_law_244 : zLV YL_law 244 Y_X8_report 0 RX8 := ⟨zw_987, zw_988, zw_989, zw_111, zw_990, by decide +kernel, by decide, by decide⟩
theorem zw_2197 : Cond.methodLink RL 247 yX9_report ∈ zAll := zin 2197 (by decide +kernel) (by decide +kernel)
theorem zw_2198 : Cond.instanceMethod yX9_report ∈ zAll := zin 2198 (by decide +kernel) (by decide +kernel)
theorem zw_2199 : Cond.selects RX9 yX9_report yX9_report ∈ zAll := zin 2199 (by decide +kernel) (by decide +kernel)
theorem zw_2200 : Cond.code yX9_report cX9_report 2 (some .int) ∈ zAll := zin 2200 (by decide +kernel) (by decide +kernel)
theorem zcv_YL_law_247 : zLV YL_law 247 Y_X9_report 0 RX9 := ⟨zw_2197, zw_2198, zw_2199, zw_124, zw_2200, by decide +kernel, by decide, by decide⟩
theorem zw_1296 : Cond.methodLink RL 248 yX8_reportByte ∈ zAll := zin 1296 (by decide +kernel) (by decide +kernel)
theorem zw_1297 : Cond.instanceMethod yX8_reportByte ∈ zAll := zin 1297 (by decide +kernel) (by decide +kernel)
theorem zw_1298 : Cond.selects RX8 yX8_reportByte yX8_reportByte ∈ zAll := zin 1298 (by decide +kernel) (by decide +kernel)
theorem zw_1299 : Cond.code yX8_reportByte cX8_reportByte 2 (some .int) ∈ zAll := zin 1299 (by decide +kernel) (by decide +kernel)
theorem zcv_YL_law_248 : zLV YL_law 248 Y_X8_reportByte 1 RX8 := ⟨zw_1296, zw_1297, zw_1298, zw_111, zw_1299, by decide +kernel, by decide, by decide⟩
theorem zw_2213 : Cond.methodLink RL 251 yX9_reportByte ∈ zAll := zin 2213 (by decide +kernel) (by decide +kernel)
theorem zw_2214 : Cond.instanceMethod yX9_reportByte ∈ zAll := zin 2214 (by decide +kernel) (by decide +kernel)
theorem zw_2215 : Cond.selects RX9 yX9_reportByte yX9_reportByte ∈ zAll := zin 2215 (by decide +kernel) (by decide +kernel)
theorem zw_2216 : Cond.code yX9_reportByte cX9_reportByte 2 (some .int) ∈ zAll := zin 2216 (by decide +kernel) (by decide +kernel)
theorem zcv_YL_law_251 : zLV YL_law 251 Y_X9_reportByte 1 RX9 := ⟨zw_2213, zw_2214, zw_2215, zw_124, zw_2216, by decide +kernel, by decide, by decide⟩
theorem zw_1310 : Cond.methodLink RL 252 yX8_undo ∈ zAll := zin 1310 (by decide +kernel) (by decide +kernel)
theorem zw_1311 : Cond.instanceMethod yX8_undo ∈ zAll := zin 1311 (by decide +kernel) (by decide +kernel)
theorem zw_1312 : Cond.selects RX8 yX8_undo yX8_undo ∈ zAll := zin 1312 (by decide +kernel) (by decide +kernel)
theorem zw_1313 : Cond.code yX8_undo cX8_undo 1 (some .int) ∈ zAll := zin 1313 (by decide +kernel) (by decide +kernel)
theorem zcv_YL_law_252 : zLV YL_law 252 Y_X8_undo 0 RX8 := ⟨zw_1310, zw_1311, zw_1312, zw_111, zw_1313, by decide +kernel, by decide, by decide⟩
theorem zw_2217 : Cond.methodLink RL 255 yX9_undo ∈ zAll := zin 2217 (by decide +kernel) (by decide +kernel)
theorem zw_2218 : Cond.instanceMethod yX9_undo ∈ zAll := zin 2218 (by decide +kernel) (by decide +kernel)
theorem zw_2219 : Cond.selects RX9 yX9_undo yX9_undo ∈ zAll := zin 2219 (by decide +kernel) (by decide +kernel)
theorem zw_2220 : Cond.code yX9_undo cX9_undo 1 (some .int) ∈ zAll := zin 2220 (by decide +kernel) (by decide +kernel)
theorem zcv_YL_law_255 : zLV YL_law 255 Y_X9_undo 0 RX9 := ⟨zw_2217, zw_2218, zw_2219, zw_124, zw_2220, by decide +kernel, by decide, by decide⟩
theorem zw_1570 : Cond.methodLink RL 256 yL_save ∈ zAll := zin 1570 (by decide +kernel) (by decide +kernel)
theorem zw_1571 : Cond.static yL_save ∈ zAll := zin 1571 (by decide +kernel) (by decide +kernel)
theorem zw_1572 : Cond.codeWith yL_save cL_save 4 (some .int) [(0, 9, 12, 13)] ∈ zAll := zin 1572 (by decide +kernel) (by decide +kernel)
theorem zls_law_save : lLS YL_law 256 YL_save 3 := ⟨zw_1570, zw_1571, zw_110, zw_1572, by decide +kernel, by decide, by decide⟩
theorem zw_2221 : Cond.methodLink RL 258 yX9_save ∈ zAll := zin 2221 (by decide +kernel) (by decide +kernel)
theorem zw_2222 : Cond.instanceMethod yX9_save ∈ zAll := zin 2222 (by decide +kernel) (by decide +kernel)
theorem zw_2223 : Cond.selects RX9 yX9_save yX9_save ∈ zAll := zin 2223 (by decide +kernel) (by decide +kernel)
theorem zw_2224 : Cond.code yX9_save cX9_save 2 (some .int) ∈ zAll := zin 2224 (by decide +kernel) (by decide +kernel)
theorem zcv_YL_law_258 : zLV YL_law 258 Y_X9_save 1 RX9 := ⟨zw_2221, zw_2222, zw_2223, zw_124, zw_2224, by decide +kernel, by decide, by decide⟩
theorem zw_1577 : Cond.methodLink RL 259 yL_restore ∈ zAll := zin 1577 (by decide +kernel) (by decide +kernel)
theorem zw_1578 : Cond.static yL_restore ∈ zAll := zin 1578 (by decide +kernel) (by decide +kernel)
theorem zw_1579 : Cond.codeWith yL_restore cL_restore 4 (some .int) [(0, 9, 12, 13)] ∈ zAll := zin 1579 (by decide +kernel) (by decide +kernel)
theorem zls_law_restore : lLS YL_law 259 YL_restore 3 := ⟨zw_1577, zw_1578, zw_110, zw_1579, by decide +kernel, by decide, by decide⟩
theorem zw_2229 : Cond.methodLink RL 261 yX9_restore ∈ zAll := zin 2229 (by decide +kernel) (by decide +kernel)
theorem zw_2230 : Cond.instanceMethod yX9_restore ∈ zAll := zin 2230 (by decide +kernel) (by decide +kernel)
theorem zw_2231 : Cond.selects RX9 yX9_restore yX9_restore ∈ zAll := zin 2231 (by decide +kernel) (by decide +kernel)
theorem zw_2232 : Cond.code yX9_restore cX9_restore 2 (some .int) ∈ zAll := zin 2232 (by decide +kernel) (by decide +kernel)
theorem zcv_YL_law_261 : zLV YL_law 261 Y_X9_restore 1 RX9 := ⟨zw_2229, zw_2230, zw_2231, zw_124, zw_2232, by decide +kernel, by decide, by decide⟩
theorem dL_law_0 : decode cL_law 0 = .ok (.new 8, 3) := by decide +kernel
theorem dL_law_3 : decode cL_law 3 = .ok (.dup, 1) := by decide +kernel
theorem dL_law_4 : decode cL_law 4 = .ok (.invokespecial 104, 3) := by decide +kernel
theorem dL_law_7 : decode cL_law 7 = .ok (.astore_n 1, 1) := by decide +kernel
theorem dL_law_8 : decode cL_law 8 = .ok (.new 105, 3) := by decide +kernel
theorem dL_law_11 : decode cL_law 11 = .ok (.dup, 1) := by decide +kernel
theorem dL_law_12 : decode cL_law 12 = .ok (.invokespecial 107, 3) := by decide +kernel
theorem dL_law_15 : decode cL_law 15 = .ok (.astore_n 2, 1) := by decide +kernel
theorem dL_law_16 : decode cL_law 16 = .ok (.iconst 1, 1) := by decide +kernel
theorem dL_law_17 : decode cL_law 17 = .ok (.newarray .long, 2) := by decide +kernel
theorem dL_law_19 : decode cL_law 19 = .ok (.astore_n 3, 1) := by decide +kernel
theorem dL_law_20 : decode cL_law 20 = .ok (.iconst 1, 1) := by decide +kernel
theorem dL_law_21 : decode cL_law 21 = .ok (.newarray .double, 2) := by decide +kernel
theorem dL_law_23 : decode cL_law 23 = .ok (.astore 4, 2) := by decide +kernel
theorem dL_law_25 : decode cL_law 25 = .ok (.iconst 0, 1) := by decide +kernel
theorem dL_law_26 : decode cL_law 26 = .ok (.istore 5, 2) := by decide +kernel
theorem dL_law_28 : decode cL_law 28 = .ok (.iload 5, 2) := by decide +kernel
theorem dL_law_30 : decode cL_law 30 = .ok (.aload_n 0, 1) := by decide +kernel
theorem dL_law_31 : decode cL_law 31 = .ok (.arraylength, 1) := by decide +kernel
theorem dL_law_32 : decode cL_law 32 = .ok (.bipush 6, 2) := by decide +kernel
theorem dL_law_34 : decode cL_law 34 = .ok (.isub, 1) := by decide +kernel
theorem dL_law_35 : decode cL_law 35 = .ok (.if_icmp .gt 2306, 3) := by decide +kernel
theorem dL_law_38 : decode cL_law 38 = .ok (.aload_n 0, 1) := by decide +kernel
theorem dL_law_39 : decode cL_law 39 = .ok (.iload 5, 2) := by decide +kernel
theorem dL_law_41 : decode cL_law 41 = .ok (.iaload, 1) := by decide +kernel
theorem dL_law_42 : decode cL_law 42 = .ok (.bipush 63, 2) := by decide +kernel
theorem dL_law_44 : decode cL_law 44 = .ok (.iand, 1) := by decide +kernel
theorem dL_law_45 : decode cL_law 45 = .ok (.tableswitch 2290 0 41 #[183, 256, 269, 282, 295, 351, 419, 487, 555, 622, 690, 703, 744, 787, 828, 905, 961, 1029, 1042, 1055, 1132, 1188, 1267, 1323, 1379, 1447, 1503, 1516, 1572, 1628, 1683, 1739, 1807, 1875, 1931, 1987, 2043, 2127, 2140, 2165, 2178, 2234], 183) := by decide +kernel
theorem dL_law_228 : decode cL_law 228 = .ok (.aload_n 1, 1) := by decide +kernel
theorem dL_law_229 : decode cL_law 229 = .ok (.aload_n 0, 1) := by decide +kernel
theorem dL_law_230 : decode cL_law 230 = .ok (.iload 5, 2) := by decide +kernel
theorem dL_law_232 : decode cL_law 232 = .ok (.iconst 1, 1) := by decide +kernel
theorem dL_law_233 : decode cL_law 233 = .ok (.iadd, 1) := by decide +kernel
theorem dL_law_234 : decode cL_law 234 = .ok (.iaload, 1) := by decide +kernel
theorem dL_law_235 : decode cL_law 235 = .ok (.aload_n 0, 1) := by decide +kernel
theorem dL_law_236 : decode cL_law 236 = .ok (.iload 5, 2) := by decide +kernel
theorem dL_law_238 : decode cL_law 238 = .ok (.iconst 2, 1) := by decide +kernel
theorem dL_law_239 : decode cL_law 239 = .ok (.iadd, 1) := by decide +kernel
theorem dL_law_240 : decode cL_law 240 = .ok (.iaload, 1) := by decide +kernel
theorem dL_law_241 : decode cL_law 241 = .ok (.aload_n 0, 1) := by decide +kernel
theorem dL_law_242 : decode cL_law 242 = .ok (.iload 5, 2) := by decide +kernel
theorem dL_law_244 : decode cL_law 244 = .ok (.iconst 3, 1) := by decide +kernel
theorem dL_law_245 : decode cL_law 245 = .ok (.iadd, 1) := by decide +kernel
theorem dL_law_246 : decode cL_law 246 = .ok (.iaload, 1) := by decide +kernel
theorem dL_law_247 : decode cL_law 247 = .ok (.aload_n 0, 1) := by decide +kernel
theorem dL_law_248 : decode cL_law 248 = .ok (.iload 5, 2) := by decide +kernel
theorem dL_law_250 : decode cL_law 250 = .ok (.iconst 4, 1) := by decide +kernel
theorem dL_law_251 : decode cL_law 251 = .ok (.iadd, 1) := by decide +kernel
theorem dL_law_252 : decode cL_law 252 = .ok (.iaload, 1) := by decide +kernel
theorem dL_law_253 : decode cL_law 253 = .ok (.aload_n 0, 1) := by decide +kernel
theorem dL_law_254 : decode cL_law 254 = .ok (.iload 5, 2) := by decide +kernel
theorem dL_law_256 : decode cL_law 256 = .ok (.iconst 5, 1) := by decide +kernel
theorem dL_law_257 : decode cL_law 257 = .ok (.iadd, 1) := by decide +kernel
theorem dL_law_258 : decode cL_law 258 = .ok (.iaload, 1) := by decide +kernel
theorem dL_law_259 : decode cL_law 259 = .ok (.invokevirtual 108, 3) := by decide +kernel
theorem dL_law_262 : decode cL_law 262 = .ok (.aload_n 2, 1) := by decide +kernel
theorem dL_law_263 : decode cL_law 263 = .ok (.aload_n 0, 1) := by decide +kernel
theorem dL_law_264 : decode cL_law 264 = .ok (.iload 5, 2) := by decide +kernel
theorem dL_law_266 : decode cL_law 266 = .ok (.iconst 1, 1) := by decide +kernel
theorem dL_law_267 : decode cL_law 267 = .ok (.iadd, 1) := by decide +kernel
theorem dL_law_268 : decode cL_law 268 = .ok (.iaload, 1) := by decide +kernel
theorem dL_law_269 : decode cL_law 269 = .ok (.aload_n 0, 1) := by decide +kernel
theorem dL_law_270 : decode cL_law 270 = .ok (.iload 5, 2) := by decide +kernel
theorem dL_law_272 : decode cL_law 272 = .ok (.iconst 2, 1) := by decide +kernel
theorem dL_law_273 : decode cL_law 273 = .ok (.iadd, 1) := by decide +kernel
theorem dL_law_274 : decode cL_law 274 = .ok (.iaload, 1) := by decide +kernel
theorem dL_law_275 : decode cL_law 275 = .ok (.aload_n 0, 1) := by decide +kernel
theorem dL_law_276 : decode cL_law 276 = .ok (.iload 5, 2) := by decide +kernel
theorem dL_law_278 : decode cL_law 278 = .ok (.iconst 3, 1) := by decide +kernel
theorem dL_law_279 : decode cL_law 279 = .ok (.iadd, 1) := by decide +kernel
theorem dL_law_280 : decode cL_law 280 = .ok (.iaload, 1) := by decide +kernel
theorem dL_law_281 : decode cL_law 281 = .ok (.aload_n 0, 1) := by decide +kernel
theorem dL_law_282 : decode cL_law 282 = .ok (.iload 5, 2) := by decide +kernel
theorem dL_law_284 : decode cL_law 284 = .ok (.iconst 4, 1) := by decide +kernel
theorem dL_law_285 : decode cL_law 285 = .ok (.iadd, 1) := by decide +kernel
theorem dL_law_286 : decode cL_law 286 = .ok (.iaload, 1) := by decide +kernel
theorem dL_law_287 : decode cL_law 287 = .ok (.aload_n 0, 1) := by decide +kernel
theorem dL_law_288 : decode cL_law 288 = .ok (.iload 5, 2) := by decide +kernel
theorem dL_law_290 : decode cL_law 290 = .ok (.iconst 5, 1) := by decide +kernel
theorem dL_law_291 : decode cL_law 291 = .ok (.iadd, 1) := by decide +kernel
theorem dL_law_292 : decode cL_law 292 = .ok (.iaload, 1) := by decide +kernel
theorem dL_law_293 : decode cL_law 293 = .ok (.invokevirtual 112, 3) := by decide +kernel
theorem dL_law_296 : decode cL_law 296 = .ok (.if_icmp .eq 2039, 3) := by decide +kernel
theorem dL_law_299 : decode cL_law 299 = .ok (.iconst 0, 1) := by decide +kernel
theorem dL_law_300 : decode cL_law 300 = .ok (.ireturn, 1) := by decide +kernel
theorem dL_law_301 : decode cL_law 301 = .ok (.aload_n 1, 1) := by decide +kernel
theorem dL_law_302 : decode cL_law 302 = .ok (.invokevirtual 113, 3) := by decide +kernel
theorem dL_law_305 : decode cL_law 305 = .ok (.aload_n 2, 1) := by decide +kernel
theorem dL_law_306 : decode cL_law 306 = .ok (.invokevirtual 117, 3) := by decide +kernel
theorem dL_law_309 : decode cL_law 309 = .ok (.if_icmp .eq 2026, 3) := by decide +kernel
theorem dL_law_312 : decode cL_law 312 = .ok (.iconst 0, 1) := by decide +kernel
theorem dL_law_313 : decode cL_law 313 = .ok (.ireturn, 1) := by decide +kernel
theorem dL_law_314 : decode cL_law 314 = .ok (.aload_n 1, 1) := by decide +kernel
theorem dL_law_315 : decode cL_law 315 = .ok (.invokevirtual 118, 3) := by decide +kernel
theorem dL_law_318 : decode cL_law 318 = .ok (.aload_n 2, 1) := by decide +kernel
theorem dL_law_319 : decode cL_law 319 = .ok (.invokevirtual 121, 3) := by decide +kernel
theorem dL_law_322 : decode cL_law 322 = .ok (.if_icmp .eq 2013, 3) := by decide +kernel
theorem dL_law_325 : decode cL_law 325 = .ok (.iconst 0, 1) := by decide +kernel
theorem dL_law_326 : decode cL_law 326 = .ok (.ireturn, 1) := by decide +kernel
theorem dL_law_327 : decode cL_law 327 = .ok (.aload_n 1, 1) := by decide +kernel
theorem dL_law_328 : decode cL_law 328 = .ok (.invokevirtual 122, 3) := by decide +kernel
theorem dL_law_331 : decode cL_law 331 = .ok (.aload_n 2, 1) := by decide +kernel
theorem dL_law_332 : decode cL_law 332 = .ok (.invokevirtual 125, 3) := by decide +kernel
theorem dL_law_335 : decode cL_law 335 = .ok (.if_icmp .eq 2000, 3) := by decide +kernel
theorem dL_law_338 : decode cL_law 338 = .ok (.iconst 0, 1) := by decide +kernel
theorem dL_law_339 : decode cL_law 339 = .ok (.ireturn, 1) := by decide +kernel
theorem dL_law_340 : decode cL_law 340 = .ok (.aload_n 1, 1) := by decide +kernel
theorem dL_law_341 : decode cL_law 341 = .ok (.aload_n 0, 1) := by decide +kernel
theorem dL_law_342 : decode cL_law 342 = .ok (.iload 5, 2) := by decide +kernel
theorem dL_law_344 : decode cL_law 344 = .ok (.iconst 1, 1) := by decide +kernel
theorem dL_law_345 : decode cL_law 345 = .ok (.iadd, 1) := by decide +kernel
theorem dL_law_346 : decode cL_law 346 = .ok (.iaload, 1) := by decide +kernel
theorem dL_law_347 : decode cL_law 347 = .ok (.aload_n 3, 1) := by decide +kernel
theorem dL_law_348 : decode cL_law 348 = .ok (.invokestatic 126, 3) := by decide +kernel
theorem dL_law_351 : decode cL_law 351 = .ok (.istore 6, 2) := by decide +kernel
theorem dL_law_353 : decode cL_law 353 = .ok (.aload_n 2, 1) := by decide +kernel
theorem dL_law_354 : decode cL_law 354 = .ok (.aload_n 0, 1) := by decide +kernel
theorem dL_law_355 : decode cL_law 355 = .ok (.iload 5, 2) := by decide +kernel
theorem dL_law_357 : decode cL_law 357 = .ok (.iconst 1, 1) := by decide +kernel
theorem dL_law_358 : decode cL_law 358 = .ok (.iadd, 1) := by decide +kernel
theorem dL_law_359 : decode cL_law 359 = .ok (.iaload, 1) := by decide +kernel
theorem dL_law_360 : decode cL_law 360 = .ok (.invokevirtual 131, 3) := by decide +kernel
theorem dL_law_363 : decode cL_law 363 = .ok (.istore 7, 2) := by decide +kernel
theorem dL_law_365 : decode cL_law 365 = .ok (.aload_n 2, 1) := by decide +kernel
theorem dL_law_366 : decode cL_law 366 = .ok (.invokevirtual 132, 3) := by decide +kernel
theorem dL_law_369 : decode cL_law 369 = .ok (.iload 6, 2) := by decide +kernel
theorem dL_law_371 : decode cL_law 371 = .ok (.if_icmp .eq 5, 3) := by decide +kernel
theorem dL_law_374 : decode cL_law 374 = .ok (.iconst 0, 1) := by decide +kernel
theorem dL_law_375 : decode cL_law 375 = .ok (.ireturn, 1) := by decide +kernel
theorem dL_law_376 : decode cL_law 376 = .ok (.iload 6, 2) := by decide +kernel
theorem dL_law_378 : decode cL_law 378 = .ok (.ifCond .ne 15, 3) := by decide +kernel
theorem dL_law_381 : decode cL_law 381 = .ok (.aload_n 3, 1) := by decide +kernel
theorem dL_law_382 : decode cL_law 382 = .ok (.iconst 0, 1) := by decide +kernel
theorem dL_law_383 : decode cL_law 383 = .ok (.laload, 1) := by decide +kernel
theorem dL_law_384 : decode cL_law 384 = .ok (.iload 7, 2) := by decide +kernel
theorem dL_law_386 : decode cL_law 386 = .ok (.i2l, 1) := by decide +kernel
theorem dL_law_387 : decode cL_law 387 = .ok (.lcmp, 1) := by decide +kernel
theorem dL_law_388 : decode cL_law 388 = .ok (.ifCond .eq 5, 3) := by decide +kernel
theorem dL_law_391 : decode cL_law 391 = .ok (.iconst 0, 1) := by decide +kernel
theorem dL_law_392 : decode cL_law 392 = .ok (.ireturn, 1) := by decide +kernel
theorem dL_law_393 : decode cL_law 393 = .ok (.goto 1942, 3) := by decide +kernel
theorem dL_law_396 : decode cL_law 396 = .ok (.aload_n 1, 1) := by decide +kernel
theorem dL_law_397 : decode cL_law 397 = .ok (.aload_n 0, 1) := by decide +kernel
theorem dL_law_398 : decode cL_law 398 = .ok (.iload 5, 2) := by decide +kernel
theorem dL_law_400 : decode cL_law 400 = .ok (.iconst 1, 1) := by decide +kernel
theorem dL_law_401 : decode cL_law 401 = .ok (.iadd, 1) := by decide +kernel
theorem dL_law_402 : decode cL_law 402 = .ok (.iaload, 1) := by decide +kernel
theorem dL_law_403 : decode cL_law 403 = .ok (.aload_n 0, 1) := by decide +kernel
theorem dL_law_404 : decode cL_law 404 = .ok (.iload 5, 2) := by decide +kernel
theorem dL_law_406 : decode cL_law 406 = .ok (.iconst 2, 1) := by decide +kernel
theorem dL_law_407 : decode cL_law 407 = .ok (.iadd, 1) := by decide +kernel
theorem dL_law_408 : decode cL_law 408 = .ok (.iaload, 1) := by decide +kernel
theorem dL_law_409 : decode cL_law 409 = .ok (.aload_n 3, 1) := by decide +kernel
theorem dL_law_410 : decode cL_law 410 = .ok (.invokestatic 135, 3) := by decide +kernel
theorem dL_law_413 : decode cL_law 413 = .ok (.istore 6, 2) := by decide +kernel
theorem dL_law_415 : decode cL_law 415 = .ok (.aload_n 2, 1) := by decide +kernel
theorem dL_law_416 : decode cL_law 416 = .ok (.aload_n 0, 1) := by decide +kernel
theorem dL_law_417 : decode cL_law 417 = .ok (.iload 5, 2) := by decide +kernel
theorem dL_law_419 : decode cL_law 419 = .ok (.iconst 1, 1) := by decide +kernel
theorem dL_law_420 : decode cL_law 420 = .ok (.iadd, 1) := by decide +kernel
theorem dL_law_421 : decode cL_law 421 = .ok (.iaload, 1) := by decide +kernel
theorem dL_law_422 : decode cL_law 422 = .ok (.aload_n 0, 1) := by decide +kernel
theorem dL_law_423 : decode cL_law 423 = .ok (.iload 5, 2) := by decide +kernel
theorem dL_law_425 : decode cL_law 425 = .ok (.iconst 2, 1) := by decide +kernel
theorem dL_law_426 : decode cL_law 426 = .ok (.iadd, 1) := by decide +kernel
theorem dL_law_427 : decode cL_law 427 = .ok (.iaload, 1) := by decide +kernel
theorem dL_law_428 : decode cL_law 428 = .ok (.invokevirtual 138, 3) := by decide +kernel
theorem dL_law_431 : decode cL_law 431 = .ok (.istore 7, 2) := by decide +kernel
theorem dL_law_433 : decode cL_law 433 = .ok (.aload_n 2, 1) := by decide +kernel
theorem dL_law_434 : decode cL_law 434 = .ok (.invokevirtual 132, 3) := by decide +kernel
theorem dL_law_437 : decode cL_law 437 = .ok (.iload 6, 2) := by decide +kernel
theorem dL_law_439 : decode cL_law 439 = .ok (.if_icmp .eq 5, 3) := by decide +kernel
theorem dL_law_442 : decode cL_law 442 = .ok (.iconst 0, 1) := by decide +kernel
theorem dL_law_443 : decode cL_law 443 = .ok (.ireturn, 1) := by decide +kernel
theorem dL_law_444 : decode cL_law 444 = .ok (.iload 6, 2) := by decide +kernel
theorem dL_law_446 : decode cL_law 446 = .ok (.ifCond .ne 15, 3) := by decide +kernel
theorem dL_law_449 : decode cL_law 449 = .ok (.aload_n 3, 1) := by decide +kernel
theorem dL_law_450 : decode cL_law 450 = .ok (.iconst 0, 1) := by decide +kernel
theorem dL_law_451 : decode cL_law 451 = .ok (.laload, 1) := by decide +kernel
theorem dL_law_452 : decode cL_law 452 = .ok (.iload 7, 2) := by decide +kernel
theorem dL_law_454 : decode cL_law 454 = .ok (.i2l, 1) := by decide +kernel
theorem dL_law_455 : decode cL_law 455 = .ok (.lcmp, 1) := by decide +kernel
theorem dL_law_456 : decode cL_law 456 = .ok (.ifCond .eq 5, 3) := by decide +kernel
theorem dL_law_459 : decode cL_law 459 = .ok (.iconst 0, 1) := by decide +kernel
theorem dL_law_460 : decode cL_law 460 = .ok (.ireturn, 1) := by decide +kernel
theorem dL_law_461 : decode cL_law 461 = .ok (.goto 1874, 3) := by decide +kernel
theorem dL_law_464 : decode cL_law 464 = .ok (.aload_n 1, 1) := by decide +kernel
theorem dL_law_465 : decode cL_law 465 = .ok (.aload_n 0, 1) := by decide +kernel
theorem dL_law_466 : decode cL_law 466 = .ok (.iload 5, 2) := by decide +kernel
theorem dL_law_468 : decode cL_law 468 = .ok (.iconst 1, 1) := by decide +kernel
theorem dL_law_469 : decode cL_law 469 = .ok (.iadd, 1) := by decide +kernel
theorem dL_law_470 : decode cL_law 470 = .ok (.iaload, 1) := by decide +kernel
theorem dL_law_471 : decode cL_law 471 = .ok (.aload_n 0, 1) := by decide +kernel
theorem dL_law_472 : decode cL_law 472 = .ok (.iload 5, 2) := by decide +kernel
theorem dL_law_474 : decode cL_law 474 = .ok (.iconst 2, 1) := by decide +kernel
theorem dL_law_475 : decode cL_law 475 = .ok (.iadd, 1) := by decide +kernel
theorem dL_law_476 : decode cL_law 476 = .ok (.iaload, 1) := by decide +kernel
theorem dL_law_477 : decode cL_law 477 = .ok (.aload_n 3, 1) := by decide +kernel
theorem dL_law_478 : decode cL_law 478 = .ok (.invokestatic 139, 3) := by decide +kernel
theorem dL_law_481 : decode cL_law 481 = .ok (.istore 6, 2) := by decide +kernel
theorem dL_law_483 : decode cL_law 483 = .ok (.aload_n 2, 1) := by decide +kernel
theorem dL_law_484 : decode cL_law 484 = .ok (.aload_n 0, 1) := by decide +kernel
theorem dL_law_485 : decode cL_law 485 = .ok (.iload 5, 2) := by decide +kernel
theorem dL_law_487 : decode cL_law 487 = .ok (.iconst 1, 1) := by decide +kernel
theorem dL_law_488 : decode cL_law 488 = .ok (.iadd, 1) := by decide +kernel
theorem dL_law_489 : decode cL_law 489 = .ok (.iaload, 1) := by decide +kernel
theorem dL_law_490 : decode cL_law 490 = .ok (.aload_n 0, 1) := by decide +kernel
theorem dL_law_491 : decode cL_law 491 = .ok (.iload 5, 2) := by decide +kernel
theorem dL_law_493 : decode cL_law 493 = .ok (.iconst 2, 1) := by decide +kernel
theorem dL_law_494 : decode cL_law 494 = .ok (.iadd, 1) := by decide +kernel
theorem dL_law_495 : decode cL_law 495 = .ok (.iaload, 1) := by decide +kernel
theorem dL_law_496 : decode cL_law 496 = .ok (.invokevirtual 141, 3) := by decide +kernel
theorem dL_law_499 : decode cL_law 499 = .ok (.istore 7, 2) := by decide +kernel
theorem dL_law_501 : decode cL_law 501 = .ok (.aload_n 2, 1) := by decide +kernel
theorem dL_law_502 : decode cL_law 502 = .ok (.invokevirtual 132, 3) := by decide +kernel
theorem dL_law_505 : decode cL_law 505 = .ok (.iload 6, 2) := by decide +kernel
theorem dL_law_507 : decode cL_law 507 = .ok (.if_icmp .eq 5, 3) := by decide +kernel
theorem dL_law_510 : decode cL_law 510 = .ok (.iconst 0, 1) := by decide +kernel
theorem dL_law_511 : decode cL_law 511 = .ok (.ireturn, 1) := by decide +kernel
theorem dL_law_512 : decode cL_law 512 = .ok (.iload 6, 2) := by decide +kernel
theorem dL_law_514 : decode cL_law 514 = .ok (.ifCond .ne 15, 3) := by decide +kernel
theorem dL_law_517 : decode cL_law 517 = .ok (.aload_n 3, 1) := by decide +kernel
theorem dL_law_518 : decode cL_law 518 = .ok (.iconst 0, 1) := by decide +kernel
theorem dL_law_519 : decode cL_law 519 = .ok (.laload, 1) := by decide +kernel
theorem dL_law_520 : decode cL_law 520 = .ok (.iload 7, 2) := by decide +kernel
theorem dL_law_522 : decode cL_law 522 = .ok (.i2l, 1) := by decide +kernel
theorem dL_law_523 : decode cL_law 523 = .ok (.lcmp, 1) := by decide +kernel
theorem dL_law_524 : decode cL_law 524 = .ok (.ifCond .eq 5, 3) := by decide +kernel
theorem dL_law_527 : decode cL_law 527 = .ok (.iconst 0, 1) := by decide +kernel
theorem dL_law_528 : decode cL_law 528 = .ok (.ireturn, 1) := by decide +kernel
theorem dL_law_529 : decode cL_law 529 = .ok (.goto 1806, 3) := by decide +kernel
theorem dL_law_532 : decode cL_law 532 = .ok (.aload_n 1, 1) := by decide +kernel
theorem dL_law_533 : decode cL_law 533 = .ok (.aload_n 0, 1) := by decide +kernel
theorem dL_law_534 : decode cL_law 534 = .ok (.iload 5, 2) := by decide +kernel
theorem dL_law_536 : decode cL_law 536 = .ok (.iconst 1, 1) := by decide +kernel
theorem dL_law_537 : decode cL_law 537 = .ok (.iadd, 1) := by decide +kernel
theorem dL_law_538 : decode cL_law 538 = .ok (.iaload, 1) := by decide +kernel
theorem dL_law_539 : decode cL_law 539 = .ok (.aload_n 0, 1) := by decide +kernel
theorem dL_law_540 : decode cL_law 540 = .ok (.iload 5, 2) := by decide +kernel
theorem dL_law_542 : decode cL_law 542 = .ok (.iconst 2, 1) := by decide +kernel
theorem dL_law_543 : decode cL_law 543 = .ok (.iadd, 1) := by decide +kernel
theorem dL_law_544 : decode cL_law 544 = .ok (.iaload, 1) := by decide +kernel
theorem dL_law_545 : decode cL_law 545 = .ok (.aload_n 3, 1) := by decide +kernel
theorem dL_law_546 : decode cL_law 546 = .ok (.invokestatic 142, 3) := by decide +kernel
theorem dL_law_549 : decode cL_law 549 = .ok (.istore 6, 2) := by decide +kernel
theorem dL_law_551 : decode cL_law 551 = .ok (.aload_n 2, 1) := by decide +kernel
theorem dL_law_552 : decode cL_law 552 = .ok (.aload_n 0, 1) := by decide +kernel
theorem dL_law_553 : decode cL_law 553 = .ok (.iload 5, 2) := by decide +kernel
theorem dL_law_555 : decode cL_law 555 = .ok (.iconst 1, 1) := by decide +kernel
theorem dL_law_556 : decode cL_law 556 = .ok (.iadd, 1) := by decide +kernel
theorem dL_law_557 : decode cL_law 557 = .ok (.iaload, 1) := by decide +kernel
theorem dL_law_558 : decode cL_law 558 = .ok (.aload_n 0, 1) := by decide +kernel
theorem dL_law_559 : decode cL_law 559 = .ok (.iload 5, 2) := by decide +kernel
theorem dL_law_561 : decode cL_law 561 = .ok (.iconst 2, 1) := by decide +kernel
theorem dL_law_562 : decode cL_law 562 = .ok (.iadd, 1) := by decide +kernel
theorem dL_law_563 : decode cL_law 563 = .ok (.iaload, 1) := by decide +kernel
theorem dL_law_564 : decode cL_law 564 = .ok (.invokevirtual 144, 3) := by decide +kernel
theorem dL_law_567 : decode cL_law 567 = .ok (.istore 7, 2) := by decide +kernel
theorem dL_law_569 : decode cL_law 569 = .ok (.aload_n 2, 1) := by decide +kernel
theorem dL_law_570 : decode cL_law 570 = .ok (.invokevirtual 132, 3) := by decide +kernel
theorem dL_law_573 : decode cL_law 573 = .ok (.iload 6, 2) := by decide +kernel
theorem dL_law_575 : decode cL_law 575 = .ok (.if_icmp .eq 5, 3) := by decide +kernel
theorem dL_law_578 : decode cL_law 578 = .ok (.iconst 0, 1) := by decide +kernel
theorem dL_law_579 : decode cL_law 579 = .ok (.ireturn, 1) := by decide +kernel
theorem dL_law_580 : decode cL_law 580 = .ok (.iload 6, 2) := by decide +kernel
theorem dL_law_582 : decode cL_law 582 = .ok (.ifCond .ne 15, 3) := by decide +kernel
theorem dL_law_585 : decode cL_law 585 = .ok (.aload_n 3, 1) := by decide +kernel
theorem dL_law_586 : decode cL_law 586 = .ok (.iconst 0, 1) := by decide +kernel
theorem dL_law_587 : decode cL_law 587 = .ok (.laload, 1) := by decide +kernel
theorem dL_law_588 : decode cL_law 588 = .ok (.iload 7, 2) := by decide +kernel
theorem dL_law_590 : decode cL_law 590 = .ok (.i2l, 1) := by decide +kernel
theorem dL_law_591 : decode cL_law 591 = .ok (.lcmp, 1) := by decide +kernel
theorem dL_law_592 : decode cL_law 592 = .ok (.ifCond .eq 5, 3) := by decide +kernel
theorem dL_law_595 : decode cL_law 595 = .ok (.iconst 0, 1) := by decide +kernel
theorem dL_law_596 : decode cL_law 596 = .ok (.ireturn, 1) := by decide +kernel
theorem dL_law_597 : decode cL_law 597 = .ok (.goto 1738, 3) := by decide +kernel
theorem dL_law_600 : decode cL_law 600 = .ok (.aload_n 1, 1) := by decide +kernel
theorem dL_law_601 : decode cL_law 601 = .ok (.aload_n 0, 1) := by decide +kernel
theorem dL_law_602 : decode cL_law 602 = .ok (.iload 5, 2) := by decide +kernel
theorem dL_law_604 : decode cL_law 604 = .ok (.iconst 1, 1) := by decide +kernel
theorem dL_law_605 : decode cL_law 605 = .ok (.iadd, 1) := by decide +kernel
theorem dL_law_606 : decode cL_law 606 = .ok (.iaload, 1) := by decide +kernel
theorem dL_law_607 : decode cL_law 607 = .ok (.aload_n 0, 1) := by decide +kernel
theorem dL_law_608 : decode cL_law 608 = .ok (.iload 5, 2) := by decide +kernel
theorem dL_law_610 : decode cL_law 610 = .ok (.iconst 2, 1) := by decide +kernel
theorem dL_law_611 : decode cL_law 611 = .ok (.iadd, 1) := by decide +kernel
theorem dL_law_612 : decode cL_law 612 = .ok (.iaload, 1) := by decide +kernel
theorem dL_law_613 : decode cL_law 613 = .ok (.aload_n 3, 1) := by decide +kernel
theorem dL_law_614 : decode cL_law 614 = .ok (.invokestatic 145, 3) := by decide +kernel
theorem dL_law_617 : decode cL_law 617 = .ok (.istore 6, 2) := by decide +kernel
theorem dL_law_619 : decode cL_law 619 = .ok (.aload_n 2, 1) := by decide +kernel
theorem dL_law_620 : decode cL_law 620 = .ok (.aload_n 0, 1) := by decide +kernel
theorem dL_law_621 : decode cL_law 621 = .ok (.iload 5, 2) := by decide +kernel
theorem dL_law_623 : decode cL_law 623 = .ok (.iconst 1, 1) := by decide +kernel
theorem dL_law_624 : decode cL_law 624 = .ok (.iadd, 1) := by decide +kernel
theorem dL_law_625 : decode cL_law 625 = .ok (.iaload, 1) := by decide +kernel
theorem dL_law_626 : decode cL_law 626 = .ok (.aload_n 0, 1) := by decide +kernel
theorem dL_law_627 : decode cL_law 627 = .ok (.iload 5, 2) := by decide +kernel
theorem dL_law_629 : decode cL_law 629 = .ok (.iconst 2, 1) := by decide +kernel
theorem dL_law_630 : decode cL_law 630 = .ok (.iadd, 1) := by decide +kernel
theorem dL_law_631 : decode cL_law 631 = .ok (.iaload, 1) := by decide +kernel
theorem dL_law_632 : decode cL_law 632 = .ok (.invokevirtual 147, 3) := by decide +kernel
theorem dL_law_635 : decode cL_law 635 = .ok (.lstore 7, 2) := by decide +kernel
theorem dL_law_637 : decode cL_law 637 = .ok (.aload_n 2, 1) := by decide +kernel
theorem dL_law_638 : decode cL_law 638 = .ok (.invokevirtual 132, 3) := by decide +kernel
theorem dL_law_641 : decode cL_law 641 = .ok (.iload 6, 2) := by decide +kernel
theorem dL_law_643 : decode cL_law 643 = .ok (.if_icmp .eq 5, 3) := by decide +kernel
theorem dL_law_646 : decode cL_law 646 = .ok (.iconst 0, 1) := by decide +kernel
theorem dL_law_647 : decode cL_law 647 = .ok (.ireturn, 1) := by decide +kernel
theorem dL_law_648 : decode cL_law 648 = .ok (.iload 6, 2) := by decide +kernel
theorem dL_law_650 : decode cL_law 650 = .ok (.ifCond .ne 14, 3) := by decide +kernel
theorem dL_law_653 : decode cL_law 653 = .ok (.aload_n 3, 1) := by decide +kernel
theorem dL_law_654 : decode cL_law 654 = .ok (.iconst 0, 1) := by decide +kernel
theorem dL_law_655 : decode cL_law 655 = .ok (.laload, 1) := by decide +kernel
theorem dL_law_656 : decode cL_law 656 = .ok (.lload 7, 2) := by decide +kernel
theorem dL_law_658 : decode cL_law 658 = .ok (.lcmp, 1) := by decide +kernel
theorem dL_law_659 : decode cL_law 659 = .ok (.ifCond .eq 5, 3) := by decide +kernel
theorem dL_law_662 : decode cL_law 662 = .ok (.iconst 0, 1) := by decide +kernel
theorem dL_law_663 : decode cL_law 663 = .ok (.ireturn, 1) := by decide +kernel
theorem dL_law_664 : decode cL_law 664 = .ok (.goto 1671, 3) := by decide +kernel
theorem dL_law_667 : decode cL_law 667 = .ok (.aload_n 1, 1) := by decide +kernel
theorem dL_law_668 : decode cL_law 668 = .ok (.aload_n 0, 1) := by decide +kernel
theorem dL_law_669 : decode cL_law 669 = .ok (.iload 5, 2) := by decide +kernel
theorem dL_law_671 : decode cL_law 671 = .ok (.iconst 1, 1) := by decide +kernel
theorem dL_law_672 : decode cL_law 672 = .ok (.iadd, 1) := by decide +kernel
theorem dL_law_673 : decode cL_law 673 = .ok (.iaload, 1) := by decide +kernel
theorem dL_law_674 : decode cL_law 674 = .ok (.aload_n 0, 1) := by decide +kernel
theorem dL_law_675 : decode cL_law 675 = .ok (.iload 5, 2) := by decide +kernel
theorem dL_law_677 : decode cL_law 677 = .ok (.iconst 2, 1) := by decide +kernel
theorem dL_law_678 : decode cL_law 678 = .ok (.iadd, 1) := by decide +kernel
theorem dL_law_679 : decode cL_law 679 = .ok (.iaload, 1) := by decide +kernel
theorem dL_law_680 : decode cL_law 680 = .ok (.aload_n 3, 1) := by decide +kernel
theorem dL_law_681 : decode cL_law 681 = .ok (.invokestatic 148, 3) := by decide +kernel
theorem dL_law_684 : decode cL_law 684 = .ok (.istore 6, 2) := by decide +kernel
theorem dL_law_686 : decode cL_law 686 = .ok (.aload_n 2, 1) := by decide +kernel
theorem dL_law_687 : decode cL_law 687 = .ok (.aload_n 0, 1) := by decide +kernel
theorem dL_law_688 : decode cL_law 688 = .ok (.iload 5, 2) := by decide +kernel
theorem dL_law_690 : decode cL_law 690 = .ok (.iconst 1, 1) := by decide +kernel
theorem dL_law_691 : decode cL_law 691 = .ok (.iadd, 1) := by decide +kernel
theorem dL_law_692 : decode cL_law 692 = .ok (.iaload, 1) := by decide +kernel
theorem dL_law_693 : decode cL_law 693 = .ok (.aload_n 0, 1) := by decide +kernel
theorem dL_law_694 : decode cL_law 694 = .ok (.iload 5, 2) := by decide +kernel
theorem dL_law_696 : decode cL_law 696 = .ok (.iconst 2, 1) := by decide +kernel
theorem dL_law_697 : decode cL_law 697 = .ok (.iadd, 1) := by decide +kernel
theorem dL_law_698 : decode cL_law 698 = .ok (.iaload, 1) := by decide +kernel
theorem dL_law_699 : decode cL_law 699 = .ok (.invokevirtual 150, 3) := by decide +kernel
theorem dL_law_702 : decode cL_law 702 = .ok (.istore 7, 2) := by decide +kernel
theorem dL_law_704 : decode cL_law 704 = .ok (.aload_n 2, 1) := by decide +kernel
theorem dL_law_705 : decode cL_law 705 = .ok (.invokevirtual 132, 3) := by decide +kernel
theorem dL_law_708 : decode cL_law 708 = .ok (.iload 6, 2) := by decide +kernel
theorem dL_law_710 : decode cL_law 710 = .ok (.if_icmp .eq 5, 3) := by decide +kernel
theorem dL_law_713 : decode cL_law 713 = .ok (.iconst 0, 1) := by decide +kernel
theorem dL_law_714 : decode cL_law 714 = .ok (.ireturn, 1) := by decide +kernel
theorem dL_law_715 : decode cL_law 715 = .ok (.iload 6, 2) := by decide +kernel
theorem dL_law_717 : decode cL_law 717 = .ok (.ifCond .ne 15, 3) := by decide +kernel
theorem dL_law_720 : decode cL_law 720 = .ok (.aload_n 3, 1) := by decide +kernel
theorem dL_law_721 : decode cL_law 721 = .ok (.iconst 0, 1) := by decide +kernel
theorem dL_law_722 : decode cL_law 722 = .ok (.laload, 1) := by decide +kernel
theorem dL_law_723 : decode cL_law 723 = .ok (.iload 7, 2) := by decide +kernel
theorem dL_law_725 : decode cL_law 725 = .ok (.i2l, 1) := by decide +kernel
theorem dL_law_726 : decode cL_law 726 = .ok (.lcmp, 1) := by decide +kernel
theorem dL_law_727 : decode cL_law 727 = .ok (.ifCond .eq 5, 3) := by decide +kernel
theorem dL_law_730 : decode cL_law 730 = .ok (.iconst 0, 1) := by decide +kernel
theorem dL_law_731 : decode cL_law 731 = .ok (.ireturn, 1) := by decide +kernel
theorem dL_law_732 : decode cL_law 732 = .ok (.goto 1603, 3) := by decide +kernel
theorem dL_law_735 : decode cL_law 735 = .ok (.aload_n 1, 1) := by decide +kernel
theorem dL_law_736 : decode cL_law 736 = .ok (.invokevirtual 151, 3) := by decide +kernel
theorem dL_law_739 : decode cL_law 739 = .ok (.aload_n 2, 1) := by decide +kernel
theorem dL_law_740 : decode cL_law 740 = .ok (.invokevirtual 154, 3) := by decide +kernel
theorem dL_law_743 : decode cL_law 743 = .ok (.if_icmp .eq 1592, 3) := by decide +kernel
theorem dL_law_746 : decode cL_law 746 = .ok (.iconst 0, 1) := by decide +kernel
theorem dL_law_747 : decode cL_law 747 = .ok (.ireturn, 1) := by decide +kernel
theorem dL_law_748 : decode cL_law 748 = .ok (.aload_n 1, 1) := by decide +kernel
theorem dL_law_749 : decode cL_law 749 = .ok (.invokevirtual 155, 3) := by decide +kernel
theorem dL_law_752 : decode cL_law 752 = .ok (.dstore 6, 2) := by decide +kernel
theorem dL_law_754 : decode cL_law 754 = .ok (.aload_n 2, 1) := by decide +kernel
theorem dL_law_755 : decode cL_law 755 = .ok (.invokevirtual 159, 3) := by decide +kernel
theorem dL_law_758 : decode cL_law 758 = .ok (.dstore 8, 2) := by decide +kernel
theorem dL_law_760 : decode cL_law 760 = .ok (.dload 6, 2) := by decide +kernel
theorem dL_law_762 : decode cL_law 762 = .ok (.dload 8, 2) := by decide +kernel
theorem dL_law_764 : decode cL_law 764 = .ok (.dcmp .l, 1) := by decide +kernel
theorem dL_law_765 : decode cL_law 765 = .ok (.ifCond .eq 21, 3) := by decide +kernel
theorem dL_law_768 : decode cL_law 768 = .ok (.dload 6, 2) := by decide +kernel
theorem dL_law_770 : decode cL_law 770 = .ok (.dload 6, 2) := by decide +kernel
theorem dL_law_772 : decode cL_law 772 = .ok (.dcmp .l, 1) := by decide +kernel
theorem dL_law_773 : decode cL_law 773 = .ok (.ifCond .eq 11, 3) := by decide +kernel
theorem dL_law_776 : decode cL_law 776 = .ok (.dload 8, 2) := by decide +kernel
theorem dL_law_778 : decode cL_law 778 = .ok (.dload 8, 2) := by decide +kernel
theorem dL_law_780 : decode cL_law 780 = .ok (.dcmp .l, 1) := by decide +kernel
theorem dL_law_781 : decode cL_law 781 = .ok (.ifCond .ne 5, 3) := by decide +kernel
theorem dL_law_784 : decode cL_law 784 = .ok (.iconst 0, 1) := by decide +kernel
theorem dL_law_785 : decode cL_law 785 = .ok (.ireturn, 1) := by decide +kernel
theorem dL_law_786 : decode cL_law 786 = .ok (.goto 1549, 3) := by decide +kernel
theorem dL_law_789 : decode cL_law 789 = .ok (.aload_n 1, 1) := by decide +kernel
theorem dL_law_790 : decode cL_law 790 = .ok (.invokevirtual 160, 3) := by decide +kernel
theorem dL_law_793 : decode cL_law 793 = .ok (.f2d, 1) := by decide +kernel
theorem dL_law_794 : decode cL_law 794 = .ok (.dstore 6, 2) := by decide +kernel
theorem dL_law_796 : decode cL_law 796 = .ok (.aload_n 2, 1) := by decide +kernel
theorem dL_law_797 : decode cL_law 797 = .ok (.invokevirtual 164, 3) := by decide +kernel
theorem dL_law_800 : decode cL_law 800 = .ok (.f2d, 1) := by decide +kernel
theorem dL_law_801 : decode cL_law 801 = .ok (.dstore 8, 2) := by decide +kernel
theorem dL_law_803 : decode cL_law 803 = .ok (.dload 6, 2) := by decide +kernel
theorem dL_law_805 : decode cL_law 805 = .ok (.dload 8, 2) := by decide +kernel
theorem dL_law_807 : decode cL_law 807 = .ok (.dcmp .l, 1) := by decide +kernel
theorem dL_law_808 : decode cL_law 808 = .ok (.ifCond .eq 21, 3) := by decide +kernel
theorem dL_law_811 : decode cL_law 811 = .ok (.dload 6, 2) := by decide +kernel
theorem dL_law_813 : decode cL_law 813 = .ok (.dload 6, 2) := by decide +kernel
theorem dL_law_815 : decode cL_law 815 = .ok (.dcmp .l, 1) := by decide +kernel
theorem dL_law_816 : decode cL_law 816 = .ok (.ifCond .eq 11, 3) := by decide +kernel
theorem dL_law_819 : decode cL_law 819 = .ok (.dload 8, 2) := by decide +kernel
theorem dL_law_821 : decode cL_law 821 = .ok (.dload 8, 2) := by decide +kernel
theorem dL_law_823 : decode cL_law 823 = .ok (.dcmp .l, 1) := by decide +kernel
theorem dL_law_824 : decode cL_law 824 = .ok (.ifCond .ne 5, 3) := by decide +kernel
theorem dL_law_827 : decode cL_law 827 = .ok (.iconst 0, 1) := by decide +kernel
theorem dL_law_828 : decode cL_law 828 = .ok (.ireturn, 1) := by decide +kernel
theorem dL_law_829 : decode cL_law 829 = .ok (.goto 1506, 3) := by decide +kernel
theorem dL_law_832 : decode cL_law 832 = .ok (.aload_n 1, 1) := by decide +kernel
theorem dL_law_833 : decode cL_law 833 = .ok (.invokevirtual 165, 3) := by decide +kernel
theorem dL_law_836 : decode cL_law 836 = .ok (.dstore 6, 2) := by decide +kernel
theorem dL_law_838 : decode cL_law 838 = .ok (.aload_n 2, 1) := by decide +kernel
theorem dL_law_839 : decode cL_law 839 = .ok (.invokevirtual 168, 3) := by decide +kernel
theorem dL_law_842 : decode cL_law 842 = .ok (.dstore 8, 2) := by decide +kernel
theorem dL_law_844 : decode cL_law 844 = .ok (.dload 6, 2) := by decide +kernel
theorem dL_law_846 : decode cL_law 846 = .ok (.dload 8, 2) := by decide +kernel
theorem dL_law_848 : decode cL_law 848 = .ok (.dcmp .l, 1) := by decide +kernel
theorem dL_law_849 : decode cL_law 849 = .ok (.ifCond .eq 21, 3) := by decide +kernel
theorem dL_law_852 : decode cL_law 852 = .ok (.dload 6, 2) := by decide +kernel
theorem dL_law_854 : decode cL_law 854 = .ok (.dload 6, 2) := by decide +kernel
theorem dL_law_856 : decode cL_law 856 = .ok (.dcmp .l, 1) := by decide +kernel
theorem dL_law_857 : decode cL_law 857 = .ok (.ifCond .eq 11, 3) := by decide +kernel
theorem dL_law_860 : decode cL_law 860 = .ok (.dload 8, 2) := by decide +kernel
theorem dL_law_862 : decode cL_law 862 = .ok (.dload 8, 2) := by decide +kernel
theorem dL_law_864 : decode cL_law 864 = .ok (.dcmp .l, 1) := by decide +kernel
theorem dL_law_865 : decode cL_law 865 = .ok (.ifCond .ne 5, 3) := by decide +kernel
theorem dL_law_868 : decode cL_law 868 = .ok (.iconst 0, 1) := by decide +kernel
theorem dL_law_869 : decode cL_law 869 = .ok (.ireturn, 1) := by decide +kernel
theorem dL_law_870 : decode cL_law 870 = .ok (.goto 1465, 3) := by decide +kernel
theorem dL_law_873 : decode cL_law 873 = .ok (.aload_n 1, 1) := by decide +kernel
theorem dL_law_874 : decode cL_law 874 = .ok (.aload_n 0, 1) := by decide +kernel
theorem dL_law_875 : decode cL_law 875 = .ok (.iload 5, 2) := by decide +kernel
theorem dL_law_877 : decode cL_law 877 = .ok (.iconst 1, 1) := by decide +kernel
theorem dL_law_878 : decode cL_law 878 = .ok (.iadd, 1) := by decide +kernel
theorem dL_law_879 : decode cL_law 879 = .ok (.iaload, 1) := by decide +kernel
theorem dL_law_880 : decode cL_law 880 = .ok (.aload 4, 2) := by decide +kernel
theorem dL_law_882 : decode cL_law 882 = .ok (.invokestatic 169, 3) := by decide +kernel
theorem dL_law_885 : decode cL_law 885 = .ok (.istore 6, 2) := by decide +kernel
theorem dL_law_887 : decode cL_law 887 = .ok (.aload_n 2, 1) := by decide +kernel
theorem dL_law_888 : decode cL_law 888 = .ok (.aload_n 0, 1) := by decide +kernel
theorem dL_law_889 : decode cL_law 889 = .ok (.iload 5, 2) := by decide +kernel
theorem dL_law_891 : decode cL_law 891 = .ok (.iconst 1, 1) := by decide +kernel
theorem dL_law_892 : decode cL_law 892 = .ok (.iadd, 1) := by decide +kernel
theorem dL_law_893 : decode cL_law 893 = .ok (.iaload, 1) := by decide +kernel
theorem dL_law_894 : decode cL_law 894 = .ok (.invokevirtual 172, 3) := by decide +kernel
theorem dL_law_897 : decode cL_law 897 = .ok (.dstore 7, 2) := by decide +kernel
theorem dL_law_899 : decode cL_law 899 = .ok (.aload_n 2, 1) := by decide +kernel
theorem dL_law_900 : decode cL_law 900 = .ok (.invokevirtual 132, 3) := by decide +kernel
theorem dL_law_903 : decode cL_law 903 = .ok (.iload 6, 2) := by decide +kernel
theorem dL_law_905 : decode cL_law 905 = .ok (.if_icmp .eq 5, 3) := by decide +kernel
theorem dL_law_908 : decode cL_law 908 = .ok (.iconst 0, 1) := by decide +kernel
theorem dL_law_909 : decode cL_law 909 = .ok (.ireturn, 1) := by decide +kernel
theorem dL_law_910 : decode cL_law 910 = .ok (.iload 6, 2) := by decide +kernel
theorem dL_law_912 : decode cL_law 912 = .ok (.ifCond .ne 35, 3) := by decide +kernel
theorem dL_law_915 : decode cL_law 915 = .ok (.aload 4, 2) := by decide +kernel
theorem dL_law_917 : decode cL_law 917 = .ok (.iconst 0, 1) := by decide +kernel
theorem dL_law_918 : decode cL_law 918 = .ok (.daload, 1) := by decide +kernel
theorem dL_law_919 : decode cL_law 919 = .ok (.dload 7, 2) := by decide +kernel
theorem dL_law_921 : decode cL_law 921 = .ok (.dcmp .l, 1) := by decide +kernel
theorem dL_law_922 : decode cL_law 922 = .ok (.ifCond .eq 25, 3) := by decide +kernel
theorem dL_law_925 : decode cL_law 925 = .ok (.aload 4, 2) := by decide +kernel
theorem dL_law_927 : decode cL_law 927 = .ok (.iconst 0, 1) := by decide +kernel
theorem dL_law_928 : decode cL_law 928 = .ok (.daload, 1) := by decide +kernel
theorem dL_law_929 : decode cL_law 929 = .ok (.aload 4, 2) := by decide +kernel
theorem dL_law_931 : decode cL_law 931 = .ok (.iconst 0, 1) := by decide +kernel
theorem dL_law_932 : decode cL_law 932 = .ok (.daload, 1) := by decide +kernel
theorem dL_law_933 : decode cL_law 933 = .ok (.dcmp .l, 1) := by decide +kernel
theorem dL_law_934 : decode cL_law 934 = .ok (.ifCond .eq 11, 3) := by decide +kernel
theorem dL_law_937 : decode cL_law 937 = .ok (.dload 7, 2) := by decide +kernel
theorem dL_law_939 : decode cL_law 939 = .ok (.dload 7, 2) := by decide +kernel
theorem dL_law_941 : decode cL_law 941 = .ok (.dcmp .l, 1) := by decide +kernel
theorem dL_law_942 : decode cL_law 942 = .ok (.ifCond .ne 5, 3) := by decide +kernel
theorem dL_law_945 : decode cL_law 945 = .ok (.iconst 0, 1) := by decide +kernel
theorem dL_law_946 : decode cL_law 946 = .ok (.ireturn, 1) := by decide +kernel
theorem dL_law_947 : decode cL_law 947 = .ok (.goto 1388, 3) := by decide +kernel
theorem dL_law_950 : decode cL_law 950 = .ok (.aload_n 1, 1) := by decide +kernel
theorem dL_law_951 : decode cL_law 951 = .ok (.aload_n 0, 1) := by decide +kernel
theorem dL_law_952 : decode cL_law 952 = .ok (.iload 5, 2) := by decide +kernel
theorem dL_law_954 : decode cL_law 954 = .ok (.iconst 1, 1) := by decide +kernel
theorem dL_law_955 : decode cL_law 955 = .ok (.iadd, 1) := by decide +kernel
theorem dL_law_956 : decode cL_law 956 = .ok (.iaload, 1) := by decide +kernel
theorem dL_law_957 : decode cL_law 957 = .ok (.aload_n 3, 1) := by decide +kernel
theorem dL_law_958 : decode cL_law 958 = .ok (.invokestatic 173, 3) := by decide +kernel
theorem dL_law_961 : decode cL_law 961 = .ok (.istore 6, 2) := by decide +kernel
theorem dL_law_963 : decode cL_law 963 = .ok (.aload_n 2, 1) := by decide +kernel
theorem dL_law_964 : decode cL_law 964 = .ok (.aload_n 0, 1) := by decide +kernel
theorem dL_law_965 : decode cL_law 965 = .ok (.iload 5, 2) := by decide +kernel
theorem dL_law_967 : decode cL_law 967 = .ok (.iconst 1, 1) := by decide +kernel
theorem dL_law_968 : decode cL_law 968 = .ok (.iadd, 1) := by decide +kernel
theorem dL_law_969 : decode cL_law 969 = .ok (.iaload, 1) := by decide +kernel
theorem dL_law_970 : decode cL_law 970 = .ok (.invokevirtual 175, 3) := by decide +kernel
theorem dL_law_973 : decode cL_law 973 = .ok (.istore 7, 2) := by decide +kernel
theorem dL_law_975 : decode cL_law 975 = .ok (.aload_n 2, 1) := by decide +kernel
theorem dL_law_976 : decode cL_law 976 = .ok (.invokevirtual 132, 3) := by decide +kernel
theorem dL_law_979 : decode cL_law 979 = .ok (.iload 6, 2) := by decide +kernel
theorem dL_law_981 : decode cL_law 981 = .ok (.if_icmp .eq 5, 3) := by decide +kernel
theorem dL_law_984 : decode cL_law 984 = .ok (.iconst 0, 1) := by decide +kernel
theorem dL_law_985 : decode cL_law 985 = .ok (.ireturn, 1) := by decide +kernel
theorem dL_law_986 : decode cL_law 986 = .ok (.iload 6, 2) := by decide +kernel
theorem dL_law_988 : decode cL_law 988 = .ok (.ifCond .ne 15, 3) := by decide +kernel
theorem dL_law_991 : decode cL_law 991 = .ok (.aload_n 3, 1) := by decide +kernel
theorem dL_law_992 : decode cL_law 992 = .ok (.iconst 0, 1) := by decide +kernel
theorem dL_law_993 : decode cL_law 993 = .ok (.laload, 1) := by decide +kernel
theorem dL_law_994 : decode cL_law 994 = .ok (.iload 7, 2) := by decide +kernel
theorem dL_law_996 : decode cL_law 996 = .ok (.i2l, 1) := by decide +kernel
theorem dL_law_997 : decode cL_law 997 = .ok (.lcmp, 1) := by decide +kernel
theorem dL_law_998 : decode cL_law 998 = .ok (.ifCond .eq 5, 3) := by decide +kernel
theorem dL_law_1001 : decode cL_law 1001 = .ok (.iconst 0, 1) := by decide +kernel
theorem dL_law_1002 : decode cL_law 1002 = .ok (.ireturn, 1) := by decide +kernel
theorem dL_law_1003 : decode cL_law 1003 = .ok (.goto 1332, 3) := by decide +kernel
theorem dL_law_1006 : decode cL_law 1006 = .ok (.aload_n 1, 1) := by decide +kernel
theorem dL_law_1007 : decode cL_law 1007 = .ok (.aload_n 0, 1) := by decide +kernel
theorem dL_law_1008 : decode cL_law 1008 = .ok (.iload 5, 2) := by decide +kernel
theorem dL_law_1010 : decode cL_law 1010 = .ok (.iconst 1, 1) := by decide +kernel
theorem dL_law_1011 : decode cL_law 1011 = .ok (.iadd, 1) := by decide +kernel
theorem dL_law_1012 : decode cL_law 1012 = .ok (.iaload, 1) := by decide +kernel
theorem dL_law_1013 : decode cL_law 1013 = .ok (.aload_n 0, 1) := by decide +kernel
theorem dL_law_1014 : decode cL_law 1014 = .ok (.iload 5, 2) := by decide +kernel
theorem dL_law_1016 : decode cL_law 1016 = .ok (.iconst 2, 1) := by decide +kernel
theorem dL_law_1017 : decode cL_law 1017 = .ok (.iadd, 1) := by decide +kernel
theorem dL_law_1018 : decode cL_law 1018 = .ok (.iaload, 1) := by decide +kernel
theorem dL_law_1019 : decode cL_law 1019 = .ok (.aload_n 3, 1) := by decide +kernel
theorem dL_law_1020 : decode cL_law 1020 = .ok (.invokestatic 176, 3) := by decide +kernel
theorem dL_law_1023 : decode cL_law 1023 = .ok (.istore 6, 2) := by decide +kernel
theorem dL_law_1025 : decode cL_law 1025 = .ok (.aload_n 2, 1) := by decide +kernel
theorem dL_law_1026 : decode cL_law 1026 = .ok (.aload_n 0, 1) := by decide +kernel
theorem dL_law_1027 : decode cL_law 1027 = .ok (.iload 5, 2) := by decide +kernel
theorem dL_law_1029 : decode cL_law 1029 = .ok (.iconst 1, 1) := by decide +kernel
theorem dL_law_1030 : decode cL_law 1030 = .ok (.iadd, 1) := by decide +kernel
theorem dL_law_1031 : decode cL_law 1031 = .ok (.iaload, 1) := by decide +kernel
theorem dL_law_1032 : decode cL_law 1032 = .ok (.aload_n 0, 1) := by decide +kernel
theorem dL_law_1033 : decode cL_law 1033 = .ok (.iload 5, 2) := by decide +kernel
theorem dL_law_1035 : decode cL_law 1035 = .ok (.iconst 2, 1) := by decide +kernel
theorem dL_law_1036 : decode cL_law 1036 = .ok (.iadd, 1) := by decide +kernel
theorem dL_law_1037 : decode cL_law 1037 = .ok (.iaload, 1) := by decide +kernel
theorem dL_law_1038 : decode cL_law 1038 = .ok (.invokevirtual 178, 3) := by decide +kernel
theorem dL_law_1041 : decode cL_law 1041 = .ok (.istore 7, 2) := by decide +kernel
theorem dL_law_1043 : decode cL_law 1043 = .ok (.aload_n 2, 1) := by decide +kernel
theorem dL_law_1044 : decode cL_law 1044 = .ok (.invokevirtual 132, 3) := by decide +kernel
theorem dL_law_1047 : decode cL_law 1047 = .ok (.iload 6, 2) := by decide +kernel
theorem dL_law_1049 : decode cL_law 1049 = .ok (.if_icmp .eq 5, 3) := by decide +kernel
theorem dL_law_1052 : decode cL_law 1052 = .ok (.iconst 0, 1) := by decide +kernel
theorem dL_law_1053 : decode cL_law 1053 = .ok (.ireturn, 1) := by decide +kernel
theorem dL_law_1054 : decode cL_law 1054 = .ok (.iload 6, 2) := by decide +kernel
theorem dL_law_1056 : decode cL_law 1056 = .ok (.ifCond .ne 15, 3) := by decide +kernel
theorem dL_law_1059 : decode cL_law 1059 = .ok (.aload_n 3, 1) := by decide +kernel
theorem dL_law_1060 : decode cL_law 1060 = .ok (.iconst 0, 1) := by decide +kernel
theorem dL_law_1061 : decode cL_law 1061 = .ok (.laload, 1) := by decide +kernel
theorem dL_law_1062 : decode cL_law 1062 = .ok (.iload 7, 2) := by decide +kernel
theorem dL_law_1064 : decode cL_law 1064 = .ok (.i2l, 1) := by decide +kernel
theorem dL_law_1065 : decode cL_law 1065 = .ok (.lcmp, 1) := by decide +kernel
theorem dL_law_1066 : decode cL_law 1066 = .ok (.ifCond .eq 5, 3) := by decide +kernel
theorem dL_law_1069 : decode cL_law 1069 = .ok (.iconst 0, 1) := by decide +kernel
theorem dL_law_1070 : decode cL_law 1070 = .ok (.ireturn, 1) := by decide +kernel
theorem dL_law_1071 : decode cL_law 1071 = .ok (.goto 1264, 3) := by decide +kernel
theorem dL_law_1074 : decode cL_law 1074 = .ok (.aload_n 1, 1) := by decide +kernel
theorem dL_law_1075 : decode cL_law 1075 = .ok (.invokevirtual 179, 3) := by decide +kernel
theorem dL_law_1078 : decode cL_law 1078 = .ok (.aload_n 2, 1) := by decide +kernel
theorem dL_law_1079 : decode cL_law 1079 = .ok (.invokevirtual 182, 3) := by decide +kernel
theorem dL_law_1082 : decode cL_law 1082 = .ok (.if_icmp .eq 1253, 3) := by decide +kernel
theorem dL_law_1085 : decode cL_law 1085 = .ok (.iconst 0, 1) := by decide +kernel
theorem dL_law_1086 : decode cL_law 1086 = .ok (.ireturn, 1) := by decide +kernel
theorem dL_law_1087 : decode cL_law 1087 = .ok (.aload_n 1, 1) := by decide +kernel
theorem dL_law_1088 : decode cL_law 1088 = .ok (.invokevirtual 183, 3) := by decide +kernel
theorem dL_law_1091 : decode cL_law 1091 = .ok (.aload_n 2, 1) := by decide +kernel
theorem dL_law_1092 : decode cL_law 1092 = .ok (.invokevirtual 186, 3) := by decide +kernel
theorem dL_law_1095 : decode cL_law 1095 = .ok (.if_icmp .eq 1240, 3) := by decide +kernel
theorem dL_law_1098 : decode cL_law 1098 = .ok (.iconst 0, 1) := by decide +kernel
theorem dL_law_1099 : decode cL_law 1099 = .ok (.ireturn, 1) := by decide +kernel
theorem dL_law_1100 : decode cL_law 1100 = .ok (.aload_n 1, 1) := by decide +kernel
theorem dL_law_1101 : decode cL_law 1101 = .ok (.aload_n 0, 1) := by decide +kernel
theorem dL_law_1102 : decode cL_law 1102 = .ok (.iload 5, 2) := by decide +kernel
theorem dL_law_1104 : decode cL_law 1104 = .ok (.iconst 1, 1) := by decide +kernel
theorem dL_law_1105 : decode cL_law 1105 = .ok (.iadd, 1) := by decide +kernel
theorem dL_law_1106 : decode cL_law 1106 = .ok (.iaload, 1) := by decide +kernel
theorem dL_law_1107 : decode cL_law 1107 = .ok (.aload 4, 2) := by decide +kernel
theorem dL_law_1109 : decode cL_law 1109 = .ok (.invokestatic 187, 3) := by decide +kernel
theorem dL_law_1112 : decode cL_law 1112 = .ok (.istore 6, 2) := by decide +kernel
theorem dL_law_1114 : decode cL_law 1114 = .ok (.aload_n 2, 1) := by decide +kernel
theorem dL_law_1115 : decode cL_law 1115 = .ok (.aload_n 0, 1) := by decide +kernel
theorem dL_law_1116 : decode cL_law 1116 = .ok (.iload 5, 2) := by decide +kernel
theorem dL_law_1118 : decode cL_law 1118 = .ok (.iconst 1, 1) := by decide +kernel
theorem dL_law_1119 : decode cL_law 1119 = .ok (.iadd, 1) := by decide +kernel
theorem dL_law_1120 : decode cL_law 1120 = .ok (.iaload, 1) := by decide +kernel
theorem dL_law_1121 : decode cL_law 1121 = .ok (.invokevirtual 189, 3) := by decide +kernel
theorem dL_law_1124 : decode cL_law 1124 = .ok (.dstore 7, 2) := by decide +kernel
theorem dL_law_1126 : decode cL_law 1126 = .ok (.aload_n 2, 1) := by decide +kernel
theorem dL_law_1127 : decode cL_law 1127 = .ok (.invokevirtual 132, 3) := by decide +kernel
theorem dL_law_1130 : decode cL_law 1130 = .ok (.iload 6, 2) := by decide +kernel
theorem dL_law_1132 : decode cL_law 1132 = .ok (.if_icmp .eq 5, 3) := by decide +kernel
theorem dL_law_1135 : decode cL_law 1135 = .ok (.iconst 0, 1) := by decide +kernel
theorem dL_law_1136 : decode cL_law 1136 = .ok (.ireturn, 1) := by decide +kernel
theorem dL_law_1137 : decode cL_law 1137 = .ok (.iload 6, 2) := by decide +kernel
theorem dL_law_1139 : decode cL_law 1139 = .ok (.ifCond .ne 35, 3) := by decide +kernel
theorem dL_law_1142 : decode cL_law 1142 = .ok (.aload 4, 2) := by decide +kernel
theorem dL_law_1144 : decode cL_law 1144 = .ok (.iconst 0, 1) := by decide +kernel
theorem dL_law_1145 : decode cL_law 1145 = .ok (.daload, 1) := by decide +kernel
theorem dL_law_1146 : decode cL_law 1146 = .ok (.dload 7, 2) := by decide +kernel
theorem dL_law_1148 : decode cL_law 1148 = .ok (.dcmp .l, 1) := by decide +kernel
theorem dL_law_1149 : decode cL_law 1149 = .ok (.ifCond .eq 25, 3) := by decide +kernel
theorem dL_law_1152 : decode cL_law 1152 = .ok (.aload 4, 2) := by decide +kernel
theorem dL_law_1154 : decode cL_law 1154 = .ok (.iconst 0, 1) := by decide +kernel
theorem dL_law_1155 : decode cL_law 1155 = .ok (.daload, 1) := by decide +kernel
theorem dL_law_1156 : decode cL_law 1156 = .ok (.aload 4, 2) := by decide +kernel
theorem dL_law_1158 : decode cL_law 1158 = .ok (.iconst 0, 1) := by decide +kernel
theorem dL_law_1159 : decode cL_law 1159 = .ok (.daload, 1) := by decide +kernel
theorem dL_law_1160 : decode cL_law 1160 = .ok (.dcmp .l, 1) := by decide +kernel
theorem dL_law_1161 : decode cL_law 1161 = .ok (.ifCond .eq 11, 3) := by decide +kernel
theorem dL_law_1164 : decode cL_law 1164 = .ok (.dload 7, 2) := by decide +kernel
theorem dL_law_1166 : decode cL_law 1166 = .ok (.dload 7, 2) := by decide +kernel
theorem dL_law_1168 : decode cL_law 1168 = .ok (.dcmp .l, 1) := by decide +kernel
theorem dL_law_1169 : decode cL_law 1169 = .ok (.ifCond .ne 5, 3) := by decide +kernel
theorem dL_law_1172 : decode cL_law 1172 = .ok (.iconst 0, 1) := by decide +kernel
theorem dL_law_1173 : decode cL_law 1173 = .ok (.ireturn, 1) := by decide +kernel
theorem dL_law_1174 : decode cL_law 1174 = .ok (.goto 1161, 3) := by decide +kernel
theorem dL_law_1177 : decode cL_law 1177 = .ok (.aload_n 1, 1) := by decide +kernel
theorem dL_law_1178 : decode cL_law 1178 = .ok (.aload_n 0, 1) := by decide +kernel
theorem dL_law_1179 : decode cL_law 1179 = .ok (.iload 5, 2) := by decide +kernel
theorem dL_law_1181 : decode cL_law 1181 = .ok (.iconst 1, 1) := by decide +kernel
theorem dL_law_1182 : decode cL_law 1182 = .ok (.iadd, 1) := by decide +kernel
theorem dL_law_1183 : decode cL_law 1183 = .ok (.iaload, 1) := by decide +kernel
theorem dL_law_1184 : decode cL_law 1184 = .ok (.aload_n 3, 1) := by decide +kernel
theorem dL_law_1185 : decode cL_law 1185 = .ok (.invokestatic 190, 3) := by decide +kernel
theorem dL_law_1188 : decode cL_law 1188 = .ok (.istore 6, 2) := by decide +kernel
theorem dL_law_1190 : decode cL_law 1190 = .ok (.aload_n 2, 1) := by decide +kernel
theorem dL_law_1191 : decode cL_law 1191 = .ok (.aload_n 0, 1) := by decide +kernel
theorem dL_law_1192 : decode cL_law 1192 = .ok (.iload 5, 2) := by decide +kernel
theorem dL_law_1194 : decode cL_law 1194 = .ok (.iconst 1, 1) := by decide +kernel
theorem dL_law_1195 : decode cL_law 1195 = .ok (.iadd, 1) := by decide +kernel
theorem dL_law_1196 : decode cL_law 1196 = .ok (.iaload, 1) := by decide +kernel
theorem dL_law_1197 : decode cL_law 1197 = .ok (.invokevirtual 192, 3) := by decide +kernel
theorem dL_law_1200 : decode cL_law 1200 = .ok (.istore 7, 2) := by decide +kernel
theorem dL_law_1202 : decode cL_law 1202 = .ok (.aload_n 2, 1) := by decide +kernel
theorem dL_law_1203 : decode cL_law 1203 = .ok (.invokevirtual 132, 3) := by decide +kernel
theorem dL_law_1206 : decode cL_law 1206 = .ok (.iload 6, 2) := by decide +kernel
theorem dL_law_1208 : decode cL_law 1208 = .ok (.if_icmp .eq 5, 3) := by decide +kernel
theorem dL_law_1211 : decode cL_law 1211 = .ok (.iconst 0, 1) := by decide +kernel
theorem dL_law_1212 : decode cL_law 1212 = .ok (.ireturn, 1) := by decide +kernel
theorem dL_law_1213 : decode cL_law 1213 = .ok (.iload 6, 2) := by decide +kernel
theorem dL_law_1215 : decode cL_law 1215 = .ok (.ifCond .ne 15, 3) := by decide +kernel
theorem dL_law_1218 : decode cL_law 1218 = .ok (.aload_n 3, 1) := by decide +kernel
theorem dL_law_1219 : decode cL_law 1219 = .ok (.iconst 0, 1) := by decide +kernel
theorem dL_law_1220 : decode cL_law 1220 = .ok (.laload, 1) := by decide +kernel
theorem dL_law_1221 : decode cL_law 1221 = .ok (.iload 7, 2) := by decide +kernel
theorem dL_law_1223 : decode cL_law 1223 = .ok (.i2l, 1) := by decide +kernel
theorem dL_law_1224 : decode cL_law 1224 = .ok (.lcmp, 1) := by decide +kernel
theorem dL_law_1225 : decode cL_law 1225 = .ok (.ifCond .eq 5, 3) := by decide +kernel
theorem dL_law_1228 : decode cL_law 1228 = .ok (.iconst 0, 1) := by decide +kernel
theorem dL_law_1229 : decode cL_law 1229 = .ok (.ireturn, 1) := by decide +kernel
theorem dL_law_1230 : decode cL_law 1230 = .ok (.goto 1105, 3) := by decide +kernel
theorem dL_law_1233 : decode cL_law 1233 = .ok (.aload_n 1, 1) := by decide +kernel
theorem dL_law_1234 : decode cL_law 1234 = .ok (.aload_n 0, 1) := by decide +kernel
theorem dL_law_1235 : decode cL_law 1235 = .ok (.iload 5, 2) := by decide +kernel
theorem dL_law_1237 : decode cL_law 1237 = .ok (.iconst 1, 1) := by decide +kernel
theorem dL_law_1238 : decode cL_law 1238 = .ok (.iadd, 1) := by decide +kernel
theorem dL_law_1239 : decode cL_law 1239 = .ok (.iaload, 1) := by decide +kernel
theorem dL_law_1240 : decode cL_law 1240 = .ok (.aload_n 0, 1) := by decide +kernel
theorem dL_law_1241 : decode cL_law 1241 = .ok (.iload 5, 2) := by decide +kernel
theorem dL_law_1243 : decode cL_law 1243 = .ok (.iconst 2, 1) := by decide +kernel
theorem dL_law_1244 : decode cL_law 1244 = .ok (.iadd, 1) := by decide +kernel
theorem dL_law_1245 : decode cL_law 1245 = .ok (.iaload, 1) := by decide +kernel
theorem dL_law_1246 : decode cL_law 1246 = .ok (.aload_n 0, 1) := by decide +kernel
theorem dL_law_1247 : decode cL_law 1247 = .ok (.iload 5, 2) := by decide +kernel
theorem dL_law_1249 : decode cL_law 1249 = .ok (.iconst 3, 1) := by decide +kernel
theorem dL_law_1250 : decode cL_law 1250 = .ok (.iadd, 1) := by decide +kernel
theorem dL_law_1251 : decode cL_law 1251 = .ok (.iaload, 1) := by decide +kernel
theorem dL_law_1252 : decode cL_law 1252 = .ok (.aload_n 3, 1) := by decide +kernel
theorem dL_law_1253 : decode cL_law 1253 = .ok (.invokestatic 193, 3) := by decide +kernel
theorem dL_law_1256 : decode cL_law 1256 = .ok (.istore 6, 2) := by decide +kernel
theorem dL_law_1258 : decode cL_law 1258 = .ok (.aload_n 2, 1) := by decide +kernel
theorem dL_law_1259 : decode cL_law 1259 = .ok (.aload_n 0, 1) := by decide +kernel
theorem dL_law_1260 : decode cL_law 1260 = .ok (.iload 5, 2) := by decide +kernel
theorem dL_law_1262 : decode cL_law 1262 = .ok (.iconst 1, 1) := by decide +kernel
theorem dL_law_1263 : decode cL_law 1263 = .ok (.iadd, 1) := by decide +kernel
theorem dL_law_1264 : decode cL_law 1264 = .ok (.iaload, 1) := by decide +kernel
theorem dL_law_1265 : decode cL_law 1265 = .ok (.aload_n 0, 1) := by decide +kernel
theorem dL_law_1266 : decode cL_law 1266 = .ok (.iload 5, 2) := by decide +kernel
theorem dL_law_1268 : decode cL_law 1268 = .ok (.iconst 2, 1) := by decide +kernel
theorem dL_law_1269 : decode cL_law 1269 = .ok (.iadd, 1) := by decide +kernel
theorem dL_law_1270 : decode cL_law 1270 = .ok (.iaload, 1) := by decide +kernel
theorem dL_law_1271 : decode cL_law 1271 = .ok (.aload_n 0, 1) := by decide +kernel
theorem dL_law_1272 : decode cL_law 1272 = .ok (.iload 5, 2) := by decide +kernel
theorem dL_law_1274 : decode cL_law 1274 = .ok (.iconst 3, 1) := by decide +kernel
theorem dL_law_1275 : decode cL_law 1275 = .ok (.iadd, 1) := by decide +kernel
theorem dL_law_1276 : decode cL_law 1276 = .ok (.iaload, 1) := by decide +kernel
theorem dL_law_1277 : decode cL_law 1277 = .ok (.invokevirtual 196, 3) := by decide +kernel
theorem dL_law_1280 : decode cL_law 1280 = .ok (.lstore 7, 2) := by decide +kernel
theorem dL_law_1282 : decode cL_law 1282 = .ok (.aload_n 2, 1) := by decide +kernel
theorem dL_law_1283 : decode cL_law 1283 = .ok (.invokevirtual 132, 3) := by decide +kernel
theorem dL_law_1286 : decode cL_law 1286 = .ok (.iload 6, 2) := by decide +kernel
theorem dL_law_1288 : decode cL_law 1288 = .ok (.if_icmp .eq 5, 3) := by decide +kernel
theorem dL_law_1291 : decode cL_law 1291 = .ok (.iconst 0, 1) := by decide +kernel
theorem dL_law_1292 : decode cL_law 1292 = .ok (.ireturn, 1) := by decide +kernel
theorem dL_law_1293 : decode cL_law 1293 = .ok (.iload 6, 2) := by decide +kernel
theorem dL_law_1295 : decode cL_law 1295 = .ok (.ifCond .ne 14, 3) := by decide +kernel
theorem dL_law_1298 : decode cL_law 1298 = .ok (.aload_n 3, 1) := by decide +kernel
theorem dL_law_1299 : decode cL_law 1299 = .ok (.iconst 0, 1) := by decide +kernel
theorem dL_law_1300 : decode cL_law 1300 = .ok (.laload, 1) := by decide +kernel
theorem dL_law_1301 : decode cL_law 1301 = .ok (.lload 7, 2) := by decide +kernel
theorem dL_law_1303 : decode cL_law 1303 = .ok (.lcmp, 1) := by decide +kernel
theorem dL_law_1304 : decode cL_law 1304 = .ok (.ifCond .eq 5, 3) := by decide +kernel
theorem dL_law_1307 : decode cL_law 1307 = .ok (.iconst 0, 1) := by decide +kernel
theorem dL_law_1308 : decode cL_law 1308 = .ok (.ireturn, 1) := by decide +kernel
theorem dL_law_1309 : decode cL_law 1309 = .ok (.goto 1026, 3) := by decide +kernel
theorem dL_law_1312 : decode cL_law 1312 = .ok (.aload_n 1, 1) := by decide +kernel
theorem dL_law_1313 : decode cL_law 1313 = .ok (.aload_n 0, 1) := by decide +kernel
theorem dL_law_1314 : decode cL_law 1314 = .ok (.iload 5, 2) := by decide +kernel
theorem dL_law_1316 : decode cL_law 1316 = .ok (.iconst 1, 1) := by decide +kernel
theorem dL_law_1317 : decode cL_law 1317 = .ok (.iadd, 1) := by decide +kernel
theorem dL_law_1318 : decode cL_law 1318 = .ok (.iaload, 1) := by decide +kernel
theorem dL_law_1319 : decode cL_law 1319 = .ok (.aload_n 3, 1) := by decide +kernel
theorem dL_law_1320 : decode cL_law 1320 = .ok (.invokestatic 197, 3) := by decide +kernel
theorem dL_law_1323 : decode cL_law 1323 = .ok (.istore 6, 2) := by decide +kernel
theorem dL_law_1325 : decode cL_law 1325 = .ok (.aload_n 2, 1) := by decide +kernel
theorem dL_law_1326 : decode cL_law 1326 = .ok (.aload_n 0, 1) := by decide +kernel
theorem dL_law_1327 : decode cL_law 1327 = .ok (.iload 5, 2) := by decide +kernel
theorem dL_law_1329 : decode cL_law 1329 = .ok (.iconst 1, 1) := by decide +kernel
theorem dL_law_1330 : decode cL_law 1330 = .ok (.iadd, 1) := by decide +kernel
theorem dL_law_1331 : decode cL_law 1331 = .ok (.iaload, 1) := by decide +kernel
theorem dL_law_1332 : decode cL_law 1332 = .ok (.invokevirtual 199, 3) := by decide +kernel
theorem dL_law_1335 : decode cL_law 1335 = .ok (.istore 7, 2) := by decide +kernel
theorem dL_law_1337 : decode cL_law 1337 = .ok (.aload_n 2, 1) := by decide +kernel
theorem dL_law_1338 : decode cL_law 1338 = .ok (.invokevirtual 132, 3) := by decide +kernel
theorem dL_law_1341 : decode cL_law 1341 = .ok (.iload 6, 2) := by decide +kernel
theorem dL_law_1343 : decode cL_law 1343 = .ok (.if_icmp .eq 5, 3) := by decide +kernel
theorem dL_law_1346 : decode cL_law 1346 = .ok (.iconst 0, 1) := by decide +kernel
theorem dL_law_1347 : decode cL_law 1347 = .ok (.ireturn, 1) := by decide +kernel
theorem dL_law_1348 : decode cL_law 1348 = .ok (.iload 6, 2) := by decide +kernel
theorem dL_law_1350 : decode cL_law 1350 = .ok (.ifCond .ne 15, 3) := by decide +kernel
theorem dL_law_1353 : decode cL_law 1353 = .ok (.aload_n 3, 1) := by decide +kernel
theorem dL_law_1354 : decode cL_law 1354 = .ok (.iconst 0, 1) := by decide +kernel
theorem dL_law_1355 : decode cL_law 1355 = .ok (.laload, 1) := by decide +kernel
theorem dL_law_1356 : decode cL_law 1356 = .ok (.iload 7, 2) := by decide +kernel
theorem dL_law_1358 : decode cL_law 1358 = .ok (.i2l, 1) := by decide +kernel
theorem dL_law_1359 : decode cL_law 1359 = .ok (.lcmp, 1) := by decide +kernel
theorem dL_law_1360 : decode cL_law 1360 = .ok (.ifCond .eq 5, 3) := by decide +kernel
theorem dL_law_1363 : decode cL_law 1363 = .ok (.iconst 0, 1) := by decide +kernel
theorem dL_law_1364 : decode cL_law 1364 = .ok (.ireturn, 1) := by decide +kernel
theorem dL_law_1365 : decode cL_law 1365 = .ok (.goto 970, 3) := by decide +kernel
theorem dL_law_1368 : decode cL_law 1368 = .ok (.aload_n 1, 1) := by decide +kernel
theorem dL_law_1369 : decode cL_law 1369 = .ok (.aload_n 0, 1) := by decide +kernel
theorem dL_law_1370 : decode cL_law 1370 = .ok (.iload 5, 2) := by decide +kernel
theorem dL_law_1372 : decode cL_law 1372 = .ok (.iconst 1, 1) := by decide +kernel
theorem dL_law_1373 : decode cL_law 1373 = .ok (.iadd, 1) := by decide +kernel
theorem dL_law_1374 : decode cL_law 1374 = .ok (.iaload, 1) := by decide +kernel
theorem dL_law_1375 : decode cL_law 1375 = .ok (.aload_n 3, 1) := by decide +kernel
theorem dL_law_1376 : decode cL_law 1376 = .ok (.invokestatic 200, 3) := by decide +kernel
theorem dL_law_1379 : decode cL_law 1379 = .ok (.istore 6, 2) := by decide +kernel
theorem dL_law_1381 : decode cL_law 1381 = .ok (.aload_n 2, 1) := by decide +kernel
theorem dL_law_1382 : decode cL_law 1382 = .ok (.aload_n 0, 1) := by decide +kernel
theorem dL_law_1383 : decode cL_law 1383 = .ok (.iload 5, 2) := by decide +kernel
theorem dL_law_1385 : decode cL_law 1385 = .ok (.iconst 1, 1) := by decide +kernel
theorem dL_law_1386 : decode cL_law 1386 = .ok (.iadd, 1) := by decide +kernel
theorem dL_law_1387 : decode cL_law 1387 = .ok (.iaload, 1) := by decide +kernel
theorem dL_law_1388 : decode cL_law 1388 = .ok (.invokevirtual 202, 3) := by decide +kernel
theorem dL_law_1391 : decode cL_law 1391 = .ok (.istore 7, 2) := by decide +kernel
theorem dL_law_1393 : decode cL_law 1393 = .ok (.aload_n 2, 1) := by decide +kernel
theorem dL_law_1394 : decode cL_law 1394 = .ok (.invokevirtual 132, 3) := by decide +kernel
theorem dL_law_1397 : decode cL_law 1397 = .ok (.iload 6, 2) := by decide +kernel
theorem dL_law_1399 : decode cL_law 1399 = .ok (.if_icmp .eq 5, 3) := by decide +kernel
theorem dL_law_1402 : decode cL_law 1402 = .ok (.iconst 0, 1) := by decide +kernel
theorem dL_law_1403 : decode cL_law 1403 = .ok (.ireturn, 1) := by decide +kernel
theorem dL_law_1404 : decode cL_law 1404 = .ok (.iload 6, 2) := by decide +kernel
theorem dL_law_1406 : decode cL_law 1406 = .ok (.ifCond .ne 15, 3) := by decide +kernel
theorem dL_law_1409 : decode cL_law 1409 = .ok (.aload_n 3, 1) := by decide +kernel
theorem dL_law_1410 : decode cL_law 1410 = .ok (.iconst 0, 1) := by decide +kernel
theorem dL_law_1411 : decode cL_law 1411 = .ok (.laload, 1) := by decide +kernel
theorem dL_law_1412 : decode cL_law 1412 = .ok (.iload 7, 2) := by decide +kernel
theorem dL_law_1414 : decode cL_law 1414 = .ok (.i2l, 1) := by decide +kernel
theorem dL_law_1415 : decode cL_law 1415 = .ok (.lcmp, 1) := by decide +kernel
theorem dL_law_1416 : decode cL_law 1416 = .ok (.ifCond .eq 5, 3) := by decide +kernel
theorem dL_law_1419 : decode cL_law 1419 = .ok (.iconst 0, 1) := by decide +kernel
theorem dL_law_1420 : decode cL_law 1420 = .ok (.ireturn, 1) := by decide +kernel
theorem dL_law_1421 : decode cL_law 1421 = .ok (.goto 914, 3) := by decide +kernel
theorem dL_law_1424 : decode cL_law 1424 = .ok (.aload_n 1, 1) := by decide +kernel
theorem dL_law_1425 : decode cL_law 1425 = .ok (.aload_n 0, 1) := by decide +kernel
theorem dL_law_1426 : decode cL_law 1426 = .ok (.iload 5, 2) := by decide +kernel
theorem dL_law_1428 : decode cL_law 1428 = .ok (.iconst 1, 1) := by decide +kernel
theorem dL_law_1429 : decode cL_law 1429 = .ok (.iadd, 1) := by decide +kernel
theorem dL_law_1430 : decode cL_law 1430 = .ok (.iaload, 1) := by decide +kernel
theorem dL_law_1431 : decode cL_law 1431 = .ok (.aload_n 0, 1) := by decide +kernel
theorem dL_law_1432 : decode cL_law 1432 = .ok (.iload 5, 2) := by decide +kernel
theorem dL_law_1434 : decode cL_law 1434 = .ok (.iconst 2, 1) := by decide +kernel
theorem dL_law_1435 : decode cL_law 1435 = .ok (.iadd, 1) := by decide +kernel
theorem dL_law_1436 : decode cL_law 1436 = .ok (.iaload, 1) := by decide +kernel
theorem dL_law_1437 : decode cL_law 1437 = .ok (.aload_n 3, 1) := by decide +kernel
theorem dL_law_1438 : decode cL_law 1438 = .ok (.invokestatic 203, 3) := by decide +kernel
theorem dL_law_1441 : decode cL_law 1441 = .ok (.istore 6, 2) := by decide +kernel
theorem dL_law_1443 : decode cL_law 1443 = .ok (.aload_n 2, 1) := by decide +kernel
theorem dL_law_1444 : decode cL_law 1444 = .ok (.aload_n 0, 1) := by decide +kernel
theorem dL_law_1445 : decode cL_law 1445 = .ok (.iload 5, 2) := by decide +kernel
theorem dL_law_1447 : decode cL_law 1447 = .ok (.iconst 1, 1) := by decide +kernel
theorem dL_law_1448 : decode cL_law 1448 = .ok (.iadd, 1) := by decide +kernel
theorem dL_law_1449 : decode cL_law 1449 = .ok (.iaload, 1) := by decide +kernel
theorem dL_law_1450 : decode cL_law 1450 = .ok (.aload_n 0, 1) := by decide +kernel
theorem dL_law_1451 : decode cL_law 1451 = .ok (.iload 5, 2) := by decide +kernel
theorem dL_law_1453 : decode cL_law 1453 = .ok (.iconst 2, 1) := by decide +kernel
theorem dL_law_1454 : decode cL_law 1454 = .ok (.iadd, 1) := by decide +kernel
theorem dL_law_1455 : decode cL_law 1455 = .ok (.iaload, 1) := by decide +kernel
theorem dL_law_1456 : decode cL_law 1456 = .ok (.invokevirtual 205, 3) := by decide +kernel
theorem dL_law_1459 : decode cL_law 1459 = .ok (.istore 7, 2) := by decide +kernel
theorem dL_law_1461 : decode cL_law 1461 = .ok (.aload_n 2, 1) := by decide +kernel
theorem dL_law_1462 : decode cL_law 1462 = .ok (.invokevirtual 132, 3) := by decide +kernel
theorem dL_law_1465 : decode cL_law 1465 = .ok (.iload 6, 2) := by decide +kernel
theorem dL_law_1467 : decode cL_law 1467 = .ok (.if_icmp .eq 5, 3) := by decide +kernel
theorem dL_law_1470 : decode cL_law 1470 = .ok (.iconst 0, 1) := by decide +kernel
theorem dL_law_1471 : decode cL_law 1471 = .ok (.ireturn, 1) := by decide +kernel
theorem dL_law_1472 : decode cL_law 1472 = .ok (.iload 6, 2) := by decide +kernel
theorem dL_law_1474 : decode cL_law 1474 = .ok (.ifCond .ne 15, 3) := by decide +kernel
theorem dL_law_1477 : decode cL_law 1477 = .ok (.aload_n 3, 1) := by decide +kernel
theorem dL_law_1478 : decode cL_law 1478 = .ok (.iconst 0, 1) := by decide +kernel
theorem dL_law_1479 : decode cL_law 1479 = .ok (.laload, 1) := by decide +kernel
theorem dL_law_1480 : decode cL_law 1480 = .ok (.iload 7, 2) := by decide +kernel
theorem dL_law_1482 : decode cL_law 1482 = .ok (.i2l, 1) := by decide +kernel
theorem dL_law_1483 : decode cL_law 1483 = .ok (.lcmp, 1) := by decide +kernel
theorem dL_law_1484 : decode cL_law 1484 = .ok (.ifCond .eq 5, 3) := by decide +kernel
theorem dL_law_1487 : decode cL_law 1487 = .ok (.iconst 0, 1) := by decide +kernel
theorem dL_law_1488 : decode cL_law 1488 = .ok (.ireturn, 1) := by decide +kernel
theorem dL_law_1489 : decode cL_law 1489 = .ok (.goto 846, 3) := by decide +kernel
theorem dL_law_1492 : decode cL_law 1492 = .ok (.aload_n 1, 1) := by decide +kernel
theorem dL_law_1493 : decode cL_law 1493 = .ok (.aload_n 0, 1) := by decide +kernel
theorem dL_law_1494 : decode cL_law 1494 = .ok (.iload 5, 2) := by decide +kernel
theorem dL_law_1496 : decode cL_law 1496 = .ok (.iconst 1, 1) := by decide +kernel
theorem dL_law_1497 : decode cL_law 1497 = .ok (.iadd, 1) := by decide +kernel
theorem dL_law_1498 : decode cL_law 1498 = .ok (.iaload, 1) := by decide +kernel
theorem dL_law_1499 : decode cL_law 1499 = .ok (.aload_n 3, 1) := by decide +kernel
theorem dL_law_1500 : decode cL_law 1500 = .ok (.invokestatic 206, 3) := by decide +kernel
theorem dL_law_1503 : decode cL_law 1503 = .ok (.istore 6, 2) := by decide +kernel
theorem dL_law_1505 : decode cL_law 1505 = .ok (.aload_n 2, 1) := by decide +kernel
theorem dL_law_1506 : decode cL_law 1506 = .ok (.aload_n 0, 1) := by decide +kernel
theorem dL_law_1507 : decode cL_law 1507 = .ok (.iload 5, 2) := by decide +kernel
theorem dL_law_1509 : decode cL_law 1509 = .ok (.iconst 1, 1) := by decide +kernel
theorem dL_law_1510 : decode cL_law 1510 = .ok (.iadd, 1) := by decide +kernel
theorem dL_law_1511 : decode cL_law 1511 = .ok (.iaload, 1) := by decide +kernel
theorem dL_law_1512 : decode cL_law 1512 = .ok (.invokevirtual 208, 3) := by decide +kernel
theorem dL_law_1515 : decode cL_law 1515 = .ok (.istore 7, 2) := by decide +kernel
theorem dL_law_1517 : decode cL_law 1517 = .ok (.aload_n 2, 1) := by decide +kernel
theorem dL_law_1518 : decode cL_law 1518 = .ok (.invokevirtual 132, 3) := by decide +kernel
theorem dL_law_1521 : decode cL_law 1521 = .ok (.iload 6, 2) := by decide +kernel
theorem dL_law_1523 : decode cL_law 1523 = .ok (.if_icmp .eq 5, 3) := by decide +kernel
theorem dL_law_1526 : decode cL_law 1526 = .ok (.iconst 0, 1) := by decide +kernel
theorem dL_law_1527 : decode cL_law 1527 = .ok (.ireturn, 1) := by decide +kernel
theorem dL_law_1528 : decode cL_law 1528 = .ok (.iload 6, 2) := by decide +kernel
theorem dL_law_1530 : decode cL_law 1530 = .ok (.ifCond .ne 15, 3) := by decide +kernel
theorem dL_law_1533 : decode cL_law 1533 = .ok (.aload_n 3, 1) := by decide +kernel
theorem dL_law_1534 : decode cL_law 1534 = .ok (.iconst 0, 1) := by decide +kernel
theorem dL_law_1535 : decode cL_law 1535 = .ok (.laload, 1) := by decide +kernel
theorem dL_law_1536 : decode cL_law 1536 = .ok (.iload 7, 2) := by decide +kernel
theorem dL_law_1538 : decode cL_law 1538 = .ok (.i2l, 1) := by decide +kernel
theorem dL_law_1539 : decode cL_law 1539 = .ok (.lcmp, 1) := by decide +kernel
theorem dL_law_1540 : decode cL_law 1540 = .ok (.ifCond .eq 5, 3) := by decide +kernel
theorem dL_law_1543 : decode cL_law 1543 = .ok (.iconst 0, 1) := by decide +kernel
theorem dL_law_1544 : decode cL_law 1544 = .ok (.ireturn, 1) := by decide +kernel
theorem dL_law_1545 : decode cL_law 1545 = .ok (.goto 790, 3) := by decide +kernel
theorem dL_law_1548 : decode cL_law 1548 = .ok (.aload_n 1, 1) := by decide +kernel
theorem dL_law_1549 : decode cL_law 1549 = .ok (.invokevirtual 209, 3) := by decide +kernel
theorem dL_law_1552 : decode cL_law 1552 = .ok (.aload_n 2, 1) := by decide +kernel
theorem dL_law_1553 : decode cL_law 1553 = .ok (.invokevirtual 212, 3) := by decide +kernel
theorem dL_law_1556 : decode cL_law 1556 = .ok (.if_icmp .eq 779, 3) := by decide +kernel
theorem dL_law_1559 : decode cL_law 1559 = .ok (.iconst 0, 1) := by decide +kernel
theorem dL_law_1560 : decode cL_law 1560 = .ok (.ireturn, 1) := by decide +kernel
theorem dL_law_1561 : decode cL_law 1561 = .ok (.aload_n 1, 1) := by decide +kernel
theorem dL_law_1562 : decode cL_law 1562 = .ok (.aload_n 0, 1) := by decide +kernel
theorem dL_law_1563 : decode cL_law 1563 = .ok (.iload 5, 2) := by decide +kernel
theorem dL_law_1565 : decode cL_law 1565 = .ok (.iconst 1, 1) := by decide +kernel
theorem dL_law_1566 : decode cL_law 1566 = .ok (.iadd, 1) := by decide +kernel
theorem dL_law_1567 : decode cL_law 1567 = .ok (.iaload, 1) := by decide +kernel
theorem dL_law_1568 : decode cL_law 1568 = .ok (.aload_n 3, 1) := by decide +kernel
theorem dL_law_1569 : decode cL_law 1569 = .ok (.invokestatic 213, 3) := by decide +kernel
theorem dL_law_1572 : decode cL_law 1572 = .ok (.istore 6, 2) := by decide +kernel
theorem dL_law_1574 : decode cL_law 1574 = .ok (.aload_n 2, 1) := by decide +kernel
theorem dL_law_1575 : decode cL_law 1575 = .ok (.aload_n 0, 1) := by decide +kernel
theorem dL_law_1576 : decode cL_law 1576 = .ok (.iload 5, 2) := by decide +kernel
theorem dL_law_1578 : decode cL_law 1578 = .ok (.iconst 1, 1) := by decide +kernel
theorem dL_law_1579 : decode cL_law 1579 = .ok (.iadd, 1) := by decide +kernel
theorem dL_law_1580 : decode cL_law 1580 = .ok (.iaload, 1) := by decide +kernel
theorem dL_law_1581 : decode cL_law 1581 = .ok (.invokevirtual 215, 3) := by decide +kernel
theorem dL_law_1584 : decode cL_law 1584 = .ok (.istore 7, 2) := by decide +kernel
theorem dL_law_1586 : decode cL_law 1586 = .ok (.aload_n 2, 1) := by decide +kernel
theorem dL_law_1587 : decode cL_law 1587 = .ok (.invokevirtual 132, 3) := by decide +kernel
theorem dL_law_1590 : decode cL_law 1590 = .ok (.iload 6, 2) := by decide +kernel
theorem dL_law_1592 : decode cL_law 1592 = .ok (.if_icmp .eq 5, 3) := by decide +kernel
theorem dL_law_1595 : decode cL_law 1595 = .ok (.iconst 0, 1) := by decide +kernel
theorem dL_law_1596 : decode cL_law 1596 = .ok (.ireturn, 1) := by decide +kernel
theorem dL_law_1597 : decode cL_law 1597 = .ok (.iload 6, 2) := by decide +kernel
theorem dL_law_1599 : decode cL_law 1599 = .ok (.ifCond .ne 15, 3) := by decide +kernel
theorem dL_law_1602 : decode cL_law 1602 = .ok (.aload_n 3, 1) := by decide +kernel
theorem dL_law_1603 : decode cL_law 1603 = .ok (.iconst 0, 1) := by decide +kernel
theorem dL_law_1604 : decode cL_law 1604 = .ok (.laload, 1) := by decide +kernel
theorem dL_law_1605 : decode cL_law 1605 = .ok (.iload 7, 2) := by decide +kernel
theorem dL_law_1607 : decode cL_law 1607 = .ok (.i2l, 1) := by decide +kernel
theorem dL_law_1608 : decode cL_law 1608 = .ok (.lcmp, 1) := by decide +kernel
theorem dL_law_1609 : decode cL_law 1609 = .ok (.ifCond .eq 5, 3) := by decide +kernel
theorem dL_law_1612 : decode cL_law 1612 = .ok (.iconst 0, 1) := by decide +kernel
theorem dL_law_1613 : decode cL_law 1613 = .ok (.ireturn, 1) := by decide +kernel
theorem dL_law_1614 : decode cL_law 1614 = .ok (.goto 721, 3) := by decide +kernel
theorem dL_law_1617 : decode cL_law 1617 = .ok (.aload_n 1, 1) := by decide +kernel
theorem dL_law_1618 : decode cL_law 1618 = .ok (.aload_n 0, 1) := by decide +kernel
theorem dL_law_1619 : decode cL_law 1619 = .ok (.iload 5, 2) := by decide +kernel
theorem dL_law_1621 : decode cL_law 1621 = .ok (.iconst 1, 1) := by decide +kernel
theorem dL_law_1622 : decode cL_law 1622 = .ok (.iadd, 1) := by decide +kernel
theorem dL_law_1623 : decode cL_law 1623 = .ok (.iaload, 1) := by decide +kernel
theorem dL_law_1624 : decode cL_law 1624 = .ok (.aload_n 3, 1) := by decide +kernel
theorem dL_law_1625 : decode cL_law 1625 = .ok (.invokestatic 216, 3) := by decide +kernel
theorem dL_law_1628 : decode cL_law 1628 = .ok (.istore 6, 2) := by decide +kernel
theorem dL_law_1630 : decode cL_law 1630 = .ok (.aload_n 2, 1) := by decide +kernel
theorem dL_law_1631 : decode cL_law 1631 = .ok (.aload_n 0, 1) := by decide +kernel
theorem dL_law_1632 : decode cL_law 1632 = .ok (.iload 5, 2) := by decide +kernel
theorem dL_law_1634 : decode cL_law 1634 = .ok (.iconst 1, 1) := by decide +kernel
theorem dL_law_1635 : decode cL_law 1635 = .ok (.iadd, 1) := by decide +kernel
theorem dL_law_1636 : decode cL_law 1636 = .ok (.iaload, 1) := by decide +kernel
theorem dL_law_1637 : decode cL_law 1637 = .ok (.invokevirtual 218, 3) := by decide +kernel
theorem dL_law_1640 : decode cL_law 1640 = .ok (.istore 7, 2) := by decide +kernel
theorem dL_law_1642 : decode cL_law 1642 = .ok (.aload_n 2, 1) := by decide +kernel
theorem dL_law_1643 : decode cL_law 1643 = .ok (.invokevirtual 132, 3) := by decide +kernel
theorem dL_law_1646 : decode cL_law 1646 = .ok (.iload 6, 2) := by decide +kernel
theorem dL_law_1648 : decode cL_law 1648 = .ok (.if_icmp .eq 5, 3) := by decide +kernel
theorem dL_law_1651 : decode cL_law 1651 = .ok (.iconst 0, 1) := by decide +kernel
theorem dL_law_1652 : decode cL_law 1652 = .ok (.ireturn, 1) := by decide +kernel
theorem dL_law_1653 : decode cL_law 1653 = .ok (.iload 6, 2) := by decide +kernel
theorem dL_law_1655 : decode cL_law 1655 = .ok (.ifCond .ne 15, 3) := by decide +kernel
theorem dL_law_1658 : decode cL_law 1658 = .ok (.aload_n 3, 1) := by decide +kernel
theorem dL_law_1659 : decode cL_law 1659 = .ok (.iconst 0, 1) := by decide +kernel
theorem dL_law_1660 : decode cL_law 1660 = .ok (.laload, 1) := by decide +kernel
theorem dL_law_1661 : decode cL_law 1661 = .ok (.iload 7, 2) := by decide +kernel
theorem dL_law_1663 : decode cL_law 1663 = .ok (.i2l, 1) := by decide +kernel
theorem dL_law_1664 : decode cL_law 1664 = .ok (.lcmp, 1) := by decide +kernel
theorem dL_law_1665 : decode cL_law 1665 = .ok (.ifCond .eq 5, 3) := by decide +kernel
theorem dL_law_1668 : decode cL_law 1668 = .ok (.iconst 0, 1) := by decide +kernel
theorem dL_law_1669 : decode cL_law 1669 = .ok (.ireturn, 1) := by decide +kernel
theorem dL_law_1670 : decode cL_law 1670 = .ok (.goto 665, 3) := by decide +kernel
theorem dL_law_1673 : decode cL_law 1673 = .ok (.aload_n 1, 1) := by decide +kernel
theorem dL_law_1674 : decode cL_law 1674 = .ok (.aload_n 0, 1) := by decide +kernel
theorem dL_law_1675 : decode cL_law 1675 = .ok (.iload 5, 2) := by decide +kernel
theorem dL_law_1677 : decode cL_law 1677 = .ok (.iconst 1, 1) := by decide +kernel
theorem dL_law_1678 : decode cL_law 1678 = .ok (.iadd, 1) := by decide +kernel
theorem dL_law_1679 : decode cL_law 1679 = .ok (.iaload, 1) := by decide +kernel
theorem dL_law_1680 : decode cL_law 1680 = .ok (.aload_n 3, 1) := by decide +kernel
theorem dL_law_1681 : decode cL_law 1681 = .ok (.invokestatic 219, 3) := by decide +kernel
theorem dL_law_1684 : decode cL_law 1684 = .ok (.istore 6, 2) := by decide +kernel
theorem dL_law_1686 : decode cL_law 1686 = .ok (.aload_n 2, 1) := by decide +kernel
theorem dL_law_1687 : decode cL_law 1687 = .ok (.aload_n 0, 1) := by decide +kernel
theorem dL_law_1688 : decode cL_law 1688 = .ok (.iload 5, 2) := by decide +kernel
theorem dL_law_1690 : decode cL_law 1690 = .ok (.iconst 1, 1) := by decide +kernel
theorem dL_law_1691 : decode cL_law 1691 = .ok (.iadd, 1) := by decide +kernel
theorem dL_law_1692 : decode cL_law 1692 = .ok (.iaload, 1) := by decide +kernel
theorem dL_law_1693 : decode cL_law 1693 = .ok (.invokevirtual 221, 3) := by decide +kernel
theorem dL_law_1696 : decode cL_law 1696 = .ok (.lstore 7, 2) := by decide +kernel
theorem dL_law_1698 : decode cL_law 1698 = .ok (.aload_n 2, 1) := by decide +kernel
theorem dL_law_1699 : decode cL_law 1699 = .ok (.invokevirtual 132, 3) := by decide +kernel
theorem dL_law_1702 : decode cL_law 1702 = .ok (.iload 6, 2) := by decide +kernel
theorem dL_law_1704 : decode cL_law 1704 = .ok (.if_icmp .eq 5, 3) := by decide +kernel
theorem dL_law_1707 : decode cL_law 1707 = .ok (.iconst 0, 1) := by decide +kernel
theorem dL_law_1708 : decode cL_law 1708 = .ok (.ireturn, 1) := by decide +kernel
theorem dL_law_1709 : decode cL_law 1709 = .ok (.iload 6, 2) := by decide +kernel
theorem dL_law_1711 : decode cL_law 1711 = .ok (.ifCond .ne 14, 3) := by decide +kernel
theorem dL_law_1714 : decode cL_law 1714 = .ok (.aload_n 3, 1) := by decide +kernel
theorem dL_law_1715 : decode cL_law 1715 = .ok (.iconst 0, 1) := by decide +kernel
theorem dL_law_1716 : decode cL_law 1716 = .ok (.laload, 1) := by decide +kernel
theorem dL_law_1717 : decode cL_law 1717 = .ok (.lload 7, 2) := by decide +kernel
theorem dL_law_1719 : decode cL_law 1719 = .ok (.lcmp, 1) := by decide +kernel
theorem dL_law_1720 : decode cL_law 1720 = .ok (.ifCond .eq 5, 3) := by decide +kernel
theorem dL_law_1723 : decode cL_law 1723 = .ok (.iconst 0, 1) := by decide +kernel
theorem dL_law_1724 : decode cL_law 1724 = .ok (.ireturn, 1) := by decide +kernel
theorem dL_law_1725 : decode cL_law 1725 = .ok (.goto 610, 3) := by decide +kernel
theorem dL_law_1728 : decode cL_law 1728 = .ok (.aload_n 1, 1) := by decide +kernel
theorem dL_law_1729 : decode cL_law 1729 = .ok (.aload_n 0, 1) := by decide +kernel
theorem dL_law_1730 : decode cL_law 1730 = .ok (.iload 5, 2) := by decide +kernel
theorem dL_law_1732 : decode cL_law 1732 = .ok (.iconst 1, 1) := by decide +kernel
theorem dL_law_1733 : decode cL_law 1733 = .ok (.iadd, 1) := by decide +kernel
theorem dL_law_1734 : decode cL_law 1734 = .ok (.iaload, 1) := by decide +kernel
theorem dL_law_1735 : decode cL_law 1735 = .ok (.aload_n 3, 1) := by decide +kernel
theorem dL_law_1736 : decode cL_law 1736 = .ok (.invokestatic 222, 3) := by decide +kernel
theorem dL_law_1739 : decode cL_law 1739 = .ok (.istore 6, 2) := by decide +kernel
theorem dL_law_1741 : decode cL_law 1741 = .ok (.aload_n 2, 1) := by decide +kernel
theorem dL_law_1742 : decode cL_law 1742 = .ok (.aload_n 0, 1) := by decide +kernel
theorem dL_law_1743 : decode cL_law 1743 = .ok (.iload 5, 2) := by decide +kernel
theorem dL_law_1745 : decode cL_law 1745 = .ok (.iconst 1, 1) := by decide +kernel
theorem dL_law_1746 : decode cL_law 1746 = .ok (.iadd, 1) := by decide +kernel
theorem dL_law_1747 : decode cL_law 1747 = .ok (.iaload, 1) := by decide +kernel
theorem dL_law_1748 : decode cL_law 1748 = .ok (.invokevirtual 224, 3) := by decide +kernel
theorem dL_law_1751 : decode cL_law 1751 = .ok (.istore 7, 2) := by decide +kernel
theorem dL_law_1753 : decode cL_law 1753 = .ok (.aload_n 2, 1) := by decide +kernel
theorem dL_law_1754 : decode cL_law 1754 = .ok (.invokevirtual 132, 3) := by decide +kernel
theorem dL_law_1757 : decode cL_law 1757 = .ok (.iload 6, 2) := by decide +kernel
theorem dL_law_1759 : decode cL_law 1759 = .ok (.if_icmp .eq 5, 3) := by decide +kernel
theorem dL_law_1762 : decode cL_law 1762 = .ok (.iconst 0, 1) := by decide +kernel
theorem dL_law_1763 : decode cL_law 1763 = .ok (.ireturn, 1) := by decide +kernel
theorem dL_law_1764 : decode cL_law 1764 = .ok (.iload 6, 2) := by decide +kernel
theorem dL_law_1766 : decode cL_law 1766 = .ok (.ifCond .ne 15, 3) := by decide +kernel
theorem dL_law_1769 : decode cL_law 1769 = .ok (.aload_n 3, 1) := by decide +kernel
theorem dL_law_1770 : decode cL_law 1770 = .ok (.iconst 0, 1) := by decide +kernel
theorem dL_law_1771 : decode cL_law 1771 = .ok (.laload, 1) := by decide +kernel
theorem dL_law_1772 : decode cL_law 1772 = .ok (.iload 7, 2) := by decide +kernel
theorem dL_law_1774 : decode cL_law 1774 = .ok (.i2l, 1) := by decide +kernel
theorem dL_law_1775 : decode cL_law 1775 = .ok (.lcmp, 1) := by decide +kernel
theorem dL_law_1776 : decode cL_law 1776 = .ok (.ifCond .eq 5, 3) := by decide +kernel
theorem dL_law_1779 : decode cL_law 1779 = .ok (.iconst 0, 1) := by decide +kernel
theorem dL_law_1780 : decode cL_law 1780 = .ok (.ireturn, 1) := by decide +kernel
theorem dL_law_1781 : decode cL_law 1781 = .ok (.goto 554, 3) := by decide +kernel
theorem dL_law_1784 : decode cL_law 1784 = .ok (.aload_n 1, 1) := by decide +kernel
theorem dL_law_1785 : decode cL_law 1785 = .ok (.aload_n 0, 1) := by decide +kernel
theorem dL_law_1786 : decode cL_law 1786 = .ok (.iload 5, 2) := by decide +kernel
theorem dL_law_1788 : decode cL_law 1788 = .ok (.iconst 1, 1) := by decide +kernel
theorem dL_law_1789 : decode cL_law 1789 = .ok (.iadd, 1) := by decide +kernel
theorem dL_law_1790 : decode cL_law 1790 = .ok (.iaload, 1) := by decide +kernel
theorem dL_law_1791 : decode cL_law 1791 = .ok (.aload_n 0, 1) := by decide +kernel
theorem dL_law_1792 : decode cL_law 1792 = .ok (.iload 5, 2) := by decide +kernel
theorem dL_law_1794 : decode cL_law 1794 = .ok (.iconst 2, 1) := by decide +kernel
theorem dL_law_1795 : decode cL_law 1795 = .ok (.iadd, 1) := by decide +kernel
theorem dL_law_1796 : decode cL_law 1796 = .ok (.iaload, 1) := by decide +kernel
theorem dL_law_1797 : decode cL_law 1797 = .ok (.aload_n 3, 1) := by decide +kernel
theorem dL_law_1798 : decode cL_law 1798 = .ok (.invokestatic 225, 3) := by decide +kernel
theorem dL_law_1801 : decode cL_law 1801 = .ok (.istore 6, 2) := by decide +kernel
theorem dL_law_1803 : decode cL_law 1803 = .ok (.aload_n 2, 1) := by decide +kernel
theorem dL_law_1804 : decode cL_law 1804 = .ok (.aload_n 0, 1) := by decide +kernel
theorem dL_law_1805 : decode cL_law 1805 = .ok (.iload 5, 2) := by decide +kernel
theorem dL_law_1807 : decode cL_law 1807 = .ok (.iconst 1, 1) := by decide +kernel
theorem dL_law_1808 : decode cL_law 1808 = .ok (.iadd, 1) := by decide +kernel
theorem dL_law_1809 : decode cL_law 1809 = .ok (.iaload, 1) := by decide +kernel
theorem dL_law_1810 : decode cL_law 1810 = .ok (.aload_n 0, 1) := by decide +kernel
theorem dL_law_1811 : decode cL_law 1811 = .ok (.iload 5, 2) := by decide +kernel
theorem dL_law_1813 : decode cL_law 1813 = .ok (.iconst 2, 1) := by decide +kernel
theorem dL_law_1814 : decode cL_law 1814 = .ok (.iadd, 1) := by decide +kernel
theorem dL_law_1815 : decode cL_law 1815 = .ok (.iaload, 1) := by decide +kernel
theorem dL_law_1816 : decode cL_law 1816 = .ok (.invokevirtual 227, 3) := by decide +kernel
theorem dL_law_1819 : decode cL_law 1819 = .ok (.istore 7, 2) := by decide +kernel
theorem dL_law_1821 : decode cL_law 1821 = .ok (.aload_n 2, 1) := by decide +kernel
theorem dL_law_1822 : decode cL_law 1822 = .ok (.invokevirtual 132, 3) := by decide +kernel
theorem dL_law_1825 : decode cL_law 1825 = .ok (.iload 6, 2) := by decide +kernel
theorem dL_law_1827 : decode cL_law 1827 = .ok (.if_icmp .eq 5, 3) := by decide +kernel
theorem dL_law_1830 : decode cL_law 1830 = .ok (.iconst 0, 1) := by decide +kernel
theorem dL_law_1831 : decode cL_law 1831 = .ok (.ireturn, 1) := by decide +kernel
theorem dL_law_1832 : decode cL_law 1832 = .ok (.iload 6, 2) := by decide +kernel
theorem dL_law_1834 : decode cL_law 1834 = .ok (.ifCond .ne 15, 3) := by decide +kernel
theorem dL_law_1837 : decode cL_law 1837 = .ok (.aload_n 3, 1) := by decide +kernel
theorem dL_law_1838 : decode cL_law 1838 = .ok (.iconst 0, 1) := by decide +kernel
theorem dL_law_1839 : decode cL_law 1839 = .ok (.laload, 1) := by decide +kernel
theorem dL_law_1840 : decode cL_law 1840 = .ok (.iload 7, 2) := by decide +kernel
theorem dL_law_1842 : decode cL_law 1842 = .ok (.i2l, 1) := by decide +kernel
theorem dL_law_1843 : decode cL_law 1843 = .ok (.lcmp, 1) := by decide +kernel
theorem dL_law_1844 : decode cL_law 1844 = .ok (.ifCond .eq 5, 3) := by decide +kernel
theorem dL_law_1847 : decode cL_law 1847 = .ok (.iconst 0, 1) := by decide +kernel
theorem dL_law_1848 : decode cL_law 1848 = .ok (.ireturn, 1) := by decide +kernel
theorem dL_law_1849 : decode cL_law 1849 = .ok (.goto 486, 3) := by decide +kernel
theorem dL_law_1852 : decode cL_law 1852 = .ok (.aload_n 1, 1) := by decide +kernel
theorem dL_law_1853 : decode cL_law 1853 = .ok (.aload_n 0, 1) := by decide +kernel
theorem dL_law_1854 : decode cL_law 1854 = .ok (.iload 5, 2) := by decide +kernel
theorem dL_law_1856 : decode cL_law 1856 = .ok (.iconst 1, 1) := by decide +kernel
theorem dL_law_1857 : decode cL_law 1857 = .ok (.iadd, 1) := by decide +kernel
theorem dL_law_1858 : decode cL_law 1858 = .ok (.iaload, 1) := by decide +kernel
theorem dL_law_1859 : decode cL_law 1859 = .ok (.aload_n 0, 1) := by decide +kernel
theorem dL_law_1860 : decode cL_law 1860 = .ok (.iload 5, 2) := by decide +kernel
theorem dL_law_1862 : decode cL_law 1862 = .ok (.iconst 2, 1) := by decide +kernel
theorem dL_law_1863 : decode cL_law 1863 = .ok (.iadd, 1) := by decide +kernel
theorem dL_law_1864 : decode cL_law 1864 = .ok (.iaload, 1) := by decide +kernel
theorem dL_law_1865 : decode cL_law 1865 = .ok (.aload_n 3, 1) := by decide +kernel
theorem dL_law_1866 : decode cL_law 1866 = .ok (.invokestatic 228, 3) := by decide +kernel
theorem dL_law_1869 : decode cL_law 1869 = .ok (.istore 6, 2) := by decide +kernel
theorem dL_law_1871 : decode cL_law 1871 = .ok (.aload_n 2, 1) := by decide +kernel
theorem dL_law_1872 : decode cL_law 1872 = .ok (.aload_n 0, 1) := by decide +kernel
theorem dL_law_1873 : decode cL_law 1873 = .ok (.iload 5, 2) := by decide +kernel
theorem dL_law_1875 : decode cL_law 1875 = .ok (.iconst 1, 1) := by decide +kernel
theorem dL_law_1876 : decode cL_law 1876 = .ok (.iadd, 1) := by decide +kernel
theorem dL_law_1877 : decode cL_law 1877 = .ok (.iaload, 1) := by decide +kernel
theorem dL_law_1878 : decode cL_law 1878 = .ok (.aload_n 0, 1) := by decide +kernel
theorem dL_law_1879 : decode cL_law 1879 = .ok (.iload 5, 2) := by decide +kernel
theorem dL_law_1881 : decode cL_law 1881 = .ok (.iconst 2, 1) := by decide +kernel
theorem dL_law_1882 : decode cL_law 1882 = .ok (.iadd, 1) := by decide +kernel
theorem dL_law_1883 : decode cL_law 1883 = .ok (.iaload, 1) := by decide +kernel
theorem dL_law_1884 : decode cL_law 1884 = .ok (.invokevirtual 230, 3) := by decide +kernel
theorem dL_law_1887 : decode cL_law 1887 = .ok (.istore 7, 2) := by decide +kernel
theorem dL_law_1889 : decode cL_law 1889 = .ok (.aload_n 2, 1) := by decide +kernel
theorem dL_law_1890 : decode cL_law 1890 = .ok (.invokevirtual 132, 3) := by decide +kernel
theorem dL_law_1893 : decode cL_law 1893 = .ok (.iload 6, 2) := by decide +kernel
theorem dL_law_1895 : decode cL_law 1895 = .ok (.if_icmp .eq 5, 3) := by decide +kernel
theorem dL_law_1898 : decode cL_law 1898 = .ok (.iconst 0, 1) := by decide +kernel
theorem dL_law_1899 : decode cL_law 1899 = .ok (.ireturn, 1) := by decide +kernel
theorem dL_law_1900 : decode cL_law 1900 = .ok (.iload 6, 2) := by decide +kernel
theorem dL_law_1902 : decode cL_law 1902 = .ok (.ifCond .ne 15, 3) := by decide +kernel
theorem dL_law_1905 : decode cL_law 1905 = .ok (.aload_n 3, 1) := by decide +kernel
theorem dL_law_1906 : decode cL_law 1906 = .ok (.iconst 0, 1) := by decide +kernel
theorem dL_law_1907 : decode cL_law 1907 = .ok (.laload, 1) := by decide +kernel
theorem dL_law_1908 : decode cL_law 1908 = .ok (.iload 7, 2) := by decide +kernel
theorem dL_law_1910 : decode cL_law 1910 = .ok (.i2l, 1) := by decide +kernel
theorem dL_law_1911 : decode cL_law 1911 = .ok (.lcmp, 1) := by decide +kernel
theorem dL_law_1912 : decode cL_law 1912 = .ok (.ifCond .eq 5, 3) := by decide +kernel
theorem dL_law_1915 : decode cL_law 1915 = .ok (.iconst 0, 1) := by decide +kernel
theorem dL_law_1916 : decode cL_law 1916 = .ok (.ireturn, 1) := by decide +kernel
theorem dL_law_1917 : decode cL_law 1917 = .ok (.goto 418, 3) := by decide +kernel
theorem dL_law_1920 : decode cL_law 1920 = .ok (.aload_n 1, 1) := by decide +kernel
theorem dL_law_1921 : decode cL_law 1921 = .ok (.aload_n 0, 1) := by decide +kernel
theorem dL_law_1922 : decode cL_law 1922 = .ok (.iload 5, 2) := by decide +kernel
theorem dL_law_1924 : decode cL_law 1924 = .ok (.iconst 1, 1) := by decide +kernel
theorem dL_law_1925 : decode cL_law 1925 = .ok (.iadd, 1) := by decide +kernel
theorem dL_law_1926 : decode cL_law 1926 = .ok (.iaload, 1) := by decide +kernel
theorem dL_law_1927 : decode cL_law 1927 = .ok (.aload_n 3, 1) := by decide +kernel
theorem dL_law_1928 : decode cL_law 1928 = .ok (.invokestatic 231, 3) := by decide +kernel
theorem dL_law_1931 : decode cL_law 1931 = .ok (.istore 6, 2) := by decide +kernel
theorem dL_law_1933 : decode cL_law 1933 = .ok (.aload_n 2, 1) := by decide +kernel
theorem dL_law_1934 : decode cL_law 1934 = .ok (.aload_n 0, 1) := by decide +kernel
theorem dL_law_1935 : decode cL_law 1935 = .ok (.iload 5, 2) := by decide +kernel
theorem dL_law_1937 : decode cL_law 1937 = .ok (.iconst 1, 1) := by decide +kernel
theorem dL_law_1938 : decode cL_law 1938 = .ok (.iadd, 1) := by decide +kernel
theorem dL_law_1939 : decode cL_law 1939 = .ok (.iaload, 1) := by decide +kernel
theorem dL_law_1940 : decode cL_law 1940 = .ok (.invokevirtual 233, 3) := by decide +kernel
theorem dL_law_1943 : decode cL_law 1943 = .ok (.istore 7, 2) := by decide +kernel
theorem dL_law_1945 : decode cL_law 1945 = .ok (.aload_n 2, 1) := by decide +kernel
theorem dL_law_1946 : decode cL_law 1946 = .ok (.invokevirtual 132, 3) := by decide +kernel
theorem dL_law_1949 : decode cL_law 1949 = .ok (.iload 6, 2) := by decide +kernel
theorem dL_law_1951 : decode cL_law 1951 = .ok (.if_icmp .eq 5, 3) := by decide +kernel
theorem dL_law_1954 : decode cL_law 1954 = .ok (.iconst 0, 1) := by decide +kernel
theorem dL_law_1955 : decode cL_law 1955 = .ok (.ireturn, 1) := by decide +kernel
theorem dL_law_1956 : decode cL_law 1956 = .ok (.iload 6, 2) := by decide +kernel
theorem dL_law_1958 : decode cL_law 1958 = .ok (.ifCond .ne 15, 3) := by decide +kernel
theorem dL_law_1961 : decode cL_law 1961 = .ok (.aload_n 3, 1) := by decide +kernel
theorem dL_law_1962 : decode cL_law 1962 = .ok (.iconst 0, 1) := by decide +kernel
theorem dL_law_1963 : decode cL_law 1963 = .ok (.laload, 1) := by decide +kernel
theorem dL_law_1964 : decode cL_law 1964 = .ok (.iload 7, 2) := by decide +kernel
theorem dL_law_1966 : decode cL_law 1966 = .ok (.i2l, 1) := by decide +kernel
theorem dL_law_1967 : decode cL_law 1967 = .ok (.lcmp, 1) := by decide +kernel
theorem dL_law_1968 : decode cL_law 1968 = .ok (.ifCond .eq 5, 3) := by decide +kernel
theorem dL_law_1971 : decode cL_law 1971 = .ok (.iconst 0, 1) := by decide +kernel
theorem dL_law_1972 : decode cL_law 1972 = .ok (.ireturn, 1) := by decide +kernel
theorem dL_law_1973 : decode cL_law 1973 = .ok (.goto 362, 3) := by decide +kernel
theorem dL_law_1976 : decode cL_law 1976 = .ok (.aload_n 1, 1) := by decide +kernel
theorem dL_law_1977 : decode cL_law 1977 = .ok (.aload_n 0, 1) := by decide +kernel
theorem dL_law_1978 : decode cL_law 1978 = .ok (.iload 5, 2) := by decide +kernel
theorem dL_law_1980 : decode cL_law 1980 = .ok (.iconst 1, 1) := by decide +kernel
theorem dL_law_1981 : decode cL_law 1981 = .ok (.iadd, 1) := by decide +kernel
theorem dL_law_1982 : decode cL_law 1982 = .ok (.iaload, 1) := by decide +kernel
theorem dL_law_1983 : decode cL_law 1983 = .ok (.aload_n 3, 1) := by decide +kernel
theorem dL_law_1984 : decode cL_law 1984 = .ok (.invokestatic 234, 3) := by decide +kernel
theorem dL_law_1987 : decode cL_law 1987 = .ok (.istore 6, 2) := by decide +kernel
theorem dL_law_1989 : decode cL_law 1989 = .ok (.aload_n 2, 1) := by decide +kernel
theorem dL_law_1990 : decode cL_law 1990 = .ok (.aload_n 0, 1) := by decide +kernel
theorem dL_law_1991 : decode cL_law 1991 = .ok (.iload 5, 2) := by decide +kernel
theorem dL_law_1993 : decode cL_law 1993 = .ok (.iconst 1, 1) := by decide +kernel
theorem dL_law_1994 : decode cL_law 1994 = .ok (.iadd, 1) := by decide +kernel
theorem dL_law_1995 : decode cL_law 1995 = .ok (.iaload, 1) := by decide +kernel
theorem dL_law_1996 : decode cL_law 1996 = .ok (.invokevirtual 236, 3) := by decide +kernel
theorem dL_law_1999 : decode cL_law 1999 = .ok (.istore 7, 2) := by decide +kernel
theorem dL_law_2001 : decode cL_law 2001 = .ok (.aload_n 2, 1) := by decide +kernel
theorem dL_law_2002 : decode cL_law 2002 = .ok (.invokevirtual 132, 3) := by decide +kernel
theorem dL_law_2005 : decode cL_law 2005 = .ok (.iload 6, 2) := by decide +kernel
theorem dL_law_2007 : decode cL_law 2007 = .ok (.if_icmp .eq 5, 3) := by decide +kernel
theorem dL_law_2010 : decode cL_law 2010 = .ok (.iconst 0, 1) := by decide +kernel
theorem dL_law_2011 : decode cL_law 2011 = .ok (.ireturn, 1) := by decide +kernel
theorem dL_law_2012 : decode cL_law 2012 = .ok (.iload 6, 2) := by decide +kernel
theorem dL_law_2014 : decode cL_law 2014 = .ok (.ifCond .ne 15, 3) := by decide +kernel
theorem dL_law_2017 : decode cL_law 2017 = .ok (.aload_n 3, 1) := by decide +kernel
theorem dL_law_2018 : decode cL_law 2018 = .ok (.iconst 0, 1) := by decide +kernel
theorem dL_law_2019 : decode cL_law 2019 = .ok (.laload, 1) := by decide +kernel
theorem dL_law_2020 : decode cL_law 2020 = .ok (.iload 7, 2) := by decide +kernel
theorem dL_law_2022 : decode cL_law 2022 = .ok (.i2l, 1) := by decide +kernel
theorem dL_law_2023 : decode cL_law 2023 = .ok (.lcmp, 1) := by decide +kernel
theorem dL_law_2024 : decode cL_law 2024 = .ok (.ifCond .eq 5, 3) := by decide +kernel
theorem dL_law_2027 : decode cL_law 2027 = .ok (.iconst 0, 1) := by decide +kernel
theorem dL_law_2028 : decode cL_law 2028 = .ok (.ireturn, 1) := by decide +kernel
theorem dL_law_2029 : decode cL_law 2029 = .ok (.goto 306, 3) := by decide +kernel
theorem dL_law_2032 : decode cL_law 2032 = .ok (.aload_n 1, 1) := by decide +kernel
theorem dL_law_2033 : decode cL_law 2033 = .ok (.aload_n 0, 1) := by decide +kernel
theorem dL_law_2034 : decode cL_law 2034 = .ok (.iload 5, 2) := by decide +kernel
theorem dL_law_2036 : decode cL_law 2036 = .ok (.iconst 1, 1) := by decide +kernel
theorem dL_law_2037 : decode cL_law 2037 = .ok (.iadd, 1) := by decide +kernel
theorem dL_law_2038 : decode cL_law 2038 = .ok (.iaload, 1) := by decide +kernel
theorem dL_law_2039 : decode cL_law 2039 = .ok (.aload_n 3, 1) := by decide +kernel
theorem dL_law_2040 : decode cL_law 2040 = .ok (.invokestatic 237, 3) := by decide +kernel
theorem dL_law_2043 : decode cL_law 2043 = .ok (.istore 6, 2) := by decide +kernel
theorem dL_law_2045 : decode cL_law 2045 = .ok (.aload_n 2, 1) := by decide +kernel
theorem dL_law_2046 : decode cL_law 2046 = .ok (.aload_n 0, 1) := by decide +kernel
theorem dL_law_2047 : decode cL_law 2047 = .ok (.iload 5, 2) := by decide +kernel
theorem dL_law_2049 : decode cL_law 2049 = .ok (.iconst 1, 1) := by decide +kernel
theorem dL_law_2050 : decode cL_law 2050 = .ok (.iadd, 1) := by decide +kernel
theorem dL_law_2051 : decode cL_law 2051 = .ok (.iaload, 1) := by decide +kernel
theorem dL_law_2052 : decode cL_law 2052 = .ok (.invokevirtual 239, 3) := by decide +kernel
theorem dL_law_2055 : decode cL_law 2055 = .ok (.istore 7, 2) := by decide +kernel
theorem dL_law_2057 : decode cL_law 2057 = .ok (.aload_n 2, 1) := by decide +kernel
theorem dL_law_2058 : decode cL_law 2058 = .ok (.invokevirtual 132, 3) := by decide +kernel
theorem dL_law_2061 : decode cL_law 2061 = .ok (.iload 6, 2) := by decide +kernel
theorem dL_law_2063 : decode cL_law 2063 = .ok (.if_icmp .eq 5, 3) := by decide +kernel
theorem dL_law_2066 : decode cL_law 2066 = .ok (.iconst 0, 1) := by decide +kernel
theorem dL_law_2067 : decode cL_law 2067 = .ok (.ireturn, 1) := by decide +kernel
theorem dL_law_2068 : decode cL_law 2068 = .ok (.iload 6, 2) := by decide +kernel
theorem dL_law_2070 : decode cL_law 2070 = .ok (.ifCond .ne 15, 3) := by decide +kernel
theorem dL_law_2073 : decode cL_law 2073 = .ok (.aload_n 3, 1) := by decide +kernel
theorem dL_law_2074 : decode cL_law 2074 = .ok (.iconst 0, 1) := by decide +kernel
theorem dL_law_2075 : decode cL_law 2075 = .ok (.laload, 1) := by decide +kernel
theorem dL_law_2076 : decode cL_law 2076 = .ok (.iload 7, 2) := by decide +kernel
theorem dL_law_2078 : decode cL_law 2078 = .ok (.i2l, 1) := by decide +kernel
theorem dL_law_2079 : decode cL_law 2079 = .ok (.lcmp, 1) := by decide +kernel
theorem dL_law_2080 : decode cL_law 2080 = .ok (.ifCond .eq 5, 3) := by decide +kernel
theorem dL_law_2083 : decode cL_law 2083 = .ok (.iconst 0, 1) := by decide +kernel
theorem dL_law_2084 : decode cL_law 2084 = .ok (.ireturn, 1) := by decide +kernel
theorem dL_law_2085 : decode cL_law 2085 = .ok (.goto 250, 3) := by decide +kernel
theorem dL_law_2088 : decode cL_law 2088 = .ok (.aload_n 1, 1) := by decide +kernel
theorem dL_law_2089 : decode cL_law 2089 = .ok (.aload_n 0, 1) := by decide +kernel
theorem dL_law_2090 : decode cL_law 2090 = .ok (.iload 5, 2) := by decide +kernel
theorem dL_law_2092 : decode cL_law 2092 = .ok (.iconst 1, 1) := by decide +kernel
theorem dL_law_2093 : decode cL_law 2093 = .ok (.iadd, 1) := by decide +kernel
theorem dL_law_2094 : decode cL_law 2094 = .ok (.iaload, 1) := by decide +kernel
theorem dL_law_2095 : decode cL_law 2095 = .ok (.aload_n 0, 1) := by decide +kernel
theorem dL_law_2096 : decode cL_law 2096 = .ok (.iload 5, 2) := by decide +kernel
theorem dL_law_2098 : decode cL_law 2098 = .ok (.iconst 2, 1) := by decide +kernel
theorem dL_law_2099 : decode cL_law 2099 = .ok (.iadd, 1) := by decide +kernel
theorem dL_law_2100 : decode cL_law 2100 = .ok (.iaload, 1) := by decide +kernel
theorem dL_law_2101 : decode cL_law 2101 = .ok (.ifCond .eq 7, 3) := by decide +kernel
theorem dL_law_2104 : decode cL_law 2104 = .ok (.iconst 1, 1) := by decide +kernel
theorem dL_law_2105 : decode cL_law 2105 = .ok (.goto 4, 3) := by decide +kernel
theorem dL_law_2108 : decode cL_law 2108 = .ok (.iconst 0, 1) := by decide +kernel
theorem dL_law_2109 : decode cL_law 2109 = .ok (.aload_n 3, 1) := by decide +kernel
theorem dL_law_2110 : decode cL_law 2110 = .ok (.invokestatic 240, 3) := by decide +kernel
theorem dL_law_2113 : decode cL_law 2113 = .ok (.istore 6, 2) := by decide +kernel
theorem dL_law_2115 : decode cL_law 2115 = .ok (.aload_n 2, 1) := by decide +kernel
theorem dL_law_2116 : decode cL_law 2116 = .ok (.aload_n 0, 1) := by decide +kernel
theorem dL_law_2117 : decode cL_law 2117 = .ok (.iload 5, 2) := by decide +kernel
theorem dL_law_2119 : decode cL_law 2119 = .ok (.iconst 1, 1) := by decide +kernel
theorem dL_law_2120 : decode cL_law 2120 = .ok (.iadd, 1) := by decide +kernel
theorem dL_law_2121 : decode cL_law 2121 = .ok (.iaload, 1) := by decide +kernel
theorem dL_law_2122 : decode cL_law 2122 = .ok (.aload_n 0, 1) := by decide +kernel
theorem dL_law_2123 : decode cL_law 2123 = .ok (.iload 5, 2) := by decide +kernel
theorem dL_law_2125 : decode cL_law 2125 = .ok (.iconst 2, 1) := by decide +kernel
theorem dL_law_2126 : decode cL_law 2126 = .ok (.iadd, 1) := by decide +kernel
theorem dL_law_2127 : decode cL_law 2127 = .ok (.iaload, 1) := by decide +kernel
theorem dL_law_2128 : decode cL_law 2128 = .ok (.ifCond .eq 7, 3) := by decide +kernel
theorem dL_law_2131 : decode cL_law 2131 = .ok (.iconst 1, 1) := by decide +kernel
theorem dL_law_2132 : decode cL_law 2132 = .ok (.goto 4, 3) := by decide +kernel
theorem dL_law_2135 : decode cL_law 2135 = .ok (.iconst 0, 1) := by decide +kernel
theorem dL_law_2136 : decode cL_law 2136 = .ok (.invokevirtual 243, 3) := by decide +kernel
theorem dL_law_2139 : decode cL_law 2139 = .ok (.istore 7, 2) := by decide +kernel
theorem dL_law_2141 : decode cL_law 2141 = .ok (.aload_n 2, 1) := by decide +kernel
theorem dL_law_2142 : decode cL_law 2142 = .ok (.invokevirtual 132, 3) := by decide +kernel
theorem dL_law_2145 : decode cL_law 2145 = .ok (.iload 6, 2) := by decide +kernel
theorem dL_law_2147 : decode cL_law 2147 = .ok (.if_icmp .eq 5, 3) := by decide +kernel
theorem dL_law_2150 : decode cL_law 2150 = .ok (.iconst 0, 1) := by decide +kernel
theorem dL_law_2151 : decode cL_law 2151 = .ok (.ireturn, 1) := by decide +kernel
theorem dL_law_2152 : decode cL_law 2152 = .ok (.iload 6, 2) := by decide +kernel
theorem dL_law_2154 : decode cL_law 2154 = .ok (.ifCond .ne 15, 3) := by decide +kernel
theorem dL_law_2157 : decode cL_law 2157 = .ok (.aload_n 3, 1) := by decide +kernel
theorem dL_law_2158 : decode cL_law 2158 = .ok (.iconst 0, 1) := by decide +kernel
theorem dL_law_2159 : decode cL_law 2159 = .ok (.laload, 1) := by decide +kernel
theorem dL_law_2160 : decode cL_law 2160 = .ok (.iload 7, 2) := by decide +kernel
theorem dL_law_2162 : decode cL_law 2162 = .ok (.i2l, 1) := by decide +kernel
theorem dL_law_2163 : decode cL_law 2163 = .ok (.lcmp, 1) := by decide +kernel
theorem dL_law_2164 : decode cL_law 2164 = .ok (.ifCond .eq 5, 3) := by decide +kernel
theorem dL_law_2167 : decode cL_law 2167 = .ok (.iconst 0, 1) := by decide +kernel
theorem dL_law_2168 : decode cL_law 2168 = .ok (.ireturn, 1) := by decide +kernel
theorem dL_law_2169 : decode cL_law 2169 = .ok (.goto 166, 3) := by decide +kernel
theorem dL_law_2172 : decode cL_law 2172 = .ok (.aload_n 1, 1) := by decide +kernel
theorem dL_law_2173 : decode cL_law 2173 = .ok (.invokevirtual 244, 3) := by decide +kernel
theorem dL_law_2176 : decode cL_law 2176 = .ok (.aload_n 2, 1) := by decide +kernel
theorem dL_law_2177 : decode cL_law 2177 = .ok (.invokevirtual 247, 3) := by decide +kernel
theorem dL_law_2180 : decode cL_law 2180 = .ok (.if_icmp .eq 155, 3) := by decide +kernel
theorem dL_law_2183 : decode cL_law 2183 = .ok (.iconst 0, 1) := by decide +kernel
theorem dL_law_2184 : decode cL_law 2184 = .ok (.ireturn, 1) := by decide +kernel
theorem dL_law_2185 : decode cL_law 2185 = .ok (.aload_n 1, 1) := by decide +kernel
theorem dL_law_2186 : decode cL_law 2186 = .ok (.aload_n 0, 1) := by decide +kernel
theorem dL_law_2187 : decode cL_law 2187 = .ok (.iload 5, 2) := by decide +kernel
theorem dL_law_2189 : decode cL_law 2189 = .ok (.iconst 1, 1) := by decide +kernel
theorem dL_law_2190 : decode cL_law 2190 = .ok (.iadd, 1) := by decide +kernel
theorem dL_law_2191 : decode cL_law 2191 = .ok (.iaload, 1) := by decide +kernel
theorem dL_law_2192 : decode cL_law 2192 = .ok (.invokevirtual 248, 3) := by decide +kernel
theorem dL_law_2195 : decode cL_law 2195 = .ok (.aload_n 2, 1) := by decide +kernel
theorem dL_law_2196 : decode cL_law 2196 = .ok (.aload_n 0, 1) := by decide +kernel
theorem dL_law_2197 : decode cL_law 2197 = .ok (.iload 5, 2) := by decide +kernel
theorem dL_law_2199 : decode cL_law 2199 = .ok (.iconst 1, 1) := by decide +kernel
theorem dL_law_2200 : decode cL_law 2200 = .ok (.iadd, 1) := by decide +kernel
theorem dL_law_2201 : decode cL_law 2201 = .ok (.iaload, 1) := by decide +kernel
theorem dL_law_2202 : decode cL_law 2202 = .ok (.invokevirtual 251, 3) := by decide +kernel
theorem dL_law_2205 : decode cL_law 2205 = .ok (.if_icmp .eq 130, 3) := by decide +kernel
theorem dL_law_2208 : decode cL_law 2208 = .ok (.iconst 0, 1) := by decide +kernel
theorem dL_law_2209 : decode cL_law 2209 = .ok (.ireturn, 1) := by decide +kernel
theorem dL_law_2210 : decode cL_law 2210 = .ok (.aload_n 1, 1) := by decide +kernel
theorem dL_law_2211 : decode cL_law 2211 = .ok (.invokevirtual 252, 3) := by decide +kernel
theorem dL_law_2214 : decode cL_law 2214 = .ok (.aload_n 2, 1) := by decide +kernel
theorem dL_law_2215 : decode cL_law 2215 = .ok (.invokevirtual 255, 3) := by decide +kernel
theorem dL_law_2218 : decode cL_law 2218 = .ok (.if_icmp .eq 117, 3) := by decide +kernel
theorem dL_law_2221 : decode cL_law 2221 = .ok (.iconst 0, 1) := by decide +kernel
theorem dL_law_2222 : decode cL_law 2222 = .ok (.ireturn, 1) := by decide +kernel
theorem dL_law_2223 : decode cL_law 2223 = .ok (.aload_n 1, 1) := by decide +kernel
theorem dL_law_2224 : decode cL_law 2224 = .ok (.aload_n 0, 1) := by decide +kernel
theorem dL_law_2225 : decode cL_law 2225 = .ok (.iload 5, 2) := by decide +kernel
theorem dL_law_2227 : decode cL_law 2227 = .ok (.iconst 1, 1) := by decide +kernel
theorem dL_law_2228 : decode cL_law 2228 = .ok (.iadd, 1) := by decide +kernel
theorem dL_law_2229 : decode cL_law 2229 = .ok (.iaload, 1) := by decide +kernel
theorem dL_law_2230 : decode cL_law 2230 = .ok (.aload_n 3, 1) := by decide +kernel
theorem dL_law_2231 : decode cL_law 2231 = .ok (.invokestatic 256, 3) := by decide +kernel
theorem dL_law_2234 : decode cL_law 2234 = .ok (.istore 6, 2) := by decide +kernel
theorem dL_law_2236 : decode cL_law 2236 = .ok (.aload_n 2, 1) := by decide +kernel
theorem dL_law_2237 : decode cL_law 2237 = .ok (.aload_n 0, 1) := by decide +kernel
theorem dL_law_2238 : decode cL_law 2238 = .ok (.iload 5, 2) := by decide +kernel
theorem dL_law_2240 : decode cL_law 2240 = .ok (.iconst 1, 1) := by decide +kernel
theorem dL_law_2241 : decode cL_law 2241 = .ok (.iadd, 1) := by decide +kernel
theorem dL_law_2242 : decode cL_law 2242 = .ok (.iaload, 1) := by decide +kernel
theorem dL_law_2243 : decode cL_law 2243 = .ok (.invokevirtual 258, 3) := by decide +kernel
theorem dL_law_2246 : decode cL_law 2246 = .ok (.istore 7, 2) := by decide +kernel
theorem dL_law_2248 : decode cL_law 2248 = .ok (.aload_n 2, 1) := by decide +kernel
theorem dL_law_2249 : decode cL_law 2249 = .ok (.invokevirtual 132, 3) := by decide +kernel
theorem dL_law_2252 : decode cL_law 2252 = .ok (.iload 6, 2) := by decide +kernel
theorem dL_law_2254 : decode cL_law 2254 = .ok (.if_icmp .eq 5, 3) := by decide +kernel
theorem dL_law_2257 : decode cL_law 2257 = .ok (.iconst 0, 1) := by decide +kernel
theorem dL_law_2258 : decode cL_law 2258 = .ok (.ireturn, 1) := by decide +kernel
theorem dL_law_2259 : decode cL_law 2259 = .ok (.iload 6, 2) := by decide +kernel
theorem dL_law_2261 : decode cL_law 2261 = .ok (.ifCond .ne 15, 3) := by decide +kernel
theorem dL_law_2264 : decode cL_law 2264 = .ok (.aload_n 3, 1) := by decide +kernel
theorem dL_law_2265 : decode cL_law 2265 = .ok (.iconst 0, 1) := by decide +kernel
theorem dL_law_2266 : decode cL_law 2266 = .ok (.laload, 1) := by decide +kernel
theorem dL_law_2267 : decode cL_law 2267 = .ok (.iload 7, 2) := by decide +kernel
theorem dL_law_2269 : decode cL_law 2269 = .ok (.i2l, 1) := by decide +kernel
theorem dL_law_2270 : decode cL_law 2270 = .ok (.lcmp, 1) := by decide +kernel
theorem dL_law_2271 : decode cL_law 2271 = .ok (.ifCond .eq 5, 3) := by decide +kernel
theorem dL_law_2274 : decode cL_law 2274 = .ok (.iconst 0, 1) := by decide +kernel
theorem dL_law_2275 : decode cL_law 2275 = .ok (.ireturn, 1) := by decide +kernel
theorem dL_law_2276 : decode cL_law 2276 = .ok (.goto 59, 3) := by decide +kernel
theorem dL_law_2279 : decode cL_law 2279 = .ok (.aload_n 1, 1) := by decide +kernel
theorem dL_law_2280 : decode cL_law 2280 = .ok (.aload_n 0, 1) := by decide +kernel
theorem dL_law_2281 : decode cL_law 2281 = .ok (.iload 5, 2) := by decide +kernel
theorem dL_law_2283 : decode cL_law 2283 = .ok (.iconst 1, 1) := by decide +kernel
theorem dL_law_2284 : decode cL_law 2284 = .ok (.iadd, 1) := by decide +kernel
theorem dL_law_2285 : decode cL_law 2285 = .ok (.iaload, 1) := by decide +kernel
theorem dL_law_2286 : decode cL_law 2286 = .ok (.aload_n 3, 1) := by decide +kernel
theorem dL_law_2287 : decode cL_law 2287 = .ok (.invokestatic 259, 3) := by decide +kernel
theorem dL_law_2290 : decode cL_law 2290 = .ok (.istore 6, 2) := by decide +kernel
theorem dL_law_2292 : decode cL_law 2292 = .ok (.aload_n 2, 1) := by decide +kernel
theorem dL_law_2293 : decode cL_law 2293 = .ok (.aload_n 0, 1) := by decide +kernel
theorem dL_law_2294 : decode cL_law 2294 = .ok (.iload 5, 2) := by decide +kernel
theorem dL_law_2296 : decode cL_law 2296 = .ok (.iconst 1, 1) := by decide +kernel
theorem dL_law_2297 : decode cL_law 2297 = .ok (.iadd, 1) := by decide +kernel
theorem dL_law_2298 : decode cL_law 2298 = .ok (.iaload, 1) := by decide +kernel
theorem dL_law_2299 : decode cL_law 2299 = .ok (.invokevirtual 261, 3) := by decide +kernel
theorem dL_law_2302 : decode cL_law 2302 = .ok (.istore 7, 2) := by decide +kernel
theorem dL_law_2304 : decode cL_law 2304 = .ok (.aload_n 2, 1) := by decide +kernel
theorem dL_law_2305 : decode cL_law 2305 = .ok (.invokevirtual 132, 3) := by decide +kernel
theorem dL_law_2308 : decode cL_law 2308 = .ok (.iload 6, 2) := by decide +kernel
theorem dL_law_2310 : decode cL_law 2310 = .ok (.if_icmp .eq 5, 3) := by decide +kernel
theorem dL_law_2313 : decode cL_law 2313 = .ok (.iconst 0, 1) := by decide +kernel
theorem dL_law_2314 : decode cL_law 2314 = .ok (.ireturn, 1) := by decide +kernel
theorem dL_law_2315 : decode cL_law 2315 = .ok (.iload 6, 2) := by decide +kernel
theorem dL_law_2317 : decode cL_law 2317 = .ok (.ifCond .ne 15, 3) := by decide +kernel
theorem dL_law_2320 : decode cL_law 2320 = .ok (.aload_n 3, 1) := by decide +kernel
theorem dL_law_2321 : decode cL_law 2321 = .ok (.iconst 0, 1) := by decide +kernel
theorem dL_law_2322 : decode cL_law 2322 = .ok (.laload, 1) := by decide +kernel
theorem dL_law_2323 : decode cL_law 2323 = .ok (.iload 7, 2) := by decide +kernel
theorem dL_law_2325 : decode cL_law 2325 = .ok (.i2l, 1) := by decide +kernel
theorem dL_law_2326 : decode cL_law 2326 = .ok (.lcmp, 1) := by decide +kernel
theorem dL_law_2327 : decode cL_law 2327 = .ok (.ifCond .eq 5, 3) := by decide +kernel
theorem dL_law_2330 : decode cL_law 2330 = .ok (.iconst 0, 1) := by decide +kernel
theorem dL_law_2331 : decode cL_law 2331 = .ok (.ireturn, 1) := by decide +kernel
theorem dL_law_2332 : decode cL_law 2332 = .ok (.goto 3, 3) := by decide +kernel
theorem dL_law_2335 : decode cL_law 2335 = .ok (.iinc 5 6, 3) := by decide +kernel
theorem dL_law_2338 : decode cL_law 2338 = .ok (.goto (-2310), 3) := by decide +kernel
theorem dL_law_2341 : decode cL_law 2341 = .ok (.iconst 1, 1) := by decide +kernel
theorem dL_law_2342 : decode cL_law 2342 = .ok (.ireturn, 1) := by decide +kernel
section LB
theorem l_in {g n : Nat} {j : Int32} (hb : 6 * n + 6 ≤ g) (hL : g ≤ 3072) (h : 0 ≤ j.toInt ∧ j.toInt < 6) : vp_in (nI (6 * n) + j) g := by
  have e : (nI (6 * n)).toInt = ((6 * n : Nat) : Int) := ti_of _ (by omega)
  have e2 := ti_add (a := nI (6 * n)) (b := j) (by omega)
  exact ti_in (by omega)
theorem l_inz {g n : Nat} (hb : 6 * n + 6 ≤ g) (hL : g ≤ 3072) : vp_in (nI (6 * n)) g := by
  have e : (nI (6 * n)).toInt = ((6 * n : Nat) : Int) := ti_of _ (by omega)
  exact ti_in (by omega)
theorem l_cmp0 (a : Int64) : lg_cmp a a = 0 := by
  unfold lg_cmp
  simp [Int64.lt_irrefl]
theorem zCal_mono {l : Launch} {G : zG} {Y : zY} {mc ms : Nat} {av : List zV} {M : zM} {Kf Kg : Option zV → zM → Prop} (h : zCal l G Y mc ms av M (Kf, none)) (hm : ∀ r M1, Kf r M1 → Kg r M1) : zCal l G Y mc ms av M (Kg, none) := by
  intro hav
  have h0 : Met l (zyN Y) (zws Y) (zRoom (zyd Y) mc ms) (va_Pc (av.map (tr G)) (zPre G M)) (zPost G Kf) mc ms (zfr G) := h hav
  show Met _ _ _ _ _ _ _ _ _
  intro p e ha hc hk s m args below hf happ hP hK
  obtain ⟨n, o, h1, h2, h3, ⟨⟨r, M', e1, e2, e3, e4⟩, h5⟩⟩ := h0 p e ha hc hk s m args below hf happ hP hK
  exact ⟨n, o, h1, h2, h3, ⟨r, M', e1, e2, hm r M' e3, e4⟩, h5⟩
theorem zCal_monoI {l : Launch} {G : zG} {Y : zY} {mc ms : Nat} {av : List zV} {M : zM} {Kf Kg : Int32 → zM → Prop} (h : zCalI l G Y mc ms av M Kf) (hm : ∀ r M1, Kf r M1 → Kg r M1) : zCalI l G Y mc ms av M Kg := zCal_mono h fun r M1 ⟨x, e, q⟩ => ⟨x, e, hm x M1 q⟩
theorem zCal_monoL {l : Launch} {G : zG} {Y : zY} {mc ms : Nat} {av : List zV} {M : zM} {Kf Kg : Int64 → zM → Prop} (h : zCalL l G Y mc ms av M Kf) (hm : ∀ r M1, Kf r M1 → Kg r M1) : zCalL l G Y mc ms av M Kg := zCal_mono h fun r M1 ⟨x, e, q⟩ => ⟨x, e, hm x M1 q⟩
theorem zCal_monoD {l : Launch} {G : zG} {Y : zY} {mc ms : Nat} {av : List zV} {M : zM} {Kf Kg : UInt64 → zM → Prop} (h : zCalD l G Y mc ms av M Kf) (hm : ∀ r M1, Kf r M1 → Kg r M1) : zCalD l G Y mc ms av M Kg := zCal_mono h fun r M1 ⟨x, e, q⟩ => ⟨x, e, hm x M1 q⟩
abbrev lLV (n : Nat) : List (Nat × zV) := [(5, vi (nI (6 * n))), (0, vr 52 0), (1, vr 0 0), (2, vr 30 0), (3, vr 50 0), (4, vr 51 0)]
variable {l : Launch} {G : zG} {E : zE} {n A : Nat} {M : lW} {c k : Nat}
theorem L_laldE {Y : zY} {pc : Nat} {lv : List (Nat × zV)} {st : List zV} {v : Int64} (hv : M.2.1 = v) (d : decode (zyC Y) pc = .ok (.laload, 1)) (h : lAt l G Y E (pc + 1) lv (vl v :: st) M c k) : lAt l G Y E pc lv (vi 0 :: vr 50 0 :: st) M c k := L_lald d (by rw [hv]; exact h)
theorem L_daldE {Y : zY} {pc : Nat} {lv : List (Nat × zV)} {st : List zV} {v : UInt64} (hv : M.2.2 = v) (d : decode (zyC Y) pc = .ok (.daload, 1)) (h : lAt l G Y E (pc + 1) lv (vd v :: st) M c k) : lAt l G Y E pc lv (vi 0 :: vr 51 0 :: st) M c k := L_dald d (by rw [hv]; exact h)
theorem lc_feed (hE : zRm YL_law E.1) (hl : l.stackTraces = false) (hb : 6 * n + 6 ≤ gn G) (hL : gn G ≤ 3072) (hI : Inv M.1 A) (hA : A ≤ 299000000) (hc : c + 753 ≤ E.1.cells ∧ k + 5020 ≤ E.1.slots) (kk : ∀ (w1 : lW) (c1 k1 : Nat), Inv w1.1 (A + 108000) → c1 ≤ c + 753 → k1 ≤ k + 5020 → lAt l G YL_law E 2335 (lLV n) [] w1 c1 k1) : lAt l G YL_law E 228 (lLV n) [] M c k := by
  refine L_aload_n dL_law_228 rfl 2 rfl ?_
  refine L_aload_n dL_law_229 rfl 1 rfl ?_
  refine L_iload dL_law_230 0 rfl ?_
  refine L_iconst (v := 1) (by decide) dL_law_232 ?_
  refine L_iadd dL_law_233 ?_
  refine L_sld (l_in hb hL (by decide)) dL_law_234 ?_
  refine L_aload_n dL_law_235 rfl 1 rfl ?_
  refine L_iload dL_law_236 0 rfl ?_
  refine L_iconst (v := 2) (by decide) dL_law_238 ?_
  refine L_iadd dL_law_239 ?_
  refine L_sld (l_in hb hL (by decide)) dL_law_240 ?_
  refine L_aload_n dL_law_241 rfl 1 rfl ?_
  refine L_iload dL_law_242 0 rfl ?_
  refine L_iconst (v := 3) (by decide) dL_law_244 ?_
  refine L_iadd dL_law_245 ?_
  refine L_sld (l_in hb hL (by decide)) dL_law_246 ?_
  refine L_aload_n dL_law_247 rfl 1 rfl ?_
  refine L_iload dL_law_248 0 rfl ?_
  refine L_iconst (v := 4) (by decide) dL_law_250 ?_
  refine L_iadd dL_law_251 ?_
  refine L_sld (l_in hb hL (by decide)) dL_law_252 ?_
  refine L_aload_n dL_law_253 rfl 1 rfl ?_
  refine L_iload dL_law_254 0 rfl ?_
  refine L_iconst (v := 5) (by decide) dL_law_256 ?_
  refine L_iadd dL_law_257 ?_
  refine L_sld (l_in hb hL (by decide)) dL_law_258 ?_
  refine L_callV (as := [vi (gs G ((nI (6 * n)) + 1).toNatClampNeg), vi (gs G ((nI (6 * n)) + 2).toNatClampNeg), vi (gs G ((nI (6 * n)) + 3).toNatClampNeg), vi (gs G ((nI (6 * n)) + 4).toNatClampNeg), vi (gs G ((nI (6 * n)) + 5).toNatClampNeg)]) (st := []) (mc' := 0) (ms' := 0) hE zcv_YL_law_108 rfl rfl rfl rfl (zle rfl) dL_law_259 ⟨by omega, by omega⟩ (P_feed (p1 := (gs G ((nI (6 * n)) + 1).toNatClampNeg)) (p2 := (gs G ((nI (6 * n)) + 2).toNatClampNeg)) (p3 := (gs G ((nI (6 * n)) + 3).toNatClampNeg)) (p4 := (gs G ((nI (6 * n)) + 4).toNatClampNeg)) (p5 := (gs G ((nI (6 * n)) + 5).toNatClampNeg)) hI) (fun r M1 q => ?_)
  obtain ⟨x, rfl, q⟩ := q
  refine L_aload_n dL_law_262 rfl 3 rfl ?_
  refine L_aload_n dL_law_263 rfl 1 rfl ?_
  refine L_iload dL_law_264 0 rfl ?_
  refine L_iconst (v := 1) (by decide) dL_law_266 ?_
  refine L_iadd dL_law_267 ?_
  refine L_sld (l_in hb hL (by decide)) dL_law_268 ?_
  refine L_aload_n dL_law_269 rfl 1 rfl ?_
  refine L_iload dL_law_270 0 rfl ?_
  refine L_iconst (v := 2) (by decide) dL_law_272 ?_
  refine L_iadd dL_law_273 ?_
  refine L_sld (l_in hb hL (by decide)) dL_law_274 ?_
  refine L_aload_n dL_law_275 rfl 1 rfl ?_
  refine L_iload dL_law_276 0 rfl ?_
  refine L_iconst (v := 3) (by decide) dL_law_278 ?_
  refine L_iadd dL_law_279 ?_
  refine L_sld (l_in hb hL (by decide)) dL_law_280 ?_
  refine L_aload_n dL_law_281 rfl 1 rfl ?_
  refine L_iload dL_law_282 0 rfl ?_
  refine L_iconst (v := 4) (by decide) dL_law_284 ?_
  refine L_iadd dL_law_285 ?_
  refine L_sld (l_in hb hL (by decide)) dL_law_286 ?_
  refine L_aload_n dL_law_287 rfl 1 rfl ?_
  refine L_iload dL_law_288 0 rfl ?_
  refine L_iconst (v := 5) (by decide) dL_law_290 ?_
  refine L_iadd dL_law_291 ?_
  refine L_sld (l_in hb hL (by decide)) dL_law_292 ?_
  refine L_callV (as := [vi (gs G ((nI (6 * n)) + 1).toNatClampNeg), vi (gs G ((nI (6 * n)) + 2).toNatClampNeg), vi (gs G ((nI (6 * n)) + 3).toNatClampNeg), vi (gs G ((nI (6 * n)) + 4).toNatClampNeg), vi (gs G ((nI (6 * n)) + 5).toNatClampNeg)]) (st := [vi x]) (mc' := 0) (ms' := 0) hE zcv_YL_law_112 rfl rfl rfl rfl (zle rfl) dL_law_293 ⟨by omega, by omega⟩ q (fun r M2 q => ?_)
  obtain ⟨y, rfl, hy, hg⟩ := q
  refine L_icmp_eq (tgt := 2335) dL_law_296 (by decide) (fun _ => ?_) (fun q9 => absurd hy.symm q9)
  exact kk _ _ _ (hg.mono (by omega)).2 (by omega) (by omega)
theorem lc_load (hE : zRm YL_law E.1) (hl : l.stackTraces = false) (hb : 6 * n + 6 ≤ gn G) (hL : gn G ≤ 3072) (hI : Inv M.1 A) (hA : A ≤ 299000000) (hc : c + 753 ≤ E.1.cells ∧ k + 5020 ≤ E.1.slots) (kk : ∀ (w1 : lW) (c1 k1 : Nat), Inv w1.1 (A + 108000) → c1 ≤ c + 753 → k1 ≤ k + 5020 → lAt l G YL_law E 2335 (lLV n) [] w1 c1 k1) : lAt l G YL_law E 301 (lLV n) [] M c k := by
  refine L_aload_n dL_law_301 rfl 2 rfl ?_
  refine L_callV (as := []) (st := []) (mc' := 753) (ms' := 5020) hE zcv_YL_law_113 rfl rfl rfl rfl (zle rfl) dL_law_302 ⟨by omega, by omega⟩ (P_load wordC fillC hI) (fun r M1 q => ?_)
  obtain ⟨x, rfl, q⟩ := q
  refine L_aload_n dL_law_305 rfl 3 rfl ?_
  refine L_callV (as := []) (st := [vi x]) (mc' := 0) (ms' := 0) hE zcv_YL_law_117 rfl rfl rfl rfl (zle rfl) dL_law_306 ⟨by omega, by omega⟩ q (fun r M2 q => ?_)
  obtain ⟨y, rfl, hy, hg⟩ := q
  refine L_icmp_eq (tgt := 2335) dL_law_309 (by decide) (fun _ => ?_) (fun q9 => absurd hy.symm q9)
  exact kk _ _ _ (hg.mono (by omega)).2 (by omega) (by omega)
theorem lc_run (hE : zRm YL_law E.1) (hl : l.stackTraces = false) (hb : 6 * n + 6 ≤ gn G) (hL : gn G ≤ 3072) (hI : Inv M.1 A) (hA : A ≤ 299000000) (hc : c + 753 ≤ E.1.cells ∧ k + 5020 ≤ E.1.slots) (kk : ∀ (w1 : lW) (c1 k1 : Nat), Inv w1.1 (A + 108000) → c1 ≤ c + 753 → k1 ≤ k + 5020 → lAt l G YL_law E 2335 (lLV n) [] w1 c1 k1) : lAt l G YL_law E 314 (lLV n) [] M c k := by
  refine L_aload_n dL_law_314 rfl 2 rfl ?_
  refine L_callV (as := []) (st := []) (mc' := 0) (ms' := 0) hE zcv_YL_law_118 rfl rfl rfl rfl (zle rfl) dL_law_315 ⟨by omega, by omega⟩ (P_run hI hA) (fun r M1 q => ?_)
  obtain ⟨x, rfl, q⟩ := q
  refine L_aload_n dL_law_318 rfl 3 rfl ?_
  refine L_callV (as := []) (st := [vi x]) (mc' := 0) (ms' := 0) hE zcv_YL_law_121 rfl rfl rfl rfl (zle rfl) dL_law_319 ⟨by omega, by omega⟩ q (fun r M2 q => ?_)
  obtain ⟨y, rfl, hy, hg⟩ := q
  refine L_icmp_eq (tgt := 2335) dL_law_322 (by decide) (fun _ => ?_) (fun q9 => absurd hy.symm q9)
  exact kk _ _ _ (hg.mono (by omega)).2 (by omega) (by omega)
theorem lc_errorPosition (hE : zRm YL_law E.1) (hl : l.stackTraces = false) (hb : 6 * n + 6 ≤ gn G) (hL : gn G ≤ 3072) (hI : Inv M.1 A) (hA : A ≤ 299000000) (hc : c + 753 ≤ E.1.cells ∧ k + 5020 ≤ E.1.slots) (kk : ∀ (w1 : lW) (c1 k1 : Nat), Inv w1.1 (A + 108000) → c1 ≤ c + 753 → k1 ≤ k + 5020 → lAt l G YL_law E 2335 (lLV n) [] w1 c1 k1) : lAt l G YL_law E 327 (lLV n) [] M c k := by
  refine L_aload_n dL_law_327 rfl 2 rfl ?_
  refine L_callV (as := []) (st := []) (mc' := 0) (ms' := 0) hE zcv_YL_law_122 rfl rfl rfl rfl (zle rfl) dL_law_328 ⟨by omega, by omega⟩ (P_errorPosition hI) (fun r M1 q => ?_)
  obtain ⟨x, rfl, q⟩ := q
  refine L_aload_n dL_law_331 rfl 3 rfl ?_
  refine L_callV (as := []) (st := [vi x]) (mc' := 0) (ms' := 0) hE zcv_YL_law_125 rfl rfl rfl rfl (zle rfl) dL_law_332 ⟨by omega, by omega⟩ q (fun r M2 q => ?_)
  obtain ⟨y, rfl, hy, hg⟩ := q
  refine L_icmp_eq (tgt := 2335) dL_law_335 (by decide) (fun _ => ?_) (fun q9 => absurd hy.symm q9)
  exact kk _ _ _ (hg.mono (by omega)).2 (by omega) (by omega)
theorem lc_size (hE : zRm YL_law E.1) (hl : l.stackTraces = false) (hb : 6 * n + 6 ≤ gn G) (hL : gn G ≤ 3072) (hI : Inv M.1 A) (hA : A ≤ 299000000) (hc : c + 753 ≤ E.1.cells ∧ k + 5020 ≤ E.1.slots) (kk : ∀ (w1 : lW) (c1 k1 : Nat), Inv w1.1 (A + 108000) → c1 ≤ c + 753 → k1 ≤ k + 5020 → lAt l G YL_law E 2335 (lLV n) [] w1 c1 k1) : lAt l G YL_law E 340 (lLV n) [] M c k := by
  refine L_aload_n dL_law_340 rfl 2 rfl ?_
  refine L_aload_n dL_law_341 rfl 1 rfl ?_
  refine L_iload dL_law_342 0 rfl ?_
  refine L_iconst (v := 1) (by decide) dL_law_344 ?_
  refine L_iadd dL_law_345 ?_
  refine L_sld (l_in hb hL (by decide)) dL_law_346 ?_
  refine L_aload_n dL_law_347 rfl 4 rfl ?_
  refine L_callS (as := [vr 0 0, vi (gs G ((nI (6 * n)) + 1).toNatClampNeg), vr 50 0]) (st := []) (mc' := 1) (ms' := 6) hE zls_law_size rfl rfl (zle rfl) dL_law_348 ⟨by omega, by omega⟩ (w_size (K := fun z w => zCalI l G Y_X9_size 0 0 [vr 30 0, vi (gs G ((nI (6 * n)) + 1).toNatClampNeg)] w.1 (fun y M2 => Good (A) z M2 ∧ (z = 0 → w.2.1 = y.toInt64))) (P_size (p := (gs G ((nI (6 * n)) + 1).toNatClampNeg)) hl hI) (fun x M1 q => zCal_monoI q (fun y M2 g => ⟨g.2, fun _ => by rw [g.1]⟩)) (fun X M1 q => ⟨q.1, zCal_monoI q.2 (fun y M2 g => ⟨g, fun e => absurd e (by decide)⟩)⟩)) (fun r w q => ?_)
  obtain ⟨z, rfl, hz⟩ := q
  refine L_istore (lv2 := [(6, vi z), (5, vi (nI (6 * n))), (0, vr 52 0), (1, vr 0 0), (2, vr 30 0), (3, vr 50 0), (4, vr 51 0)]) dL_law_351 (by decide) rfl ?_
  refine L_aload_n dL_law_353 rfl 4 rfl ?_
  refine L_aload_n dL_law_354 rfl 2 rfl ?_
  refine L_iload dL_law_355 1 rfl ?_
  refine L_iconst (v := 1) (by decide) dL_law_357 ?_
  refine L_iadd dL_law_358 ?_
  refine L_sld (l_in hb hL (by decide)) dL_law_359 ?_
  refine L_callV (as := [vi (gs G ((nI (6 * n)) + 1).toNatClampNeg)]) (st := []) (mc' := 0) (ms' := 0) hE zcv_YL_law_131 rfl rfl rfl rfl (zle rfl) dL_law_360 ⟨by omega, by omega⟩ hz (fun r M2 q => ?_)
  obtain ⟨y, rfl, hg, hv⟩ := q
  refine L_istore (lv2 := [(7, vi y), (6, vi z), (5, vi (nI (6 * n))), (0, vr 52 0), (1, vr 0 0), (2, vr 30 0), (3, vr 50 0), (4, vr 51 0)]) dL_law_363 (by decide) rfl ?_
  refine L_aload_n dL_law_365 rfl 5 rfl ?_
  refine L_callV (as := []) (st := []) (mc' := 0) (ms' := 0) hE zcv_YL_law_132 rfl rfl rfl rfl (zle rfl) dL_law_366 ⟨by omega, by omega⟩ (zm_X9_thrown (Kf := fun t M3 => t = z ∧ M3 = M2) ⟨hg.1, rfl⟩) (fun r M3 q => ?_)
  obtain ⟨t, rfl, ht, hM⟩ := q
  rw [hM]
  refine L_iload dL_law_369 1 rfl ?_
  refine L_icmp_eq (tgt := 376) dL_law_371 (by decide) (fun _ => ?_) (fun q9 => absurd ht q9)
  refine L_iload dL_law_376 1 rfl ?_
  have fin : lAt l G YL_law E 393 [(7, vi y), (6, vi z), (5, vi (nI (6 * n))), (0, vr 52 0), (1, vr 0 0), (2, vr 30 0), (3, vr 50 0), (4, vr 51 0)] [] (M2, w.2) (c + 1 + 0 + 0) (k + 6 + 0 + 0) := by
    refine L_pick [2, 3, 4, 5, 6, 7] (lv2 := lLV n) rfl ?_
    refine L_goto (tgt := 2335) dL_law_393 (by decide) ?_
    exact kk _ _ _ (hg.mono (by omega)).2 (by omega) (by omega)
  refine L_if_ne (tgt := 393) dL_law_378 (by decide) (fun _ => fin) (fun z0 => ?_)
  refine L_aload_n dL_law_381 rfl 6 rfl ?_
  refine L_iconst (v := 0) (by decide) dL_law_382 ?_
  refine L_laldE (hv z0) dL_law_383 ?_
  refine L_iload dL_law_384 0 rfl ?_
  refine L_i2l dL_law_386 ?_
  refine L_lcmp dL_law_387 ?_
  exact L_if_eq (tgt := 393) dL_law_388 (by decide) (fun _ => fin) (fun q9 => absurd (l_cmp0 _) q9)
theorem lc_flow (hE : zRm YL_law E.1) (hl : l.stackTraces = false) (hb : 6 * n + 6 ≤ gn G) (hL : gn G ≤ 3072) (hI : Inv M.1 A) (hA : A ≤ 299000000) (hc : c + 753 ≤ E.1.cells ∧ k + 5020 ≤ E.1.slots) (kk : ∀ (w1 : lW) (c1 k1 : Nat), Inv w1.1 (A + 108000) → c1 ≤ c + 753 → k1 ≤ k + 5020 → lAt l G YL_law E 2335 (lLV n) [] w1 c1 k1) : lAt l G YL_law E 396 (lLV n) [] M c k := by
  refine L_aload_n dL_law_396 rfl 2 rfl ?_
  refine L_aload_n dL_law_397 rfl 1 rfl ?_
  refine L_iload dL_law_398 0 rfl ?_
  refine L_iconst (v := 1) (by decide) dL_law_400 ?_
  refine L_iadd dL_law_401 ?_
  refine L_sld (l_in hb hL (by decide)) dL_law_402 ?_
  refine L_aload_n dL_law_403 rfl 1 rfl ?_
  refine L_iload dL_law_404 0 rfl ?_
  refine L_iconst (v := 2) (by decide) dL_law_406 ?_
  refine L_iadd dL_law_407 ?_
  refine L_sld (l_in hb hL (by decide)) dL_law_408 ?_
  refine L_aload_n dL_law_409 rfl 4 rfl ?_
  refine L_callS (as := [vr 0 0, vi (gs G ((nI (6 * n)) + 1).toNatClampNeg), vi (gs G ((nI (6 * n)) + 2).toNatClampNeg), vr 50 0]) (st := []) (mc' := 2) (ms' := 12) hE zls_law_flow rfl rfl (zle rfl) dL_law_410 ⟨by omega, by omega⟩ (w_flow (K := fun z w => zCalI l G Y_X9_flow 0 0 [vr 30 0, vi (gs G ((nI (6 * n)) + 1).toNatClampNeg), vi (gs G ((nI (6 * n)) + 2).toNatClampNeg)] w.1 (fun y M2 => Good (A) z M2 ∧ (z = 0 → w.2.1 = y.toInt64))) (P_flow (f := (gs G ((nI (6 * n)) + 1).toNatClampNeg)) (p := (gs G ((nI (6 * n)) + 2).toNatClampNeg)) hl hI) (fun x M1 q => zCal_monoI q (fun y M2 g => ⟨g.2, fun _ => by rw [g.1]⟩)) (fun X M1 q => q.elim (fun q => .inl ⟨q.1, zCal_monoI q.2 (fun y M2 g => ⟨g, fun e => absurd e (by decide)⟩)⟩) (fun q => .inr ⟨q.1, zCal_monoI q.2 (fun y M2 g => ⟨g, fun e => absurd e (by decide)⟩)⟩))) (fun r w q => ?_)
  obtain ⟨z, rfl, hz⟩ := q
  refine L_istore (lv2 := [(6, vi z), (5, vi (nI (6 * n))), (0, vr 52 0), (1, vr 0 0), (2, vr 30 0), (3, vr 50 0), (4, vr 51 0)]) dL_law_413 (by decide) rfl ?_
  refine L_aload_n dL_law_415 rfl 4 rfl ?_
  refine L_aload_n dL_law_416 rfl 2 rfl ?_
  refine L_iload dL_law_417 1 rfl ?_
  refine L_iconst (v := 1) (by decide) dL_law_419 ?_
  refine L_iadd dL_law_420 ?_
  refine L_sld (l_in hb hL (by decide)) dL_law_421 ?_
  refine L_aload_n dL_law_422 rfl 2 rfl ?_
  refine L_iload dL_law_423 1 rfl ?_
  refine L_iconst (v := 2) (by decide) dL_law_425 ?_
  refine L_iadd dL_law_426 ?_
  refine L_sld (l_in hb hL (by decide)) dL_law_427 ?_
  refine L_callV (as := [vi (gs G ((nI (6 * n)) + 1).toNatClampNeg), vi (gs G ((nI (6 * n)) + 2).toNatClampNeg)]) (st := []) (mc' := 0) (ms' := 0) hE zcv_YL_law_138 rfl rfl rfl rfl (zle rfl) dL_law_428 ⟨by omega, by omega⟩ hz (fun r M2 q => ?_)
  obtain ⟨y, rfl, hg, hv⟩ := q
  refine L_istore (lv2 := [(7, vi y), (6, vi z), (5, vi (nI (6 * n))), (0, vr 52 0), (1, vr 0 0), (2, vr 30 0), (3, vr 50 0), (4, vr 51 0)]) dL_law_431 (by decide) rfl ?_
  refine L_aload_n dL_law_433 rfl 5 rfl ?_
  refine L_callV (as := []) (st := []) (mc' := 0) (ms' := 0) hE zcv_YL_law_132 rfl rfl rfl rfl (zle rfl) dL_law_434 ⟨by omega, by omega⟩ (zm_X9_thrown (Kf := fun t M3 => t = z ∧ M3 = M2) ⟨hg.1, rfl⟩) (fun r M3 q => ?_)
  obtain ⟨t, rfl, ht, hM⟩ := q
  rw [hM]
  refine L_iload dL_law_437 1 rfl ?_
  refine L_icmp_eq (tgt := 444) dL_law_439 (by decide) (fun _ => ?_) (fun q9 => absurd ht q9)
  refine L_iload dL_law_444 1 rfl ?_
  have fin : lAt l G YL_law E 461 [(7, vi y), (6, vi z), (5, vi (nI (6 * n))), (0, vr 52 0), (1, vr 0 0), (2, vr 30 0), (3, vr 50 0), (4, vr 51 0)] [] (M2, w.2) (c + 2 + 0 + 0) (k + 12 + 0 + 0) := by
    refine L_pick [2, 3, 4, 5, 6, 7] (lv2 := lLV n) rfl ?_
    refine L_goto (tgt := 2335) dL_law_461 (by decide) ?_
    exact kk _ _ _ (hg.mono (by omega)).2 (by omega) (by omega)
  refine L_if_ne (tgt := 461) dL_law_446 (by decide) (fun _ => fin) (fun z0 => ?_)
  refine L_aload_n dL_law_449 rfl 6 rfl ?_
  refine L_iconst (v := 0) (by decide) dL_law_450 ?_
  refine L_laldE (hv z0) dL_law_451 ?_
  refine L_iload dL_law_452 0 rfl ?_
  refine L_i2l dL_law_454 ?_
  refine L_lcmp dL_law_455 ?_
  exact L_if_eq (tgt := 461) dL_law_456 (by decide) (fun _ => fin) (fun q9 => absurd (l_cmp0 _) q9)
theorem lc_letter (hE : zRm YL_law E.1) (hl : l.stackTraces = false) (hb : 6 * n + 6 ≤ gn G) (hL : gn G ≤ 3072) (hI : Inv M.1 A) (hA : A ≤ 299000000) (hc : c + 753 ≤ E.1.cells ∧ k + 5020 ≤ E.1.slots) (kk : ∀ (w1 : lW) (c1 k1 : Nat), Inv w1.1 (A + 108000) → c1 ≤ c + 753 → k1 ≤ k + 5020 → lAt l G YL_law E 2335 (lLV n) [] w1 c1 k1) : lAt l G YL_law E 464 (lLV n) [] M c k := by
  refine L_aload_n dL_law_464 rfl 2 rfl ?_
  refine L_aload_n dL_law_465 rfl 1 rfl ?_
  refine L_iload dL_law_466 0 rfl ?_
  refine L_iconst (v := 1) (by decide) dL_law_468 ?_
  refine L_iadd dL_law_469 ?_
  refine L_sld (l_in hb hL (by decide)) dL_law_470 ?_
  refine L_aload_n dL_law_471 rfl 1 rfl ?_
  refine L_iload dL_law_472 0 rfl ?_
  refine L_iconst (v := 2) (by decide) dL_law_474 ?_
  refine L_iadd dL_law_475 ?_
  refine L_sld (l_in hb hL (by decide)) dL_law_476 ?_
  refine L_aload_n dL_law_477 rfl 4 rfl ?_
  refine L_callS (as := [vr 0 0, vi (gs G ((nI (6 * n)) + 1).toNatClampNeg), vi (gs G ((nI (6 * n)) + 2).toNatClampNeg), vr 50 0]) (st := []) (mc' := 1) (ms' := 6) hE zls_law_letter rfl rfl (zle rfl) dL_law_478 ⟨by omega, by omega⟩ (w_letter (K := fun z w => zCalI l G Y_X9_letter 0 0 [vr 30 0, vi (gs G ((nI (6 * n)) + 1).toNatClampNeg), vi (gs G ((nI (6 * n)) + 2).toNatClampNeg)] w.1 (fun y M2 => Good (A) z M2 ∧ (z = 0 → w.2.1 = y.toInt64))) (P_letter (f := (gs G ((nI (6 * n)) + 1).toNatClampNeg)) (p := (gs G ((nI (6 * n)) + 2).toNatClampNeg)) hl hI) (fun x M1 q => zCal_monoI q (fun y M2 g => ⟨g.2, fun _ => by rw [g.1]⟩)) (fun X M1 q => ⟨q.1, zCal_monoI q.2 (fun y M2 g => ⟨g, fun e => absurd e (by decide)⟩)⟩)) (fun r w q => ?_)
  obtain ⟨z, rfl, hz⟩ := q
  refine L_istore (lv2 := [(6, vi z), (5, vi (nI (6 * n))), (0, vr 52 0), (1, vr 0 0), (2, vr 30 0), (3, vr 50 0), (4, vr 51 0)]) dL_law_481 (by decide) rfl ?_
  refine L_aload_n dL_law_483 rfl 4 rfl ?_
  refine L_aload_n dL_law_484 rfl 2 rfl ?_
  refine L_iload dL_law_485 1 rfl ?_
  refine L_iconst (v := 1) (by decide) dL_law_487 ?_
  refine L_iadd dL_law_488 ?_
  refine L_sld (l_in hb hL (by decide)) dL_law_489 ?_
  refine L_aload_n dL_law_490 rfl 2 rfl ?_
  refine L_iload dL_law_491 1 rfl ?_
  refine L_iconst (v := 2) (by decide) dL_law_493 ?_
  refine L_iadd dL_law_494 ?_
  refine L_sld (l_in hb hL (by decide)) dL_law_495 ?_
  refine L_callV (as := [vi (gs G ((nI (6 * n)) + 1).toNatClampNeg), vi (gs G ((nI (6 * n)) + 2).toNatClampNeg)]) (st := []) (mc' := 0) (ms' := 0) hE zcv_YL_law_141 rfl rfl rfl rfl (zle rfl) dL_law_496 ⟨by omega, by omega⟩ hz (fun r M2 q => ?_)
  obtain ⟨y, rfl, hg, hv⟩ := q
  refine L_istore (lv2 := [(7, vi y), (6, vi z), (5, vi (nI (6 * n))), (0, vr 52 0), (1, vr 0 0), (2, vr 30 0), (3, vr 50 0), (4, vr 51 0)]) dL_law_499 (by decide) rfl ?_
  refine L_aload_n dL_law_501 rfl 5 rfl ?_
  refine L_callV (as := []) (st := []) (mc' := 0) (ms' := 0) hE zcv_YL_law_132 rfl rfl rfl rfl (zle rfl) dL_law_502 ⟨by omega, by omega⟩ (zm_X9_thrown (Kf := fun t M3 => t = z ∧ M3 = M2) ⟨hg.1, rfl⟩) (fun r M3 q => ?_)
  obtain ⟨t, rfl, ht, hM⟩ := q
  rw [hM]
  refine L_iload dL_law_505 1 rfl ?_
  refine L_icmp_eq (tgt := 512) dL_law_507 (by decide) (fun _ => ?_) (fun q9 => absurd ht q9)
  refine L_iload dL_law_512 1 rfl ?_
  have fin : lAt l G YL_law E 529 [(7, vi y), (6, vi z), (5, vi (nI (6 * n))), (0, vr 52 0), (1, vr 0 0), (2, vr 30 0), (3, vr 50 0), (4, vr 51 0)] [] (M2, w.2) (c + 1 + 0 + 0) (k + 6 + 0 + 0) := by
    refine L_pick [2, 3, 4, 5, 6, 7] (lv2 := lLV n) rfl ?_
    refine L_goto (tgt := 2335) dL_law_529 (by decide) ?_
    exact kk _ _ _ (hg.mono (by omega)).2 (by omega) (by omega)
  refine L_if_ne (tgt := 529) dL_law_514 (by decide) (fun _ => fin) (fun z0 => ?_)
  refine L_aload_n dL_law_517 rfl 6 rfl ?_
  refine L_iconst (v := 0) (by decide) dL_law_518 ?_
  refine L_laldE (hv z0) dL_law_519 ?_
  refine L_iload dL_law_520 0 rfl ?_
  refine L_i2l dL_law_522 ?_
  refine L_lcmp dL_law_523 ?_
  exact L_if_eq (tgt := 529) dL_law_524 (by decide) (fun _ => fin) (fun q9 => absurd (l_cmp0 _) q9)
theorem lc_packet (hE : zRm YL_law E.1) (hl : l.stackTraces = false) (hb : 6 * n + 6 ≤ gn G) (hL : gn G ≤ 3072) (hI : Inv M.1 A) (hA : A ≤ 299000000) (hc : c + 753 ≤ E.1.cells ∧ k + 5020 ≤ E.1.slots) (kk : ∀ (w1 : lW) (c1 k1 : Nat), Inv w1.1 (A + 108000) → c1 ≤ c + 753 → k1 ≤ k + 5020 → lAt l G YL_law E 2335 (lLV n) [] w1 c1 k1) : lAt l G YL_law E 532 (lLV n) [] M c k := by
  refine L_aload_n dL_law_532 rfl 2 rfl ?_
  refine L_aload_n dL_law_533 rfl 1 rfl ?_
  refine L_iload dL_law_534 0 rfl ?_
  refine L_iconst (v := 1) (by decide) dL_law_536 ?_
  refine L_iadd dL_law_537 ?_
  refine L_sld (l_in hb hL (by decide)) dL_law_538 ?_
  refine L_aload_n dL_law_539 rfl 1 rfl ?_
  refine L_iload dL_law_540 0 rfl ?_
  refine L_iconst (v := 2) (by decide) dL_law_542 ?_
  refine L_iadd dL_law_543 ?_
  refine L_sld (l_in hb hL (by decide)) dL_law_544 ?_
  refine L_aload_n dL_law_545 rfl 4 rfl ?_
  refine L_callS (as := [vr 0 0, vi (gs G ((nI (6 * n)) + 1).toNatClampNeg), vi (gs G ((nI (6 * n)) + 2).toNatClampNeg), vr 50 0]) (st := []) (mc' := 2) (ms' := 12) hE zls_law_packet rfl rfl (zle rfl) dL_law_546 ⟨by omega, by omega⟩ (w_packet (K := fun z w => zCalI l G Y_X9_packet 0 0 [vr 30 0, vi (gs G ((nI (6 * n)) + 1).toNatClampNeg), vi (gs G ((nI (6 * n)) + 2).toNatClampNeg)] w.1 (fun y M2 => Good (A) z M2 ∧ (z = 0 → w.2.1 = y.toInt64))) (P_packet (p := (gs G ((nI (6 * n)) + 1).toNatClampNeg)) (q := (gs G ((nI (6 * n)) + 2).toNatClampNeg)) hl hI) (fun x M1 q => zCal_monoI q (fun y M2 g => ⟨g.2, fun _ => by rw [g.1]⟩)) (fun X M1 q => q.elim (fun q => .inl ⟨q.1, zCal_monoI q.2 (fun y M2 g => ⟨g, fun e => absurd e (by decide)⟩)⟩) (fun q => .inr ⟨q.1, zCal_monoI q.2 (fun y M2 g => ⟨g, fun e => absurd e (by decide)⟩)⟩))) (fun r w q => ?_)
  obtain ⟨z, rfl, hz⟩ := q
  refine L_istore (lv2 := [(6, vi z), (5, vi (nI (6 * n))), (0, vr 52 0), (1, vr 0 0), (2, vr 30 0), (3, vr 50 0), (4, vr 51 0)]) dL_law_549 (by decide) rfl ?_
  refine L_aload_n dL_law_551 rfl 4 rfl ?_
  refine L_aload_n dL_law_552 rfl 2 rfl ?_
  refine L_iload dL_law_553 1 rfl ?_
  refine L_iconst (v := 1) (by decide) dL_law_555 ?_
  refine L_iadd dL_law_556 ?_
  refine L_sld (l_in hb hL (by decide)) dL_law_557 ?_
  refine L_aload_n dL_law_558 rfl 2 rfl ?_
  refine L_iload dL_law_559 1 rfl ?_
  refine L_iconst (v := 2) (by decide) dL_law_561 ?_
  refine L_iadd dL_law_562 ?_
  refine L_sld (l_in hb hL (by decide)) dL_law_563 ?_
  refine L_callV (as := [vi (gs G ((nI (6 * n)) + 1).toNatClampNeg), vi (gs G ((nI (6 * n)) + 2).toNatClampNeg)]) (st := []) (mc' := 0) (ms' := 0) hE zcv_YL_law_144 rfl rfl rfl rfl (zle rfl) dL_law_564 ⟨by omega, by omega⟩ hz (fun r M2 q => ?_)
  obtain ⟨y, rfl, hg, hv⟩ := q
  refine L_istore (lv2 := [(7, vi y), (6, vi z), (5, vi (nI (6 * n))), (0, vr 52 0), (1, vr 0 0), (2, vr 30 0), (3, vr 50 0), (4, vr 51 0)]) dL_law_567 (by decide) rfl ?_
  refine L_aload_n dL_law_569 rfl 5 rfl ?_
  refine L_callV (as := []) (st := []) (mc' := 0) (ms' := 0) hE zcv_YL_law_132 rfl rfl rfl rfl (zle rfl) dL_law_570 ⟨by omega, by omega⟩ (zm_X9_thrown (Kf := fun t M3 => t = z ∧ M3 = M2) ⟨hg.1, rfl⟩) (fun r M3 q => ?_)
  obtain ⟨t, rfl, ht, hM⟩ := q
  rw [hM]
  refine L_iload dL_law_573 1 rfl ?_
  refine L_icmp_eq (tgt := 580) dL_law_575 (by decide) (fun _ => ?_) (fun q9 => absurd ht q9)
  refine L_iload dL_law_580 1 rfl ?_
  have fin : lAt l G YL_law E 597 [(7, vi y), (6, vi z), (5, vi (nI (6 * n))), (0, vr 52 0), (1, vr 0 0), (2, vr 30 0), (3, vr 50 0), (4, vr 51 0)] [] (M2, w.2) (c + 2 + 0 + 0) (k + 12 + 0 + 0) := by
    refine L_pick [2, 3, 4, 5, 6, 7] (lv2 := lLV n) rfl ?_
    refine L_goto (tgt := 2335) dL_law_597 (by decide) ?_
    exact kk _ _ _ (hg.mono (by omega)).2 (by omega) (by omega)
  refine L_if_ne (tgt := 597) dL_law_582 (by decide) (fun _ => fin) (fun z0 => ?_)
  refine L_aload_n dL_law_585 rfl 6 rfl ?_
  refine L_iconst (v := 0) (by decide) dL_law_586 ?_
  refine L_laldE (hv z0) dL_law_587 ?_
  refine L_iload dL_law_588 0 rfl ?_
  refine L_i2l dL_law_590 ?_
  refine L_lcmp dL_law_591 ?_
  exact L_if_eq (tgt := 597) dL_law_592 (by decide) (fun _ => fin) (fun q9 => absurd (l_cmp0 _) q9)
theorem lc_account (hE : zRm YL_law E.1) (hl : l.stackTraces = false) (hb : 6 * n + 6 ≤ gn G) (hL : gn G ≤ 3072) (hI : Inv M.1 A) (hA : A ≤ 299000000) (hc : c + 753 ≤ E.1.cells ∧ k + 5020 ≤ E.1.slots) (kk : ∀ (w1 : lW) (c1 k1 : Nat), Inv w1.1 (A + 108000) → c1 ≤ c + 753 → k1 ≤ k + 5020 → lAt l G YL_law E 2335 (lLV n) [] w1 c1 k1) : lAt l G YL_law E 600 (lLV n) [] M c k := by
  refine L_aload_n dL_law_600 rfl 2 rfl ?_
  refine L_aload_n dL_law_601 rfl 1 rfl ?_
  refine L_iload dL_law_602 0 rfl ?_
  refine L_iconst (v := 1) (by decide) dL_law_604 ?_
  refine L_iadd dL_law_605 ?_
  refine L_sld (l_in hb hL (by decide)) dL_law_606 ?_
  refine L_aload_n dL_law_607 rfl 1 rfl ?_
  refine L_iload dL_law_608 0 rfl ?_
  refine L_iconst (v := 2) (by decide) dL_law_610 ?_
  refine L_iadd dL_law_611 ?_
  refine L_sld (l_in hb hL (by decide)) dL_law_612 ?_
  refine L_aload_n dL_law_613 rfl 4 rfl ?_
  refine L_callS (as := [vr 0 0, vi (gs G ((nI (6 * n)) + 1).toNatClampNeg), vi (gs G ((nI (6 * n)) + 2).toNatClampNeg), vr 50 0]) (st := []) (mc' := 2) (ms' := 12) hE zls_law_account rfl rfl (zle rfl) dL_law_614 ⟨by omega, by omega⟩ (w_account (K := fun z w => zCalL l G Y_X9_account 0 0 [vr 30 0, vi (gs G ((nI (6 * n)) + 1).toNatClampNeg), vi (gs G ((nI (6 * n)) + 2).toNatClampNeg)] w.1 (fun y M2 => Good (A) z M2 ∧ (z = 0 → w.2.1 = y))) (P_account (f := (gs G ((nI (6 * n)) + 1).toNatClampNeg)) (q := (gs G ((nI (6 * n)) + 2).toNatClampNeg)) hl hI hA) (fun x M1 q => zCal_monoL q (fun y M2 g => ⟨g.2, fun _ => by rw [g.1]⟩)) (fun X M1 q => q.elim (fun q => .inl ⟨q.1, zCal_monoL q.2 (fun y M2 g => ⟨g, fun e => absurd e (by decide)⟩)⟩) (fun q => .inr ⟨q.1, zCal_monoL q.2 (fun y M2 g => ⟨g, fun e => absurd e (by decide)⟩)⟩))) (fun r w q => ?_)
  obtain ⟨z, rfl, hz⟩ := q
  refine L_istore (lv2 := [(6, vi z), (5, vi (nI (6 * n))), (0, vr 52 0), (1, vr 0 0), (2, vr 30 0), (3, vr 50 0), (4, vr 51 0)]) dL_law_617 (by decide) rfl ?_
  refine L_aload_n dL_law_619 rfl 4 rfl ?_
  refine L_aload_n dL_law_620 rfl 2 rfl ?_
  refine L_iload dL_law_621 1 rfl ?_
  refine L_iconst (v := 1) (by decide) dL_law_623 ?_
  refine L_iadd dL_law_624 ?_
  refine L_sld (l_in hb hL (by decide)) dL_law_625 ?_
  refine L_aload_n dL_law_626 rfl 2 rfl ?_
  refine L_iload dL_law_627 1 rfl ?_
  refine L_iconst (v := 2) (by decide) dL_law_629 ?_
  refine L_iadd dL_law_630 ?_
  refine L_sld (l_in hb hL (by decide)) dL_law_631 ?_
  refine L_callV (as := [vi (gs G ((nI (6 * n)) + 1).toNatClampNeg), vi (gs G ((nI (6 * n)) + 2).toNatClampNeg)]) (st := []) (mc' := 0) (ms' := 0) hE zcv_YL_law_147 rfl rfl rfl rfl (zle rfl) dL_law_632 ⟨by omega, by omega⟩ hz (fun r M2 q => ?_)
  obtain ⟨y, rfl, hg, hv⟩ := q
  refine L_lstore (lv2 := [(7, vl y), (6, vi z), (5, vi (nI (6 * n))), (0, vr 52 0), (1, vr 0 0), (2, vr 30 0), (3, vr 50 0), (4, vr 51 0)]) dL_law_635 (by decide) rfl ?_
  refine L_aload_n dL_law_637 rfl 5 rfl ?_
  refine L_callV (as := []) (st := []) (mc' := 0) (ms' := 0) hE zcv_YL_law_132 rfl rfl rfl rfl (zle rfl) dL_law_638 ⟨by omega, by omega⟩ (zm_X9_thrown (Kf := fun t M3 => t = z ∧ M3 = M2) ⟨hg.1, rfl⟩) (fun r M3 q => ?_)
  obtain ⟨t, rfl, ht, hM⟩ := q
  rw [hM]
  refine L_iload dL_law_641 1 rfl ?_
  refine L_icmp_eq (tgt := 648) dL_law_643 (by decide) (fun _ => ?_) (fun q9 => absurd ht q9)
  refine L_iload dL_law_648 1 rfl ?_
  have fin : lAt l G YL_law E 664 [(7, vl y), (6, vi z), (5, vi (nI (6 * n))), (0, vr 52 0), (1, vr 0 0), (2, vr 30 0), (3, vr 50 0), (4, vr 51 0)] [] (M2, w.2) (c + 2 + 0 + 0) (k + 12 + 0 + 0) := by
    refine L_pick [2, 3, 4, 5, 6, 7] (lv2 := lLV n) rfl ?_
    refine L_goto (tgt := 2335) dL_law_664 (by decide) ?_
    exact kk _ _ _ (hg.mono (by omega)).2 (by omega) (by omega)
  refine L_if_ne (tgt := 664) dL_law_650 (by decide) (fun _ => fin) (fun z0 => ?_)
  refine L_aload_n dL_law_653 rfl 6 rfl ?_
  refine L_iconst (v := 0) (by decide) dL_law_654 ?_
  refine L_laldE (hv z0) dL_law_655 ?_
  refine L_lload dL_law_656 0 rfl ?_
  refine L_lcmp dL_law_658 ?_
  exact L_if_eq (tgt := 664) dL_law_659 (by decide) (fun _ => fin) (fun q9 => absurd (l_cmp0 _) q9)
theorem lc_decision (hE : zRm YL_law E.1) (hl : l.stackTraces = false) (hb : 6 * n + 6 ≤ gn G) (hL : gn G ≤ 3072) (hI : Inv M.1 A) (hA : A ≤ 299000000) (hc : c + 753 ≤ E.1.cells ∧ k + 5020 ≤ E.1.slots) (kk : ∀ (w1 : lW) (c1 k1 : Nat), Inv w1.1 (A + 108000) → c1 ≤ c + 753 → k1 ≤ k + 5020 → lAt l G YL_law E 2335 (lLV n) [] w1 c1 k1) : lAt l G YL_law E 667 (lLV n) [] M c k := by
  refine L_aload_n dL_law_667 rfl 2 rfl ?_
  refine L_aload_n dL_law_668 rfl 1 rfl ?_
  refine L_iload dL_law_669 0 rfl ?_
  refine L_iconst (v := 1) (by decide) dL_law_671 ?_
  refine L_iadd dL_law_672 ?_
  refine L_sld (l_in hb hL (by decide)) dL_law_673 ?_
  refine L_aload_n dL_law_674 rfl 1 rfl ?_
  refine L_iload dL_law_675 0 rfl ?_
  refine L_iconst (v := 2) (by decide) dL_law_677 ?_
  refine L_iadd dL_law_678 ?_
  refine L_sld (l_in hb hL (by decide)) dL_law_679 ?_
  refine L_aload_n dL_law_680 rfl 4 rfl ?_
  refine L_callS (as := [vr 0 0, vi (gs G ((nI (6 * n)) + 1).toNatClampNeg), vi (gs G ((nI (6 * n)) + 2).toNatClampNeg), vr 50 0]) (st := []) (mc' := 2) (ms' := 12) hE zls_law_decision rfl rfl (zle rfl) dL_law_681 ⟨by omega, by omega⟩ (w_decision (K := fun z w => zCalI l G Y_X9_decision 0 0 [vr 30 0, vi (gs G ((nI (6 * n)) + 1).toNatClampNeg), vi (gs G ((nI (6 * n)) + 2).toNatClampNeg)] w.1 (fun y M2 => Good (A) z M2 ∧ (z = 0 → w.2.1 = y.toInt64))) (P_decision (p := (gs G ((nI (6 * n)) + 1).toNatClampNeg)) (q := (gs G ((nI (6 * n)) + 2).toNatClampNeg)) hl hI) (fun x M1 q => zCal_monoI q (fun y M2 g => ⟨g.2, fun _ => by rw [g.1]⟩)) (fun X M1 q => q.elim (fun q => .inl ⟨q.1, zCal_monoI q.2 (fun y M2 g => ⟨g, fun e => absurd e (by decide)⟩)⟩) (fun q => .inr ⟨q.1, zCal_monoI q.2 (fun y M2 g => ⟨g, fun e => absurd e (by decide)⟩)⟩))) (fun r w q => ?_)
  obtain ⟨z, rfl, hz⟩ := q
  refine L_istore (lv2 := [(6, vi z), (5, vi (nI (6 * n))), (0, vr 52 0), (1, vr 0 0), (2, vr 30 0), (3, vr 50 0), (4, vr 51 0)]) dL_law_684 (by decide) rfl ?_
  refine L_aload_n dL_law_686 rfl 4 rfl ?_
  refine L_aload_n dL_law_687 rfl 2 rfl ?_
  refine L_iload dL_law_688 1 rfl ?_
  refine L_iconst (v := 1) (by decide) dL_law_690 ?_
  refine L_iadd dL_law_691 ?_
  refine L_sld (l_in hb hL (by decide)) dL_law_692 ?_
  refine L_aload_n dL_law_693 rfl 2 rfl ?_
  refine L_iload dL_law_694 1 rfl ?_
  refine L_iconst (v := 2) (by decide) dL_law_696 ?_
  refine L_iadd dL_law_697 ?_
  refine L_sld (l_in hb hL (by decide)) dL_law_698 ?_
  refine L_callV (as := [vi (gs G ((nI (6 * n)) + 1).toNatClampNeg), vi (gs G ((nI (6 * n)) + 2).toNatClampNeg)]) (st := []) (mc' := 0) (ms' := 0) hE zcv_YL_law_150 rfl rfl rfl rfl (zle rfl) dL_law_699 ⟨by omega, by omega⟩ hz (fun r M2 q => ?_)
  obtain ⟨y, rfl, hg, hv⟩ := q
  refine L_istore (lv2 := [(7, vi y), (6, vi z), (5, vi (nI (6 * n))), (0, vr 52 0), (1, vr 0 0), (2, vr 30 0), (3, vr 50 0), (4, vr 51 0)]) dL_law_702 (by decide) rfl ?_
  refine L_aload_n dL_law_704 rfl 5 rfl ?_
  refine L_callV (as := []) (st := []) (mc' := 0) (ms' := 0) hE zcv_YL_law_132 rfl rfl rfl rfl (zle rfl) dL_law_705 ⟨by omega, by omega⟩ (zm_X9_thrown (Kf := fun t M3 => t = z ∧ M3 = M2) ⟨hg.1, rfl⟩) (fun r M3 q => ?_)
  obtain ⟨t, rfl, ht, hM⟩ := q
  rw [hM]
  refine L_iload dL_law_708 1 rfl ?_
  refine L_icmp_eq (tgt := 715) dL_law_710 (by decide) (fun _ => ?_) (fun q9 => absurd ht q9)
  refine L_iload dL_law_715 1 rfl ?_
  have fin : lAt l G YL_law E 732 [(7, vi y), (6, vi z), (5, vi (nI (6 * n))), (0, vr 52 0), (1, vr 0 0), (2, vr 30 0), (3, vr 50 0), (4, vr 51 0)] [] (M2, w.2) (c + 2 + 0 + 0) (k + 12 + 0 + 0) := by
    refine L_pick [2, 3, 4, 5, 6, 7] (lv2 := lLV n) rfl ?_
    refine L_goto (tgt := 2335) dL_law_732 (by decide) ?_
    exact kk _ _ _ (hg.mono (by omega)).2 (by omega) (by omega)
  refine L_if_ne (tgt := 732) dL_law_717 (by decide) (fun _ => fin) (fun z0 => ?_)
  refine L_aload_n dL_law_720 rfl 6 rfl ?_
  refine L_iconst (v := 0) (by decide) dL_law_721 ?_
  refine L_laldE (hv z0) dL_law_722 ?_
  refine L_iload dL_law_723 0 rfl ?_
  refine L_i2l dL_law_725 ?_
  refine L_lcmp dL_law_726 ?_
  exact L_if_eq (tgt := 732) dL_law_727 (by decide) (fun _ => fin) (fun q9 => absurd (l_cmp0 _) q9)
theorem lc_amiss (hE : zRm YL_law E.1) (hl : l.stackTraces = false) (hb : 6 * n + 6 ≤ gn G) (hL : gn G ≤ 3072) (hI : Inv M.1 A) (hA : A ≤ 299000000) (hc : c + 753 ≤ E.1.cells ∧ k + 5020 ≤ E.1.slots) (kk : ∀ (w1 : lW) (c1 k1 : Nat), Inv w1.1 (A + 108000) → c1 ≤ c + 753 → k1 ≤ k + 5020 → lAt l G YL_law E 2335 (lLV n) [] w1 c1 k1) : lAt l G YL_law E 735 (lLV n) [] M c k := by
  refine L_aload_n dL_law_735 rfl 2 rfl ?_
  refine L_callV (as := []) (st := []) (mc' := 0) (ms' := 0) hE zcv_YL_law_151 rfl rfl rfl rfl (zle rfl) dL_law_736 ⟨by omega, by omega⟩ (P_amiss hI) (fun r M1 q => ?_)
  obtain ⟨x, rfl, q⟩ := q
  refine L_aload_n dL_law_739 rfl 3 rfl ?_
  refine L_callV (as := []) (st := [vi x]) (mc' := 0) (ms' := 0) hE zcv_YL_law_154 rfl rfl rfl rfl (zle rfl) dL_law_740 ⟨by omega, by omega⟩ q (fun r M2 q => ?_)
  obtain ⟨y, rfl, hy, hg⟩ := q
  refine L_icmp_eq (tgt := 2335) dL_law_743 (by decide) (fun _ => ?_) (fun q9 => absurd hy.symm q9)
  exact kk _ _ _ (hg.mono (by omega)).2 (by omega) (by omega)
theorem lc_average (hE : zRm YL_law E.1) (hl : l.stackTraces = false) (hb : 6 * n + 6 ≤ gn G) (hL : gn G ≤ 3072) (hI : Inv M.1 A) (hA : A ≤ 299000000) (hc : c + 753 ≤ E.1.cells ∧ k + 5020 ≤ E.1.slots) (kk : ∀ (w1 : lW) (c1 k1 : Nat), Inv w1.1 (A + 108000) → c1 ≤ c + 753 → k1 ≤ k + 5020 → lAt l G YL_law E 2335 (lLV n) [] w1 c1 k1) : lAt l G YL_law E 748 (lLV n) [] M c k := by
  refine L_aload_n dL_law_748 rfl 2 rfl ?_
  refine L_callV (as := []) (st := []) (mc' := 0) (ms' := 0) hE zcv_YL_law_155 rfl rfl rfl rfl (zle rfl) dL_law_749 ⟨by omega, by omega⟩ (P_average hI) (fun r M1 q => ?_)
  obtain ⟨x, rfl, q⟩ := q
  refine L_dstore (lv2 := [(6, vd x), (5, vi (nI (6 * n))), (0, vr 52 0), (1, vr 0 0), (2, vr 30 0), (3, vr 50 0), (4, vr 51 0)]) dL_law_752 (by decide) rfl ?_
  refine L_aload_n dL_law_754 rfl 4 rfl ?_
  refine L_callV (as := []) (st := []) (mc' := 0) (ms' := 0) hE zcv_YL_law_159 rfl rfl rfl rfl (zle rfl) dL_law_755 ⟨by omega, by omega⟩ q (fun r M2 q => ?_)
  obtain ⟨y, rfl, hy, hg⟩ := q
  rw [hy]
  refine L_dstore (lv2 := [(8, vd x), (6, vd x), (5, vi (nI (6 * n))), (0, vr 52 0), (1, vr 0 0), (2, vr 30 0), (3, vr 50 0), (4, vr 51 0)]) dL_law_758 (by decide) rfl ?_
  refine L_dload dL_law_760 1 rfl ?_
  refine L_dload dL_law_762 0 rfl ?_
  refine L_dcmp dL_law_764 ?_
  have fin : lAt l G YL_law E 786 [(8, vd x), (6, vd x), (5, vi (nI (6 * n))), (0, vr 52 0), (1, vr 0 0), (2, vr 30 0), (3, vr 50 0), (4, vr 51 0)] [] (M2, M.2) (c + 0 + 0) (k + 0 + 0) := by
    refine L_pick [2, 3, 4, 5, 6, 7] (lv2 := lLV n) rfl ?_
    refine L_goto (tgt := 2335) dL_law_786 (by decide) ?_
    exact kk _ _ _ (hg.mono (by omega)).2 (by omega) (by omega)
  refine L_if_eq (tgt := 786) dL_law_765 (by decide) (fun _ => fin) (fun q9 => ?_)
  refine L_dload dL_law_768 1 rfl ?_
  refine L_dload dL_law_770 1 rfl ?_
  refine L_dcmp dL_law_772 ?_
  refine L_if_eq (tgt := 784) dL_law_773 (by decide) (fun q8 => absurd q8 q9) (fun _ => ?_)
  refine L_dload dL_law_776 0 rfl ?_
  refine L_dload dL_law_778 0 rfl ?_
  refine L_dcmp dL_law_780 ?_
  exact L_if_ne (tgt := 786) dL_law_781 (by decide) (fun _ => fin) (fun q8 => absurd q8 q9)
theorem lc_lossShare (hE : zRm YL_law E.1) (hl : l.stackTraces = false) (hb : 6 * n + 6 ≤ gn G) (hL : gn G ≤ 3072) (hI : Inv M.1 A) (hA : A ≤ 299000000) (hc : c + 753 ≤ E.1.cells ∧ k + 5020 ≤ E.1.slots) (kk : ∀ (w1 : lW) (c1 k1 : Nat), Inv w1.1 (A + 108000) → c1 ≤ c + 753 → k1 ≤ k + 5020 → lAt l G YL_law E 2335 (lLV n) [] w1 c1 k1) : lAt l G YL_law E 789 (lLV n) [] M c k := by
  refine L_aload_n dL_law_789 rfl 2 rfl ?_
  refine L_callV (as := []) (st := []) (mc' := 0) (ms' := 0) hE zcv_YL_law_160 rfl rfl rfl rfl (zle rfl) dL_law_790 ⟨by omega, by omega⟩ (P_lossShareN hI hA) (fun r M1 q => ?_)
  obtain ⟨x, rfl, q⟩ := q
  obtain ⟨q0, q⟩ := q
  refine L_f2d dL_law_793 q0 ?_
  refine L_dstore (lv2 := [(6, vd (FP.f2d x)), (5, vi (nI (6 * n))), (0, vr 52 0), (1, vr 0 0), (2, vr 30 0), (3, vr 50 0), (4, vr 51 0)]) dL_law_794 (by decide) rfl ?_
  refine L_aload_n dL_law_796 rfl 4 rfl ?_
  refine L_callV (as := []) (st := []) (mc' := 0) (ms' := 0) hE zcv_YL_law_164 rfl rfl rfl rfl (zle rfl) dL_law_797 ⟨by omega, by omega⟩ q (fun r M2 q => ?_)
  obtain ⟨y, rfl, hy, hg⟩ := q
  rw [hy]
  refine L_f2d dL_law_800 q0 ?_
  refine L_dstore (lv2 := [(8, vd (FP.f2d x)), (6, vd (FP.f2d x)), (5, vi (nI (6 * n))), (0, vr 52 0), (1, vr 0 0), (2, vr 30 0), (3, vr 50 0), (4, vr 51 0)]) dL_law_801 (by decide) rfl ?_
  refine L_dload dL_law_803 1 rfl ?_
  refine L_dload dL_law_805 0 rfl ?_
  refine L_dcmp dL_law_807 ?_
  have fin : lAt l G YL_law E 829 [(8, vd (FP.f2d x)), (6, vd (FP.f2d x)), (5, vi (nI (6 * n))), (0, vr 52 0), (1, vr 0 0), (2, vr 30 0), (3, vr 50 0), (4, vr 51 0)] [] (M2, M.2) (c + 0 + 0) (k + 0 + 0) := by
    refine L_pick [2, 3, 4, 5, 6, 7] (lv2 := lLV n) rfl ?_
    refine L_goto (tgt := 2335) dL_law_829 (by decide) ?_
    exact kk _ _ _ (hg.mono (by omega)).2 (by omega) (by omega)
  refine L_if_eq (tgt := 829) dL_law_808 (by decide) (fun _ => fin) (fun q9 => ?_)
  refine L_dload dL_law_811 1 rfl ?_
  refine L_dload dL_law_813 1 rfl ?_
  refine L_dcmp dL_law_815 ?_
  refine L_if_eq (tgt := 827) dL_law_816 (by decide) (fun q8 => absurd q8 q9) (fun _ => ?_)
  refine L_dload dL_law_819 0 rfl ?_
  refine L_dload dL_law_821 0 rfl ?_
  refine L_dcmp dL_law_823 ?_
  exact L_if_ne (tgt := 829) dL_law_824 (by decide) (fun _ => fin) (fun q8 => absurd q8 q9)
theorem lc_fairness (hE : zRm YL_law E.1) (hl : l.stackTraces = false) (hb : 6 * n + 6 ≤ gn G) (hL : gn G ≤ 3072) (hI : Inv M.1 A) (hA : A ≤ 299000000) (hc : c + 753 ≤ E.1.cells ∧ k + 5020 ≤ E.1.slots) (kk : ∀ (w1 : lW) (c1 k1 : Nat), Inv w1.1 (A + 108000) → c1 ≤ c + 753 → k1 ≤ k + 5020 → lAt l G YL_law E 2335 (lLV n) [] w1 c1 k1) : lAt l G YL_law E 832 (lLV n) [] M c k := by
  refine L_aload_n dL_law_832 rfl 2 rfl ?_
  refine L_callV (as := []) (st := []) (mc' := 0) (ms' := 0) hE zcv_YL_law_165 rfl rfl rfl rfl (zle rfl) dL_law_833 ⟨by omega, by omega⟩ (P_fairness hI hA) (fun r M1 q => ?_)
  obtain ⟨x, rfl, q⟩ := q
  refine L_dstore (lv2 := [(6, vd x), (5, vi (nI (6 * n))), (0, vr 52 0), (1, vr 0 0), (2, vr 30 0), (3, vr 50 0), (4, vr 51 0)]) dL_law_836 (by decide) rfl ?_
  refine L_aload_n dL_law_838 rfl 4 rfl ?_
  refine L_callV (as := []) (st := []) (mc' := 0) (ms' := 0) hE zcv_YL_law_168 rfl rfl rfl rfl (zle rfl) dL_law_839 ⟨by omega, by omega⟩ q (fun r M2 q => ?_)
  obtain ⟨y, rfl, hy, hg⟩ := q
  rw [hy]
  refine L_dstore (lv2 := [(8, vd x), (6, vd x), (5, vi (nI (6 * n))), (0, vr 52 0), (1, vr 0 0), (2, vr 30 0), (3, vr 50 0), (4, vr 51 0)]) dL_law_842 (by decide) rfl ?_
  refine L_dload dL_law_844 1 rfl ?_
  refine L_dload dL_law_846 0 rfl ?_
  refine L_dcmp dL_law_848 ?_
  have fin : lAt l G YL_law E 870 [(8, vd x), (6, vd x), (5, vi (nI (6 * n))), (0, vr 52 0), (1, vr 0 0), (2, vr 30 0), (3, vr 50 0), (4, vr 51 0)] [] (M2, M.2) (c + 0 + 0) (k + 0 + 0) := by
    refine L_pick [2, 3, 4, 5, 6, 7] (lv2 := lLV n) rfl ?_
    refine L_goto (tgt := 2335) dL_law_870 (by decide) ?_
    exact kk _ _ _ (hg.mono (by omega)).2 (by omega) (by omega)
  refine L_if_eq (tgt := 870) dL_law_849 (by decide) (fun _ => fin) (fun q9 => ?_)
  refine L_dload dL_law_852 1 rfl ?_
  refine L_dload dL_law_854 1 rfl ?_
  refine L_dcmp dL_law_856 ?_
  refine L_if_eq (tgt := 868) dL_law_857 (by decide) (fun q8 => absurd q8 q9) (fun _ => ?_)
  refine L_dload dL_law_860 0 rfl ?_
  refine L_dload dL_law_862 0 rfl ?_
  refine L_dcmp dL_law_864 ?_
  exact L_if_ne (tgt := 870) dL_law_865 (by decide) (fun _ => fin) (fun q8 => absurd q8 q9)
theorem lc_meanWait (hE : zRm YL_law E.1) (hl : l.stackTraces = false) (hb : 6 * n + 6 ≤ gn G) (hL : gn G ≤ 3072) (hI : Inv M.1 A) (hA : A ≤ 299000000) (hc : c + 753 ≤ E.1.cells ∧ k + 5020 ≤ E.1.slots) (kk : ∀ (w1 : lW) (c1 k1 : Nat), Inv w1.1 (A + 108000) → c1 ≤ c + 753 → k1 ≤ k + 5020 → lAt l G YL_law E 2335 (lLV n) [] w1 c1 k1) : lAt l G YL_law E 873 (lLV n) [] M c k := by
  refine L_aload_n dL_law_873 rfl 2 rfl ?_
  refine L_aload_n dL_law_874 rfl 1 rfl ?_
  refine L_iload dL_law_875 0 rfl ?_
  refine L_iconst (v := 1) (by decide) dL_law_877 ?_
  refine L_iadd dL_law_878 ?_
  refine L_sld (l_in hb hL (by decide)) dL_law_879 ?_
  refine L_aload dL_law_880 5 rfl ?_
  refine L_callS (as := [vr 0 0, vi (gs G ((nI (6 * n)) + 1).toNatClampNeg), vr 51 0]) (st := []) (mc' := 1) (ms' := 6) hE zls_law_meanWait rfl rfl (zle rfl) dL_law_882 ⟨by omega, by omega⟩ (w_meanWait (K := fun z w => zCalD l G Y_X9_meanWait 0 0 [vr 30 0, vi (gs G ((nI (6 * n)) + 1).toNatClampNeg)] w.1 (fun y M2 => Good (A) z M2 ∧ (z = 0 → w.2.2 = y))) (P_meanWait (p := (gs G ((nI (6 * n)) + 1).toNatClampNeg)) hl hI hA) (fun x M1 q => zCal_monoD q (fun y M2 g => ⟨g.2, fun _ => by rw [g.1]⟩)) (fun X M1 q => ⟨q.1, zCal_monoD q.2 (fun y M2 g => ⟨g, fun e => absurd e (by decide)⟩)⟩)) (fun r w q => ?_)
  obtain ⟨z, rfl, hz⟩ := q
  refine L_istore (lv2 := [(6, vi z), (5, vi (nI (6 * n))), (0, vr 52 0), (1, vr 0 0), (2, vr 30 0), (3, vr 50 0), (4, vr 51 0)]) dL_law_885 (by decide) rfl ?_
  refine L_aload_n dL_law_887 rfl 4 rfl ?_
  refine L_aload_n dL_law_888 rfl 2 rfl ?_
  refine L_iload dL_law_889 1 rfl ?_
  refine L_iconst (v := 1) (by decide) dL_law_891 ?_
  refine L_iadd dL_law_892 ?_
  refine L_sld (l_in hb hL (by decide)) dL_law_893 ?_
  refine L_callV (as := [vi (gs G ((nI (6 * n)) + 1).toNatClampNeg)]) (st := []) (mc' := 0) (ms' := 0) hE zcv_YL_law_172 rfl rfl rfl rfl (zle rfl) dL_law_894 ⟨by omega, by omega⟩ hz (fun r M2 q => ?_)
  obtain ⟨y, rfl, hg, hv⟩ := q
  refine L_dstore (lv2 := [(7, vd y), (6, vi z), (5, vi (nI (6 * n))), (0, vr 52 0), (1, vr 0 0), (2, vr 30 0), (3, vr 50 0), (4, vr 51 0)]) dL_law_897 (by decide) rfl ?_
  refine L_aload_n dL_law_899 rfl 5 rfl ?_
  refine L_callV (as := []) (st := []) (mc' := 0) (ms' := 0) hE zcv_YL_law_132 rfl rfl rfl rfl (zle rfl) dL_law_900 ⟨by omega, by omega⟩ (zm_X9_thrown (Kf := fun t M3 => t = z ∧ M3 = M2) ⟨hg.1, rfl⟩) (fun r M3 q => ?_)
  obtain ⟨t, rfl, ht, hM⟩ := q
  rw [hM]
  refine L_iload dL_law_903 1 rfl ?_
  refine L_icmp_eq (tgt := 910) dL_law_905 (by decide) (fun _ => ?_) (fun q9 => absurd ht q9)
  refine L_iload dL_law_910 1 rfl ?_
  have fin : lAt l G YL_law E 947 [(7, vd y), (6, vi z), (5, vi (nI (6 * n))), (0, vr 52 0), (1, vr 0 0), (2, vr 30 0), (3, vr 50 0), (4, vr 51 0)] [] (M2, w.2) (c + 1 + 0 + 0) (k + 6 + 0 + 0) := by
    refine L_pick [2, 3, 4, 5, 6, 7] (lv2 := lLV n) rfl ?_
    refine L_goto (tgt := 2335) dL_law_947 (by decide) ?_
    exact kk _ _ _ (hg.mono (by omega)).2 (by omega) (by omega)
  refine L_if_ne (tgt := 947) dL_law_912 (by decide) (fun _ => fin) (fun z0 => ?_)
  refine L_aload dL_law_915 7 rfl ?_
  refine L_iconst (v := 0) (by decide) dL_law_917 ?_
  refine L_daldE (hv z0) dL_law_918 ?_
  refine L_dload dL_law_919 0 rfl ?_
  refine L_dcmp dL_law_921 ?_
  refine L_if_eq (tgt := 947) dL_law_922 (by decide) (fun _ => fin) (fun q9 => ?_)
  refine L_aload dL_law_925 7 rfl ?_
  refine L_iconst (v := 0) (by decide) dL_law_927 ?_
  refine L_daldE (hv z0) dL_law_928 ?_
  refine L_aload dL_law_929 7 rfl ?_
  refine L_iconst (v := 0) (by decide) dL_law_931 ?_
  refine L_daldE (hv z0) dL_law_932 ?_
  refine L_dcmp dL_law_933 ?_
  refine L_if_eq (tgt := 945) dL_law_934 (by decide) (fun q8 => absurd q8 q9) (fun _ => ?_)
  refine L_dload dL_law_937 0 rfl ?_
  refine L_dload dL_law_939 0 rfl ?_
  refine L_dcmp dL_law_941 ?_
  exact L_if_ne (tgt := 947) dL_law_942 (by decide) (fun _ => fin) (fun q8 => absurd q8 q9)
theorem lc_base (hE : zRm YL_law E.1) (hl : l.stackTraces = false) (hb : 6 * n + 6 ≤ gn G) (hL : gn G ≤ 3072) (hI : Inv M.1 A) (hA : A ≤ 299000000) (hc : c + 753 ≤ E.1.cells ∧ k + 5020 ≤ E.1.slots) (kk : ∀ (w1 : lW) (c1 k1 : Nat), Inv w1.1 (A + 108000) → c1 ≤ c + 753 → k1 ≤ k + 5020 → lAt l G YL_law E 2335 (lLV n) [] w1 c1 k1) : lAt l G YL_law E 950 (lLV n) [] M c k := by
  refine L_aload_n dL_law_950 rfl 2 rfl ?_
  refine L_aload_n dL_law_951 rfl 1 rfl ?_
  refine L_iload dL_law_952 0 rfl ?_
  refine L_iconst (v := 1) (by decide) dL_law_954 ?_
  refine L_iadd dL_law_955 ?_
  refine L_sld (l_in hb hL (by decide)) dL_law_956 ?_
  refine L_aload_n dL_law_957 rfl 4 rfl ?_
  refine L_callS (as := [vr 0 0, vi (gs G ((nI (6 * n)) + 1).toNatClampNeg), vr 50 0]) (st := []) (mc' := 1) (ms' := 6) hE zls_law_base rfl rfl (zle rfl) dL_law_958 ⟨by omega, by omega⟩ (w_base (K := fun z w => zCalI l G Y_X9_base 0 0 [vr 30 0, vi (gs G ((nI (6 * n)) + 1).toNatClampNeg)] w.1 (fun y M2 => Good (A) z M2 ∧ (z = 0 → w.2.1 = y.toInt64))) (P_base (p := (gs G ((nI (6 * n)) + 1).toNatClampNeg)) hl hI) (fun x M1 q => zCal_monoI q (fun y M2 g => ⟨g.2, fun _ => by rw [g.1]⟩)) (fun X M1 q => ⟨q.1, zCal_monoI q.2 (fun y M2 g => ⟨g, fun e => absurd e (by decide)⟩)⟩)) (fun r w q => ?_)
  obtain ⟨z, rfl, hz⟩ := q
  refine L_istore (lv2 := [(6, vi z), (5, vi (nI (6 * n))), (0, vr 52 0), (1, vr 0 0), (2, vr 30 0), (3, vr 50 0), (4, vr 51 0)]) dL_law_961 (by decide) rfl ?_
  refine L_aload_n dL_law_963 rfl 4 rfl ?_
  refine L_aload_n dL_law_964 rfl 2 rfl ?_
  refine L_iload dL_law_965 1 rfl ?_
  refine L_iconst (v := 1) (by decide) dL_law_967 ?_
  refine L_iadd dL_law_968 ?_
  refine L_sld (l_in hb hL (by decide)) dL_law_969 ?_
  refine L_callV (as := [vi (gs G ((nI (6 * n)) + 1).toNatClampNeg)]) (st := []) (mc' := 0) (ms' := 0) hE zcv_YL_law_175 rfl rfl rfl rfl (zle rfl) dL_law_970 ⟨by omega, by omega⟩ hz (fun r M2 q => ?_)
  obtain ⟨y, rfl, hg, hv⟩ := q
  refine L_istore (lv2 := [(7, vi y), (6, vi z), (5, vi (nI (6 * n))), (0, vr 52 0), (1, vr 0 0), (2, vr 30 0), (3, vr 50 0), (4, vr 51 0)]) dL_law_973 (by decide) rfl ?_
  refine L_aload_n dL_law_975 rfl 5 rfl ?_
  refine L_callV (as := []) (st := []) (mc' := 0) (ms' := 0) hE zcv_YL_law_132 rfl rfl rfl rfl (zle rfl) dL_law_976 ⟨by omega, by omega⟩ (zm_X9_thrown (Kf := fun t M3 => t = z ∧ M3 = M2) ⟨hg.1, rfl⟩) (fun r M3 q => ?_)
  obtain ⟨t, rfl, ht, hM⟩ := q
  rw [hM]
  refine L_iload dL_law_979 1 rfl ?_
  refine L_icmp_eq (tgt := 986) dL_law_981 (by decide) (fun _ => ?_) (fun q9 => absurd ht q9)
  refine L_iload dL_law_986 1 rfl ?_
  have fin : lAt l G YL_law E 1003 [(7, vi y), (6, vi z), (5, vi (nI (6 * n))), (0, vr 52 0), (1, vr 0 0), (2, vr 30 0), (3, vr 50 0), (4, vr 51 0)] [] (M2, w.2) (c + 1 + 0 + 0) (k + 6 + 0 + 0) := by
    refine L_pick [2, 3, 4, 5, 6, 7] (lv2 := lLV n) rfl ?_
    refine L_goto (tgt := 2335) dL_law_1003 (by decide) ?_
    exact kk _ _ _ (hg.mono (by omega)).2 (by omega) (by omega)
  refine L_if_ne (tgt := 1003) dL_law_988 (by decide) (fun _ => fin) (fun z0 => ?_)
  refine L_aload_n dL_law_991 rfl 6 rfl ?_
  refine L_iconst (v := 0) (by decide) dL_law_992 ?_
  refine L_laldE (hv z0) dL_law_993 ?_
  refine L_iload dL_law_994 0 rfl ?_
  refine L_i2l dL_law_996 ?_
  refine L_lcmp dL_law_997 ?_
  exact L_if_eq (tgt := 1003) dL_law_998 (by decide) (fun _ => fin) (fun q9 => absurd (l_cmp0 _) q9)
theorem lc_chance (hE : zRm YL_law E.1) (hl : l.stackTraces = false) (hb : 6 * n + 6 ≤ gn G) (hL : gn G ≤ 3072) (hI : Inv M.1 A) (hA : A ≤ 299000000) (hc : c + 753 ≤ E.1.cells ∧ k + 5020 ≤ E.1.slots) (kk : ∀ (w1 : lW) (c1 k1 : Nat), Inv w1.1 (A + 108000) → c1 ≤ c + 753 → k1 ≤ k + 5020 → lAt l G YL_law E 2335 (lLV n) [] w1 c1 k1) : lAt l G YL_law E 1006 (lLV n) [] M c k := by
  refine L_aload_n dL_law_1006 rfl 2 rfl ?_
  refine L_aload_n dL_law_1007 rfl 1 rfl ?_
  refine L_iload dL_law_1008 0 rfl ?_
  refine L_iconst (v := 1) (by decide) dL_law_1010 ?_
  refine L_iadd dL_law_1011 ?_
  refine L_sld (l_in hb hL (by decide)) dL_law_1012 ?_
  refine L_aload_n dL_law_1013 rfl 1 rfl ?_
  refine L_iload dL_law_1014 0 rfl ?_
  refine L_iconst (v := 2) (by decide) dL_law_1016 ?_
  refine L_iadd dL_law_1017 ?_
  refine L_sld (l_in hb hL (by decide)) dL_law_1018 ?_
  refine L_aload_n dL_law_1019 rfl 4 rfl ?_
  refine L_callS (as := [vr 0 0, vi (gs G ((nI (6 * n)) + 1).toNatClampNeg), vi (gs G ((nI (6 * n)) + 2).toNatClampNeg), vr 50 0]) (st := []) (mc' := 2) (ms' := 12) hE zls_law_chance rfl rfl (zle rfl) dL_law_1020 ⟨by omega, by omega⟩ (w_chance (K := fun z w => zCalI l G Y_X9_chance 0 0 [vr 30 0, vi (gs G ((nI (6 * n)) + 1).toNatClampNeg), vi (gs G ((nI (6 * n)) + 2).toNatClampNeg)] w.1 (fun y M2 => Good (A) z M2 ∧ (z = 0 → w.2.1 = y.toInt64))) (P_chance (p := (gs G ((nI (6 * n)) + 1).toNatClampNeg)) (q := (gs G ((nI (6 * n)) + 2).toNatClampNeg)) hl hI) (fun x M1 q => zCal_monoI q (fun y M2 g => ⟨g.2, fun _ => by rw [g.1]⟩)) (fun X M1 q => ⟨q.1, zCal_monoI q.2 (fun y M2 g => ⟨g, fun e => absurd e (by decide)⟩)⟩)) (fun r w q => ?_)
  obtain ⟨z, rfl, hz⟩ := q
  refine L_istore (lv2 := [(6, vi z), (5, vi (nI (6 * n))), (0, vr 52 0), (1, vr 0 0), (2, vr 30 0), (3, vr 50 0), (4, vr 51 0)]) dL_law_1023 (by decide) rfl ?_
  refine L_aload_n dL_law_1025 rfl 4 rfl ?_
  refine L_aload_n dL_law_1026 rfl 2 rfl ?_
  refine L_iload dL_law_1027 1 rfl ?_
  refine L_iconst (v := 1) (by decide) dL_law_1029 ?_
  refine L_iadd dL_law_1030 ?_
  refine L_sld (l_in hb hL (by decide)) dL_law_1031 ?_
  refine L_aload_n dL_law_1032 rfl 2 rfl ?_
  refine L_iload dL_law_1033 1 rfl ?_
  refine L_iconst (v := 2) (by decide) dL_law_1035 ?_
  refine L_iadd dL_law_1036 ?_
  refine L_sld (l_in hb hL (by decide)) dL_law_1037 ?_
  refine L_callV (as := [vi (gs G ((nI (6 * n)) + 1).toNatClampNeg), vi (gs G ((nI (6 * n)) + 2).toNatClampNeg)]) (st := []) (mc' := 0) (ms' := 0) hE zcv_YL_law_178 rfl rfl rfl rfl (zle rfl) dL_law_1038 ⟨by omega, by omega⟩ hz (fun r M2 q => ?_)
  obtain ⟨y, rfl, hg, hv⟩ := q
  refine L_istore (lv2 := [(7, vi y), (6, vi z), (5, vi (nI (6 * n))), (0, vr 52 0), (1, vr 0 0), (2, vr 30 0), (3, vr 50 0), (4, vr 51 0)]) dL_law_1041 (by decide) rfl ?_
  refine L_aload_n dL_law_1043 rfl 5 rfl ?_
  refine L_callV (as := []) (st := []) (mc' := 0) (ms' := 0) hE zcv_YL_law_132 rfl rfl rfl rfl (zle rfl) dL_law_1044 ⟨by omega, by omega⟩ (zm_X9_thrown (Kf := fun t M3 => t = z ∧ M3 = M2) ⟨hg.1, rfl⟩) (fun r M3 q => ?_)
  obtain ⟨t, rfl, ht, hM⟩ := q
  rw [hM]
  refine L_iload dL_law_1047 1 rfl ?_
  refine L_icmp_eq (tgt := 1054) dL_law_1049 (by decide) (fun _ => ?_) (fun q9 => absurd ht q9)
  refine L_iload dL_law_1054 1 rfl ?_
  have fin : lAt l G YL_law E 1071 [(7, vi y), (6, vi z), (5, vi (nI (6 * n))), (0, vr 52 0), (1, vr 0 0), (2, vr 30 0), (3, vr 50 0), (4, vr 51 0)] [] (M2, w.2) (c + 2 + 0 + 0) (k + 12 + 0 + 0) := by
    refine L_pick [2, 3, 4, 5, 6, 7] (lv2 := lLV n) rfl ?_
    refine L_goto (tgt := 2335) dL_law_1071 (by decide) ?_
    exact kk _ _ _ (hg.mono (by omega)).2 (by omega) (by omega)
  refine L_if_ne (tgt := 1071) dL_law_1056 (by decide) (fun _ => fin) (fun z0 => ?_)
  refine L_aload_n dL_law_1059 rfl 6 rfl ?_
  refine L_iconst (v := 0) (by decide) dL_law_1060 ?_
  refine L_laldE (hv z0) dL_law_1061 ?_
  refine L_iload dL_law_1062 0 rfl ?_
  refine L_i2l dL_law_1064 ?_
  refine L_lcmp dL_law_1065 ?_
  exact L_if_eq (tgt := 1071) dL_law_1066 (by decide) (fun _ => fin) (fun q9 => absurd (l_cmp0 _) q9)
theorem lc_next (hE : zRm YL_law E.1) (hl : l.stackTraces = false) (hb : 6 * n + 6 ≤ gn G) (hL : gn G ≤ 3072) (hI : Inv M.1 A) (hA : A ≤ 299000000) (hc : c + 753 ≤ E.1.cells ∧ k + 5020 ≤ E.1.slots) (kk : ∀ (w1 : lW) (c1 k1 : Nat), Inv w1.1 (A + 108000) → c1 ≤ c + 753 → k1 ≤ k + 5020 → lAt l G YL_law E 2335 (lLV n) [] w1 c1 k1) : lAt l G YL_law E 1074 (lLV n) [] M c k := by
  refine L_aload_n dL_law_1074 rfl 2 rfl ?_
  refine L_callV (as := []) (st := []) (mc' := 0) (ms' := 0) hE zcv_YL_law_179 rfl rfl rfl rfl (zle rfl) dL_law_1075 ⟨by omega, by omega⟩ (P_next hI) (fun r M1 q => ?_)
  obtain ⟨x, rfl, q⟩ := q
  refine L_aload_n dL_law_1078 rfl 3 rfl ?_
  refine L_callV (as := []) (st := [vi x]) (mc' := 0) (ms' := 0) hE zcv_YL_law_182 rfl rfl rfl rfl (zle rfl) dL_law_1079 ⟨by omega, by omega⟩ q (fun r M2 q => ?_)
  obtain ⟨y, rfl, hy, hg⟩ := q
  refine L_icmp_eq (tgt := 2335) dL_law_1082 (by decide) (fun _ => ?_) (fun q9 => absurd hy.symm q9)
  exact kk _ _ _ (hg.mono (by omega)).2 (by omega) (by omega)
theorem lc_nextChance (hE : zRm YL_law E.1) (hl : l.stackTraces = false) (hb : 6 * n + 6 ≤ gn G) (hL : gn G ≤ 3072) (hI : Inv M.1 A) (hA : A ≤ 299000000) (hc : c + 753 ≤ E.1.cells ∧ k + 5020 ≤ E.1.slots) (kk : ∀ (w1 : lW) (c1 k1 : Nat), Inv w1.1 (A + 108000) → c1 ≤ c + 753 → k1 ≤ k + 5020 → lAt l G YL_law E 2335 (lLV n) [] w1 c1 k1) : lAt l G YL_law E 1087 (lLV n) [] M c k := by
  refine L_aload_n dL_law_1087 rfl 2 rfl ?_
  refine L_callV (as := []) (st := []) (mc' := 0) (ms' := 0) hE zcv_YL_law_183 rfl rfl rfl rfl (zle rfl) dL_law_1088 ⟨by omega, by omega⟩ (P_nextChance hI) (fun r M1 q => ?_)
  obtain ⟨x, rfl, q⟩ := q
  refine L_aload_n dL_law_1091 rfl 3 rfl ?_
  refine L_callV (as := []) (st := [vi x]) (mc' := 0) (ms' := 0) hE zcv_YL_law_186 rfl rfl rfl rfl (zle rfl) dL_law_1092 ⟨by omega, by omega⟩ q (fun r M2 q => ?_)
  obtain ⟨y, rfl, hy, hg⟩ := q
  refine L_icmp_eq (tgt := 2335) dL_law_1095 (by decide) (fun _ => ?_) (fun q9 => absurd hy.symm q9)
  exact kk _ _ _ (hg.mono (by omega)).2 (by omega) (by omega)
theorem lc_burst (hE : zRm YL_law E.1) (hl : l.stackTraces = false) (hb : 6 * n + 6 ≤ gn G) (hL : gn G ≤ 3072) (hI : Inv M.1 A) (hA : A ≤ 299000000) (hc : c + 753 ≤ E.1.cells ∧ k + 5020 ≤ E.1.slots) (kk : ∀ (w1 : lW) (c1 k1 : Nat), Inv w1.1 (A + 108000) → c1 ≤ c + 753 → k1 ≤ k + 5020 → lAt l G YL_law E 2335 (lLV n) [] w1 c1 k1) : lAt l G YL_law E 1100 (lLV n) [] M c k := by
  refine L_aload_n dL_law_1100 rfl 2 rfl ?_
  refine L_aload_n dL_law_1101 rfl 1 rfl ?_
  refine L_iload dL_law_1102 0 rfl ?_
  refine L_iconst (v := 1) (by decide) dL_law_1104 ?_
  refine L_iadd dL_law_1105 ?_
  refine L_sld (l_in hb hL (by decide)) dL_law_1106 ?_
  refine L_aload dL_law_1107 5 rfl ?_
  refine L_callS (as := [vr 0 0, vi (gs G ((nI (6 * n)) + 1).toNatClampNeg), vr 51 0]) (st := []) (mc' := 1) (ms' := 6) hE zls_law_burst rfl rfl (zle rfl) dL_law_1109 ⟨by omega, by omega⟩ (w_burst (K := fun z w => zCalD l G Y_X9_burst 0 0 [vr 30 0, vi (gs G ((nI (6 * n)) + 1).toNatClampNeg)] w.1 (fun y M2 => Good (A) z M2 ∧ (z = 0 → w.2.2 = y))) (P_burst (p := (gs G ((nI (6 * n)) + 1).toNatClampNeg)) hl hI) (fun x M1 q => zCal_monoD q (fun y M2 g => ⟨g.2, fun _ => by rw [g.1]⟩)) (fun X M1 q => ⟨q.1, zCal_monoD q.2 (fun y M2 g => ⟨g, fun e => absurd e (by decide)⟩)⟩)) (fun r w q => ?_)
  obtain ⟨z, rfl, hz⟩ := q
  refine L_istore (lv2 := [(6, vi z), (5, vi (nI (6 * n))), (0, vr 52 0), (1, vr 0 0), (2, vr 30 0), (3, vr 50 0), (4, vr 51 0)]) dL_law_1112 (by decide) rfl ?_
  refine L_aload_n dL_law_1114 rfl 4 rfl ?_
  refine L_aload_n dL_law_1115 rfl 2 rfl ?_
  refine L_iload dL_law_1116 1 rfl ?_
  refine L_iconst (v := 1) (by decide) dL_law_1118 ?_
  refine L_iadd dL_law_1119 ?_
  refine L_sld (l_in hb hL (by decide)) dL_law_1120 ?_
  refine L_callV (as := [vi (gs G ((nI (6 * n)) + 1).toNatClampNeg)]) (st := []) (mc' := 0) (ms' := 0) hE zcv_YL_law_189 rfl rfl rfl rfl (zle rfl) dL_law_1121 ⟨by omega, by omega⟩ hz (fun r M2 q => ?_)
  obtain ⟨y, rfl, hg, hv⟩ := q
  refine L_dstore (lv2 := [(7, vd y), (6, vi z), (5, vi (nI (6 * n))), (0, vr 52 0), (1, vr 0 0), (2, vr 30 0), (3, vr 50 0), (4, vr 51 0)]) dL_law_1124 (by decide) rfl ?_
  refine L_aload_n dL_law_1126 rfl 5 rfl ?_
  refine L_callV (as := []) (st := []) (mc' := 0) (ms' := 0) hE zcv_YL_law_132 rfl rfl rfl rfl (zle rfl) dL_law_1127 ⟨by omega, by omega⟩ (zm_X9_thrown (Kf := fun t M3 => t = z ∧ M3 = M2) ⟨hg.1, rfl⟩) (fun r M3 q => ?_)
  obtain ⟨t, rfl, ht, hM⟩ := q
  rw [hM]
  refine L_iload dL_law_1130 1 rfl ?_
  refine L_icmp_eq (tgt := 1137) dL_law_1132 (by decide) (fun _ => ?_) (fun q9 => absurd ht q9)
  refine L_iload dL_law_1137 1 rfl ?_
  have fin : lAt l G YL_law E 1174 [(7, vd y), (6, vi z), (5, vi (nI (6 * n))), (0, vr 52 0), (1, vr 0 0), (2, vr 30 0), (3, vr 50 0), (4, vr 51 0)] [] (M2, w.2) (c + 1 + 0 + 0) (k + 6 + 0 + 0) := by
    refine L_pick [2, 3, 4, 5, 6, 7] (lv2 := lLV n) rfl ?_
    refine L_goto (tgt := 2335) dL_law_1174 (by decide) ?_
    exact kk _ _ _ (hg.mono (by omega)).2 (by omega) (by omega)
  refine L_if_ne (tgt := 1174) dL_law_1139 (by decide) (fun _ => fin) (fun z0 => ?_)
  refine L_aload dL_law_1142 7 rfl ?_
  refine L_iconst (v := 0) (by decide) dL_law_1144 ?_
  refine L_daldE (hv z0) dL_law_1145 ?_
  refine L_dload dL_law_1146 0 rfl ?_
  refine L_dcmp dL_law_1148 ?_
  refine L_if_eq (tgt := 1174) dL_law_1149 (by decide) (fun _ => fin) (fun q9 => ?_)
  refine L_aload dL_law_1152 7 rfl ?_
  refine L_iconst (v := 0) (by decide) dL_law_1154 ?_
  refine L_daldE (hv z0) dL_law_1155 ?_
  refine L_aload dL_law_1156 7 rfl ?_
  refine L_iconst (v := 0) (by decide) dL_law_1158 ?_
  refine L_daldE (hv z0) dL_law_1159 ?_
  refine L_dcmp dL_law_1160 ?_
  refine L_if_eq (tgt := 1172) dL_law_1161 (by decide) (fun q8 => absurd q8 q9) (fun _ => ?_)
  refine L_dload dL_law_1164 0 rfl ?_
  refine L_dload dL_law_1166 0 rfl ?_
  refine L_dcmp dL_law_1168 ?_
  exact L_if_ne (tgt := 1174) dL_law_1169 (by decide) (fun _ => fin) (fun q8 => absurd q8 q9)
theorem lc_sureBurst (hE : zRm YL_law E.1) (hl : l.stackTraces = false) (hb : 6 * n + 6 ≤ gn G) (hL : gn G ≤ 3072) (hI : Inv M.1 A) (hA : A ≤ 299000000) (hc : c + 753 ≤ E.1.cells ∧ k + 5020 ≤ E.1.slots) (kk : ∀ (w1 : lW) (c1 k1 : Nat), Inv w1.1 (A + 108000) → c1 ≤ c + 753 → k1 ≤ k + 5020 → lAt l G YL_law E 2335 (lLV n) [] w1 c1 k1) : lAt l G YL_law E 1177 (lLV n) [] M c k := by
  refine L_aload_n dL_law_1177 rfl 2 rfl ?_
  refine L_aload_n dL_law_1178 rfl 1 rfl ?_
  refine L_iload dL_law_1179 0 rfl ?_
  refine L_iconst (v := 1) (by decide) dL_law_1181 ?_
  refine L_iadd dL_law_1182 ?_
  refine L_sld (l_in hb hL (by decide)) dL_law_1183 ?_
  refine L_aload_n dL_law_1184 rfl 4 rfl ?_
  refine L_callS (as := [vr 0 0, vi (gs G ((nI (6 * n)) + 1).toNatClampNeg), vr 50 0]) (st := []) (mc' := 1) (ms' := 6) hE zls_law_sureBurst rfl rfl (zle rfl) dL_law_1185 ⟨by omega, by omega⟩ (w_sureBurst (K := fun z w => zCalI l G Y_X9_sureBurst 0 0 [vr 30 0, vi (gs G ((nI (6 * n)) + 1).toNatClampNeg)] w.1 (fun y M2 => Good (A) z M2 ∧ (z = 0 → w.2.1 = y.toInt64))) (P_sureBurst (p := (gs G ((nI (6 * n)) + 1).toNatClampNeg)) hl hI) (fun x M1 q => zCal_monoI q (fun y M2 g => ⟨g.2, fun _ => by rw [g.1]⟩)) (fun X M1 q => ⟨q.1, zCal_monoI q.2 (fun y M2 g => ⟨g, fun e => absurd e (by decide)⟩)⟩)) (fun r w q => ?_)
  obtain ⟨z, rfl, hz⟩ := q
  refine L_istore (lv2 := [(6, vi z), (5, vi (nI (6 * n))), (0, vr 52 0), (1, vr 0 0), (2, vr 30 0), (3, vr 50 0), (4, vr 51 0)]) dL_law_1188 (by decide) rfl ?_
  refine L_aload_n dL_law_1190 rfl 4 rfl ?_
  refine L_aload_n dL_law_1191 rfl 2 rfl ?_
  refine L_iload dL_law_1192 1 rfl ?_
  refine L_iconst (v := 1) (by decide) dL_law_1194 ?_
  refine L_iadd dL_law_1195 ?_
  refine L_sld (l_in hb hL (by decide)) dL_law_1196 ?_
  refine L_callV (as := [vi (gs G ((nI (6 * n)) + 1).toNatClampNeg)]) (st := []) (mc' := 0) (ms' := 0) hE zcv_YL_law_192 rfl rfl rfl rfl (zle rfl) dL_law_1197 ⟨by omega, by omega⟩ hz (fun r M2 q => ?_)
  obtain ⟨y, rfl, hg, hv⟩ := q
  refine L_istore (lv2 := [(7, vi y), (6, vi z), (5, vi (nI (6 * n))), (0, vr 52 0), (1, vr 0 0), (2, vr 30 0), (3, vr 50 0), (4, vr 51 0)]) dL_law_1200 (by decide) rfl ?_
  refine L_aload_n dL_law_1202 rfl 5 rfl ?_
  refine L_callV (as := []) (st := []) (mc' := 0) (ms' := 0) hE zcv_YL_law_132 rfl rfl rfl rfl (zle rfl) dL_law_1203 ⟨by omega, by omega⟩ (zm_X9_thrown (Kf := fun t M3 => t = z ∧ M3 = M2) ⟨hg.1, rfl⟩) (fun r M3 q => ?_)
  obtain ⟨t, rfl, ht, hM⟩ := q
  rw [hM]
  refine L_iload dL_law_1206 1 rfl ?_
  refine L_icmp_eq (tgt := 1213) dL_law_1208 (by decide) (fun _ => ?_) (fun q9 => absurd ht q9)
  refine L_iload dL_law_1213 1 rfl ?_
  have fin : lAt l G YL_law E 1230 [(7, vi y), (6, vi z), (5, vi (nI (6 * n))), (0, vr 52 0), (1, vr 0 0), (2, vr 30 0), (3, vr 50 0), (4, vr 51 0)] [] (M2, w.2) (c + 1 + 0 + 0) (k + 6 + 0 + 0) := by
    refine L_pick [2, 3, 4, 5, 6, 7] (lv2 := lLV n) rfl ?_
    refine L_goto (tgt := 2335) dL_law_1230 (by decide) ?_
    exact kk _ _ _ (hg.mono (by omega)).2 (by omega) (by omega)
  refine L_if_ne (tgt := 1230) dL_law_1215 (by decide) (fun _ => fin) (fun z0 => ?_)
  refine L_aload_n dL_law_1218 rfl 6 rfl ?_
  refine L_iconst (v := 0) (by decide) dL_law_1219 ?_
  refine L_laldE (hv z0) dL_law_1220 ?_
  refine L_iload dL_law_1221 0 rfl ?_
  refine L_i2l dL_law_1223 ?_
  refine L_lcmp dL_law_1224 ?_
  exact L_if_eq (tgt := 1230) dL_law_1225 (by decide) (fun _ => fin) (fun q9 => absurd (l_cmp0 _) q9)
theorem lc_accountIn (hE : zRm YL_law E.1) (hl : l.stackTraces = false) (hb : 6 * n + 6 ≤ gn G) (hL : gn G ≤ 3072) (hI : Inv M.1 A) (hA : A ≤ 299000000) (hc : c + 753 ≤ E.1.cells ∧ k + 5020 ≤ E.1.slots) (kk : ∀ (w1 : lW) (c1 k1 : Nat), Inv w1.1 (A + 108000) → c1 ≤ c + 753 → k1 ≤ k + 5020 → lAt l G YL_law E 2335 (lLV n) [] w1 c1 k1) : lAt l G YL_law E 1233 (lLV n) [] M c k := by
  refine L_aload_n dL_law_1233 rfl 2 rfl ?_
  refine L_aload_n dL_law_1234 rfl 1 rfl ?_
  refine L_iload dL_law_1235 0 rfl ?_
  refine L_iconst (v := 1) (by decide) dL_law_1237 ?_
  refine L_iadd dL_law_1238 ?_
  refine L_sld (l_in hb hL (by decide)) dL_law_1239 ?_
  refine L_aload_n dL_law_1240 rfl 1 rfl ?_
  refine L_iload dL_law_1241 0 rfl ?_
  refine L_iconst (v := 2) (by decide) dL_law_1243 ?_
  refine L_iadd dL_law_1244 ?_
  refine L_sld (l_in hb hL (by decide)) dL_law_1245 ?_
  refine L_aload_n dL_law_1246 rfl 1 rfl ?_
  refine L_iload dL_law_1247 0 rfl ?_
  refine L_iconst (v := 3) (by decide) dL_law_1249 ?_
  refine L_iadd dL_law_1250 ?_
  refine L_sld (l_in hb hL (by decide)) dL_law_1251 ?_
  refine L_aload_n dL_law_1252 rfl 4 rfl ?_
  refine L_callS (as := [vr 0 0, vi (gs G ((nI (6 * n)) + 1).toNatClampNeg), vi (gs G ((nI (6 * n)) + 2).toNatClampNeg), vi (gs G ((nI (6 * n)) + 3).toNatClampNeg), vr 50 0]) (st := []) (mc' := 3) (ms' := 18) hE zls_law_accountIn rfl rfl (zle rfl) dL_law_1253 ⟨by omega, by omega⟩ (w_accountIn (K := fun z w => zCalL l G Y_X9_accountIn 0 0 [vr 30 0, vi (gs G ((nI (6 * n)) + 1).toNatClampNeg), vi (gs G ((nI (6 * n)) + 2).toNatClampNeg), vi (gs G ((nI (6 * n)) + 3).toNatClampNeg)] w.1 (fun y M2 => Good (A) z M2 ∧ (z = 0 → w.2.1 = y))) (P_accountIn (f := (gs G ((nI (6 * n)) + 1).toNatClampNeg)) (q := (gs G ((nI (6 * n)) + 2).toNatClampNeg)) (p := (gs G ((nI (6 * n)) + 3).toNatClampNeg)) hl hI hA) (fun x M1 q => zCal_monoL q (fun y M2 g => ⟨g.2, fun _ => by rw [g.1]⟩)) (fun X M1 q => q.elim (fun q => .inl ⟨q.1, zCal_monoL q.2 (fun y M2 g => ⟨g, fun e => absurd e (by decide)⟩)⟩) (fun q => .inr ⟨q.1, zCal_monoL q.2 (fun y M2 g => ⟨g, fun e => absurd e (by decide)⟩)⟩))) (fun r w q => ?_)
  obtain ⟨z, rfl, hz⟩ := q
  refine L_istore (lv2 := [(6, vi z), (5, vi (nI (6 * n))), (0, vr 52 0), (1, vr 0 0), (2, vr 30 0), (3, vr 50 0), (4, vr 51 0)]) dL_law_1256 (by decide) rfl ?_
  refine L_aload_n dL_law_1258 rfl 4 rfl ?_
  refine L_aload_n dL_law_1259 rfl 2 rfl ?_
  refine L_iload dL_law_1260 1 rfl ?_
  refine L_iconst (v := 1) (by decide) dL_law_1262 ?_
  refine L_iadd dL_law_1263 ?_
  refine L_sld (l_in hb hL (by decide)) dL_law_1264 ?_
  refine L_aload_n dL_law_1265 rfl 2 rfl ?_
  refine L_iload dL_law_1266 1 rfl ?_
  refine L_iconst (v := 2) (by decide) dL_law_1268 ?_
  refine L_iadd dL_law_1269 ?_
  refine L_sld (l_in hb hL (by decide)) dL_law_1270 ?_
  refine L_aload_n dL_law_1271 rfl 2 rfl ?_
  refine L_iload dL_law_1272 1 rfl ?_
  refine L_iconst (v := 3) (by decide) dL_law_1274 ?_
  refine L_iadd dL_law_1275 ?_
  refine L_sld (l_in hb hL (by decide)) dL_law_1276 ?_
  refine L_callV (as := [vi (gs G ((nI (6 * n)) + 1).toNatClampNeg), vi (gs G ((nI (6 * n)) + 2).toNatClampNeg), vi (gs G ((nI (6 * n)) + 3).toNatClampNeg)]) (st := []) (mc' := 0) (ms' := 0) hE zcv_YL_law_196 rfl rfl rfl rfl (zle rfl) dL_law_1277 ⟨by omega, by omega⟩ hz (fun r M2 q => ?_)
  obtain ⟨y, rfl, hg, hv⟩ := q
  refine L_lstore (lv2 := [(7, vl y), (6, vi z), (5, vi (nI (6 * n))), (0, vr 52 0), (1, vr 0 0), (2, vr 30 0), (3, vr 50 0), (4, vr 51 0)]) dL_law_1280 (by decide) rfl ?_
  refine L_aload_n dL_law_1282 rfl 5 rfl ?_
  refine L_callV (as := []) (st := []) (mc' := 0) (ms' := 0) hE zcv_YL_law_132 rfl rfl rfl rfl (zle rfl) dL_law_1283 ⟨by omega, by omega⟩ (zm_X9_thrown (Kf := fun t M3 => t = z ∧ M3 = M2) ⟨hg.1, rfl⟩) (fun r M3 q => ?_)
  obtain ⟨t, rfl, ht, hM⟩ := q
  rw [hM]
  refine L_iload dL_law_1286 1 rfl ?_
  refine L_icmp_eq (tgt := 1293) dL_law_1288 (by decide) (fun _ => ?_) (fun q9 => absurd ht q9)
  refine L_iload dL_law_1293 1 rfl ?_
  have fin : lAt l G YL_law E 1309 [(7, vl y), (6, vi z), (5, vi (nI (6 * n))), (0, vr 52 0), (1, vr 0 0), (2, vr 30 0), (3, vr 50 0), (4, vr 51 0)] [] (M2, w.2) (c + 3 + 0 + 0) (k + 18 + 0 + 0) := by
    refine L_pick [2, 3, 4, 5, 6, 7] (lv2 := lLV n) rfl ?_
    refine L_goto (tgt := 2335) dL_law_1309 (by decide) ?_
    exact kk _ _ _ (hg.mono (by omega)).2 (by omega) (by omega)
  refine L_if_ne (tgt := 1309) dL_law_1295 (by decide) (fun _ => fin) (fun z0 => ?_)
  refine L_aload_n dL_law_1298 rfl 6 rfl ?_
  refine L_iconst (v := 0) (by decide) dL_law_1299 ?_
  refine L_laldE (hv z0) dL_law_1300 ?_
  refine L_lload dL_law_1301 0 rfl ?_
  refine L_lcmp dL_law_1303 ?_
  exact L_if_eq (tgt := 1309) dL_law_1304 (by decide) (fun _ => fin) (fun q9 => absurd (l_cmp0 _) q9)
theorem lc_queueIn (hE : zRm YL_law E.1) (hl : l.stackTraces = false) (hb : 6 * n + 6 ≤ gn G) (hL : gn G ≤ 3072) (hI : Inv M.1 A) (hA : A ≤ 299000000) (hc : c + 753 ≤ E.1.cells ∧ k + 5020 ≤ E.1.slots) (kk : ∀ (w1 : lW) (c1 k1 : Nat), Inv w1.1 (A + 108000) → c1 ≤ c + 753 → k1 ≤ k + 5020 → lAt l G YL_law E 2335 (lLV n) [] w1 c1 k1) : lAt l G YL_law E 1312 (lLV n) [] M c k := by
  refine L_aload_n dL_law_1312 rfl 2 rfl ?_
  refine L_aload_n dL_law_1313 rfl 1 rfl ?_
  refine L_iload dL_law_1314 0 rfl ?_
  refine L_iconst (v := 1) (by decide) dL_law_1316 ?_
  refine L_iadd dL_law_1317 ?_
  refine L_sld (l_in hb hL (by decide)) dL_law_1318 ?_
  refine L_aload_n dL_law_1319 rfl 4 rfl ?_
  refine L_callS (as := [vr 0 0, vi (gs G ((nI (6 * n)) + 1).toNatClampNeg), vr 50 0]) (st := []) (mc' := 1) (ms' := 6) hE zls_law_queueIn rfl rfl (zle rfl) dL_law_1320 ⟨by omega, by omega⟩ (w_queueIn (K := fun z w => zCalI l G Y_X9_queueIn 0 0 [vr 30 0, vi (gs G ((nI (6 * n)) + 1).toNatClampNeg)] w.1 (fun y M2 => Good (A) z M2 ∧ (z = 0 → w.2.1 = y.toInt64))) (P_queueIn (p := (gs G ((nI (6 * n)) + 1).toNatClampNeg)) hl hI hA) (fun x M1 q => zCal_monoI q (fun y M2 g => ⟨g.2, fun _ => by rw [g.1]⟩)) (fun X M1 q => ⟨q.1, zCal_monoI q.2 (fun y M2 g => ⟨g, fun e => absurd e (by decide)⟩)⟩)) (fun r w q => ?_)
  obtain ⟨z, rfl, hz⟩ := q
  refine L_istore (lv2 := [(6, vi z), (5, vi (nI (6 * n))), (0, vr 52 0), (1, vr 0 0), (2, vr 30 0), (3, vr 50 0), (4, vr 51 0)]) dL_law_1323 (by decide) rfl ?_
  refine L_aload_n dL_law_1325 rfl 4 rfl ?_
  refine L_aload_n dL_law_1326 rfl 2 rfl ?_
  refine L_iload dL_law_1327 1 rfl ?_
  refine L_iconst (v := 1) (by decide) dL_law_1329 ?_
  refine L_iadd dL_law_1330 ?_
  refine L_sld (l_in hb hL (by decide)) dL_law_1331 ?_
  refine L_callV (as := [vi (gs G ((nI (6 * n)) + 1).toNatClampNeg)]) (st := []) (mc' := 0) (ms' := 0) hE zcv_YL_law_199 rfl rfl rfl rfl (zle rfl) dL_law_1332 ⟨by omega, by omega⟩ hz (fun r M2 q => ?_)
  obtain ⟨y, rfl, hg, hv⟩ := q
  refine L_istore (lv2 := [(7, vi y), (6, vi z), (5, vi (nI (6 * n))), (0, vr 52 0), (1, vr 0 0), (2, vr 30 0), (3, vr 50 0), (4, vr 51 0)]) dL_law_1335 (by decide) rfl ?_
  refine L_aload_n dL_law_1337 rfl 5 rfl ?_
  refine L_callV (as := []) (st := []) (mc' := 0) (ms' := 0) hE zcv_YL_law_132 rfl rfl rfl rfl (zle rfl) dL_law_1338 ⟨by omega, by omega⟩ (zm_X9_thrown (Kf := fun t M3 => t = z ∧ M3 = M2) ⟨hg.1, rfl⟩) (fun r M3 q => ?_)
  obtain ⟨t, rfl, ht, hM⟩ := q
  rw [hM]
  refine L_iload dL_law_1341 1 rfl ?_
  refine L_icmp_eq (tgt := 1348) dL_law_1343 (by decide) (fun _ => ?_) (fun q9 => absurd ht q9)
  refine L_iload dL_law_1348 1 rfl ?_
  have fin : lAt l G YL_law E 1365 [(7, vi y), (6, vi z), (5, vi (nI (6 * n))), (0, vr 52 0), (1, vr 0 0), (2, vr 30 0), (3, vr 50 0), (4, vr 51 0)] [] (M2, w.2) (c + 1 + 0 + 0) (k + 6 + 0 + 0) := by
    refine L_pick [2, 3, 4, 5, 6, 7] (lv2 := lLV n) rfl ?_
    refine L_goto (tgt := 2335) dL_law_1365 (by decide) ?_
    exact kk _ _ _ (hg.mono (by omega)).2 (by omega) (by omega)
  refine L_if_ne (tgt := 1365) dL_law_1350 (by decide) (fun _ => fin) (fun z0 => ?_)
  refine L_aload_n dL_law_1353 rfl 6 rfl ?_
  refine L_iconst (v := 0) (by decide) dL_law_1354 ?_
  refine L_laldE (hv z0) dL_law_1355 ?_
  refine L_iload dL_law_1356 0 rfl ?_
  refine L_i2l dL_law_1358 ?_
  refine L_lcmp dL_law_1359 ?_
  exact L_if_eq (tgt := 1365) dL_law_1360 (by decide) (fun _ => fin) (fun q9 => absurd (l_cmp0 _) q9)
theorem lc_averageIn (hE : zRm YL_law E.1) (hl : l.stackTraces = false) (hb : 6 * n + 6 ≤ gn G) (hL : gn G ≤ 3072) (hI : Inv M.1 A) (hA : A ≤ 299000000) (hc : c + 753 ≤ E.1.cells ∧ k + 5020 ≤ E.1.slots) (kk : ∀ (w1 : lW) (c1 k1 : Nat), Inv w1.1 (A + 108000) → c1 ≤ c + 753 → k1 ≤ k + 5020 → lAt l G YL_law E 2335 (lLV n) [] w1 c1 k1) : lAt l G YL_law E 1368 (lLV n) [] M c k := by
  refine L_aload_n dL_law_1368 rfl 2 rfl ?_
  refine L_aload_n dL_law_1369 rfl 1 rfl ?_
  refine L_iload dL_law_1370 0 rfl ?_
  refine L_iconst (v := 1) (by decide) dL_law_1372 ?_
  refine L_iadd dL_law_1373 ?_
  refine L_sld (l_in hb hL (by decide)) dL_law_1374 ?_
  refine L_aload_n dL_law_1375 rfl 4 rfl ?_
  refine L_callS (as := [vr 0 0, vi (gs G ((nI (6 * n)) + 1).toNatClampNeg), vr 50 0]) (st := []) (mc' := 1) (ms' := 6) hE zls_law_averageIn rfl rfl (zle rfl) dL_law_1376 ⟨by omega, by omega⟩ (w_averageIn (K := fun z w => zCalI l G Y_X9_averageIn 0 0 [vr 30 0, vi (gs G ((nI (6 * n)) + 1).toNatClampNeg)] w.1 (fun y M2 => Good (A) z M2 ∧ (z = 0 → w.2.1 = y.toInt64))) (P_averageIn (p := (gs G ((nI (6 * n)) + 1).toNatClampNeg)) hl hI hA) (fun x M1 q => zCal_monoI q (fun y M2 g => ⟨g.2, fun _ => by rw [g.1]⟩)) (fun X M1 q => ⟨q.1, zCal_monoI q.2 (fun y M2 g => ⟨g, fun e => absurd e (by decide)⟩)⟩)) (fun r w q => ?_)
  obtain ⟨z, rfl, hz⟩ := q
  refine L_istore (lv2 := [(6, vi z), (5, vi (nI (6 * n))), (0, vr 52 0), (1, vr 0 0), (2, vr 30 0), (3, vr 50 0), (4, vr 51 0)]) dL_law_1379 (by decide) rfl ?_
  refine L_aload_n dL_law_1381 rfl 4 rfl ?_
  refine L_aload_n dL_law_1382 rfl 2 rfl ?_
  refine L_iload dL_law_1383 1 rfl ?_
  refine L_iconst (v := 1) (by decide) dL_law_1385 ?_
  refine L_iadd dL_law_1386 ?_
  refine L_sld (l_in hb hL (by decide)) dL_law_1387 ?_
  refine L_callV (as := [vi (gs G ((nI (6 * n)) + 1).toNatClampNeg)]) (st := []) (mc' := 0) (ms' := 0) hE zcv_YL_law_202 rfl rfl rfl rfl (zle rfl) dL_law_1388 ⟨by omega, by omega⟩ hz (fun r M2 q => ?_)
  obtain ⟨y, rfl, hg, hv⟩ := q
  refine L_istore (lv2 := [(7, vi y), (6, vi z), (5, vi (nI (6 * n))), (0, vr 52 0), (1, vr 0 0), (2, vr 30 0), (3, vr 50 0), (4, vr 51 0)]) dL_law_1391 (by decide) rfl ?_
  refine L_aload_n dL_law_1393 rfl 5 rfl ?_
  refine L_callV (as := []) (st := []) (mc' := 0) (ms' := 0) hE zcv_YL_law_132 rfl rfl rfl rfl (zle rfl) dL_law_1394 ⟨by omega, by omega⟩ (zm_X9_thrown (Kf := fun t M3 => t = z ∧ M3 = M2) ⟨hg.1, rfl⟩) (fun r M3 q => ?_)
  obtain ⟨t, rfl, ht, hM⟩ := q
  rw [hM]
  refine L_iload dL_law_1397 1 rfl ?_
  refine L_icmp_eq (tgt := 1404) dL_law_1399 (by decide) (fun _ => ?_) (fun q9 => absurd ht q9)
  refine L_iload dL_law_1404 1 rfl ?_
  have fin : lAt l G YL_law E 1421 [(7, vi y), (6, vi z), (5, vi (nI (6 * n))), (0, vr 52 0), (1, vr 0 0), (2, vr 30 0), (3, vr 50 0), (4, vr 51 0)] [] (M2, w.2) (c + 1 + 0 + 0) (k + 6 + 0 + 0) := by
    refine L_pick [2, 3, 4, 5, 6, 7] (lv2 := lLV n) rfl ?_
    refine L_goto (tgt := 2335) dL_law_1421 (by decide) ?_
    exact kk _ _ _ (hg.mono (by omega)).2 (by omega) (by omega)
  refine L_if_ne (tgt := 1421) dL_law_1406 (by decide) (fun _ => fin) (fun z0 => ?_)
  refine L_aload_n dL_law_1409 rfl 6 rfl ?_
  refine L_iconst (v := 0) (by decide) dL_law_1410 ?_
  refine L_laldE (hv z0) dL_law_1411 ?_
  refine L_iload dL_law_1412 0 rfl ?_
  refine L_i2l dL_law_1414 ?_
  refine L_lcmp dL_law_1415 ?_
  exact L_if_eq (tgt := 1421) dL_law_1416 (by decide) (fun _ => fin) (fun q9 => absurd (l_cmp0 _) q9)
theorem lc_windowIn (hE : zRm YL_law E.1) (hl : l.stackTraces = false) (hb : 6 * n + 6 ≤ gn G) (hL : gn G ≤ 3072) (hI : Inv M.1 A) (hA : A ≤ 299000000) (hc : c + 753 ≤ E.1.cells ∧ k + 5020 ≤ E.1.slots) (kk : ∀ (w1 : lW) (c1 k1 : Nat), Inv w1.1 (A + 108000) → c1 ≤ c + 753 → k1 ≤ k + 5020 → lAt l G YL_law E 2335 (lLV n) [] w1 c1 k1) : lAt l G YL_law E 1424 (lLV n) [] M c k := by
  refine L_aload_n dL_law_1424 rfl 2 rfl ?_
  refine L_aload_n dL_law_1425 rfl 1 rfl ?_
  refine L_iload dL_law_1426 0 rfl ?_
  refine L_iconst (v := 1) (by decide) dL_law_1428 ?_
  refine L_iadd dL_law_1429 ?_
  refine L_sld (l_in hb hL (by decide)) dL_law_1430 ?_
  refine L_aload_n dL_law_1431 rfl 1 rfl ?_
  refine L_iload dL_law_1432 0 rfl ?_
  refine L_iconst (v := 2) (by decide) dL_law_1434 ?_
  refine L_iadd dL_law_1435 ?_
  refine L_sld (l_in hb hL (by decide)) dL_law_1436 ?_
  refine L_aload_n dL_law_1437 rfl 4 rfl ?_
  refine L_callS (as := [vr 0 0, vi (gs G ((nI (6 * n)) + 1).toNatClampNeg), vi (gs G ((nI (6 * n)) + 2).toNatClampNeg), vr 50 0]) (st := []) (mc' := 2) (ms' := 12) hE zls_law_windowIn rfl rfl (zle rfl) dL_law_1438 ⟨by omega, by omega⟩ (w_windowIn (K := fun z w => zCalI l G Y_X9_windowIn 0 0 [vr 30 0, vi (gs G ((nI (6 * n)) + 1).toNatClampNeg), vi (gs G ((nI (6 * n)) + 2).toNatClampNeg)] w.1 (fun y M2 => Good (A) z M2 ∧ (z = 0 → w.2.1 = y.toInt64))) (P_windowIn (f := (gs G ((nI (6 * n)) + 1).toNatClampNeg)) (p := (gs G ((nI (6 * n)) + 2).toNatClampNeg)) hl hI hA) (fun x M1 q => zCal_monoI q (fun y M2 g => ⟨g.2, fun _ => by rw [g.1]⟩)) (fun X M1 q => q.elim (fun q => .inl ⟨q.1, zCal_monoI q.2 (fun y M2 g => ⟨g, fun e => absurd e (by decide)⟩)⟩) (fun q => .inr ⟨q.1, zCal_monoI q.2 (fun y M2 g => ⟨g, fun e => absurd e (by decide)⟩)⟩))) (fun r w q => ?_)
  obtain ⟨z, rfl, hz⟩ := q
  refine L_istore (lv2 := [(6, vi z), (5, vi (nI (6 * n))), (0, vr 52 0), (1, vr 0 0), (2, vr 30 0), (3, vr 50 0), (4, vr 51 0)]) dL_law_1441 (by decide) rfl ?_
  refine L_aload_n dL_law_1443 rfl 4 rfl ?_
  refine L_aload_n dL_law_1444 rfl 2 rfl ?_
  refine L_iload dL_law_1445 1 rfl ?_
  refine L_iconst (v := 1) (by decide) dL_law_1447 ?_
  refine L_iadd dL_law_1448 ?_
  refine L_sld (l_in hb hL (by decide)) dL_law_1449 ?_
  refine L_aload_n dL_law_1450 rfl 2 rfl ?_
  refine L_iload dL_law_1451 1 rfl ?_
  refine L_iconst (v := 2) (by decide) dL_law_1453 ?_
  refine L_iadd dL_law_1454 ?_
  refine L_sld (l_in hb hL (by decide)) dL_law_1455 ?_
  refine L_callV (as := [vi (gs G ((nI (6 * n)) + 1).toNatClampNeg), vi (gs G ((nI (6 * n)) + 2).toNatClampNeg)]) (st := []) (mc' := 0) (ms' := 0) hE zcv_YL_law_205 rfl rfl rfl rfl (zle rfl) dL_law_1456 ⟨by omega, by omega⟩ hz (fun r M2 q => ?_)
  obtain ⟨y, rfl, hg, hv⟩ := q
  refine L_istore (lv2 := [(7, vi y), (6, vi z), (5, vi (nI (6 * n))), (0, vr 52 0), (1, vr 0 0), (2, vr 30 0), (3, vr 50 0), (4, vr 51 0)]) dL_law_1459 (by decide) rfl ?_
  refine L_aload_n dL_law_1461 rfl 5 rfl ?_
  refine L_callV (as := []) (st := []) (mc' := 0) (ms' := 0) hE zcv_YL_law_132 rfl rfl rfl rfl (zle rfl) dL_law_1462 ⟨by omega, by omega⟩ (zm_X9_thrown (Kf := fun t M3 => t = z ∧ M3 = M2) ⟨hg.1, rfl⟩) (fun r M3 q => ?_)
  obtain ⟨t, rfl, ht, hM⟩ := q
  rw [hM]
  refine L_iload dL_law_1465 1 rfl ?_
  refine L_icmp_eq (tgt := 1472) dL_law_1467 (by decide) (fun _ => ?_) (fun q9 => absurd ht q9)
  refine L_iload dL_law_1472 1 rfl ?_
  have fin : lAt l G YL_law E 1489 [(7, vi y), (6, vi z), (5, vi (nI (6 * n))), (0, vr 52 0), (1, vr 0 0), (2, vr 30 0), (3, vr 50 0), (4, vr 51 0)] [] (M2, w.2) (c + 2 + 0 + 0) (k + 12 + 0 + 0) := by
    refine L_pick [2, 3, 4, 5, 6, 7] (lv2 := lLV n) rfl ?_
    refine L_goto (tgt := 2335) dL_law_1489 (by decide) ?_
    exact kk _ _ _ (hg.mono (by omega)).2 (by omega) (by omega)
  refine L_if_ne (tgt := 1489) dL_law_1474 (by decide) (fun _ => fin) (fun z0 => ?_)
  refine L_aload_n dL_law_1477 rfl 6 rfl ?_
  refine L_iconst (v := 0) (by decide) dL_law_1478 ?_
  refine L_laldE (hv z0) dL_law_1479 ?_
  refine L_iload dL_law_1480 0 rfl ?_
  refine L_i2l dL_law_1482 ?_
  refine L_lcmp dL_law_1483 ?_
  exact L_if_eq (tgt := 1489) dL_law_1484 (by decide) (fun _ => fin) (fun q9 => absurd (l_cmp0 _) q9)
theorem lc_longest (hE : zRm YL_law E.1) (hl : l.stackTraces = false) (hb : 6 * n + 6 ≤ gn G) (hL : gn G ≤ 3072) (hI : Inv M.1 A) (hA : A ≤ 299000000) (hc : c + 753 ≤ E.1.cells ∧ k + 5020 ≤ E.1.slots) (kk : ∀ (w1 : lW) (c1 k1 : Nat), Inv w1.1 (A + 108000) → c1 ≤ c + 753 → k1 ≤ k + 5020 → lAt l G YL_law E 2335 (lLV n) [] w1 c1 k1) : lAt l G YL_law E 1492 (lLV n) [] M c k := by
  refine L_aload_n dL_law_1492 rfl 2 rfl ?_
  refine L_aload_n dL_law_1493 rfl 1 rfl ?_
  refine L_iload dL_law_1494 0 rfl ?_
  refine L_iconst (v := 1) (by decide) dL_law_1496 ?_
  refine L_iadd dL_law_1497 ?_
  refine L_sld (l_in hb hL (by decide)) dL_law_1498 ?_
  refine L_aload_n dL_law_1499 rfl 4 rfl ?_
  refine L_callS (as := [vr 0 0, vi (gs G ((nI (6 * n)) + 1).toNatClampNeg), vr 50 0]) (st := []) (mc' := 1) (ms' := 6) hE zls_law_longest rfl rfl (zle rfl) dL_law_1500 ⟨by omega, by omega⟩ (w_longest (K := fun z w => zCalI l G Y_X9_longest 0 0 [vr 30 0, vi (gs G ((nI (6 * n)) + 1).toNatClampNeg)] w.1 (fun y M2 => Good (A) z M2 ∧ (z = 0 → w.2.1 = y.toInt64))) (P_longest (p := (gs G ((nI (6 * n)) + 1).toNatClampNeg)) hl hI hA) (fun x M1 q => zCal_monoI q (fun y M2 g => ⟨g.2, fun _ => by rw [g.1]⟩)) (fun X M1 q => ⟨q.1, zCal_monoI q.2 (fun y M2 g => ⟨g, fun e => absurd e (by decide)⟩)⟩)) (fun r w q => ?_)
  obtain ⟨z, rfl, hz⟩ := q
  refine L_istore (lv2 := [(6, vi z), (5, vi (nI (6 * n))), (0, vr 52 0), (1, vr 0 0), (2, vr 30 0), (3, vr 50 0), (4, vr 51 0)]) dL_law_1503 (by decide) rfl ?_
  refine L_aload_n dL_law_1505 rfl 4 rfl ?_
  refine L_aload_n dL_law_1506 rfl 2 rfl ?_
  refine L_iload dL_law_1507 1 rfl ?_
  refine L_iconst (v := 1) (by decide) dL_law_1509 ?_
  refine L_iadd dL_law_1510 ?_
  refine L_sld (l_in hb hL (by decide)) dL_law_1511 ?_
  refine L_callV (as := [vi (gs G ((nI (6 * n)) + 1).toNatClampNeg)]) (st := []) (mc' := 0) (ms' := 0) hE zcv_YL_law_208 rfl rfl rfl rfl (zle rfl) dL_law_1512 ⟨by omega, by omega⟩ hz (fun r M2 q => ?_)
  obtain ⟨y, rfl, hg, hv⟩ := q
  refine L_istore (lv2 := [(7, vi y), (6, vi z), (5, vi (nI (6 * n))), (0, vr 52 0), (1, vr 0 0), (2, vr 30 0), (3, vr 50 0), (4, vr 51 0)]) dL_law_1515 (by decide) rfl ?_
  refine L_aload_n dL_law_1517 rfl 5 rfl ?_
  refine L_callV (as := []) (st := []) (mc' := 0) (ms' := 0) hE zcv_YL_law_132 rfl rfl rfl rfl (zle rfl) dL_law_1518 ⟨by omega, by omega⟩ (zm_X9_thrown (Kf := fun t M3 => t = z ∧ M3 = M2) ⟨hg.1, rfl⟩) (fun r M3 q => ?_)
  obtain ⟨t, rfl, ht, hM⟩ := q
  rw [hM]
  refine L_iload dL_law_1521 1 rfl ?_
  refine L_icmp_eq (tgt := 1528) dL_law_1523 (by decide) (fun _ => ?_) (fun q9 => absurd ht q9)
  refine L_iload dL_law_1528 1 rfl ?_
  have fin : lAt l G YL_law E 1545 [(7, vi y), (6, vi z), (5, vi (nI (6 * n))), (0, vr 52 0), (1, vr 0 0), (2, vr 30 0), (3, vr 50 0), (4, vr 51 0)] [] (M2, w.2) (c + 1 + 0 + 0) (k + 6 + 0 + 0) := by
    refine L_pick [2, 3, 4, 5, 6, 7] (lv2 := lLV n) rfl ?_
    refine L_goto (tgt := 2335) dL_law_1545 (by decide) ?_
    exact kk _ _ _ (hg.mono (by omega)).2 (by omega) (by omega)
  refine L_if_ne (tgt := 1545) dL_law_1530 (by decide) (fun _ => fin) (fun z0 => ?_)
  refine L_aload_n dL_law_1533 rfl 6 rfl ?_
  refine L_iconst (v := 0) (by decide) dL_law_1534 ?_
  refine L_laldE (hv z0) dL_law_1535 ?_
  refine L_iload dL_law_1536 0 rfl ?_
  refine L_i2l dL_law_1538 ?_
  refine L_lcmp dL_law_1539 ?_
  exact L_if_eq (tgt := 1545) dL_law_1540 (by decide) (fun _ => fin) (fun q9 => absurd (l_cmp0 _) q9)
theorem lc_dropIn (hE : zRm YL_law E.1) (hl : l.stackTraces = false) (hb : 6 * n + 6 ≤ gn G) (hL : gn G ≤ 3072) (hI : Inv M.1 A) (hA : A ≤ 299000000) (hc : c + 753 ≤ E.1.cells ∧ k + 5020 ≤ E.1.slots) (kk : ∀ (w1 : lW) (c1 k1 : Nat), Inv w1.1 (A + 108000) → c1 ≤ c + 753 → k1 ≤ k + 5020 → lAt l G YL_law E 2335 (lLV n) [] w1 c1 k1) : lAt l G YL_law E 1548 (lLV n) [] M c k := by
  refine L_aload_n dL_law_1548 rfl 2 rfl ?_
  refine L_callV (as := []) (st := []) (mc' := 0) (ms' := 0) hE zcv_YL_law_209 rfl rfl rfl rfl (zle rfl) dL_law_1549 ⟨by omega, by omega⟩ (P_dropIn hI hA) (fun r M1 q => ?_)
  obtain ⟨x, rfl, q⟩ := q
  refine L_aload_n dL_law_1552 rfl 3 rfl ?_
  refine L_callV (as := []) (st := [vi x]) (mc' := 0) (ms' := 0) hE zcv_YL_law_212 rfl rfl rfl rfl (zle rfl) dL_law_1553 ⟨by omega, by omega⟩ q (fun r M2 q => ?_)
  obtain ⟨y, rfl, hy, hg⟩ := q
  refine L_icmp_eq (tgt := 2335) dL_law_1556 (by decide) (fun _ => ?_) (fun q9 => absurd hy.symm q9)
  exact kk _ _ _ (hg.mono (by omega)).2 (by omega) (by omega)
theorem lc_bestWeight (hE : zRm YL_law E.1) (hl : l.stackTraces = false) (hb : 6 * n + 6 ≤ gn G) (hL : gn G ≤ 3072) (hI : Inv M.1 A) (hA : A ≤ 299000000) (hc : c + 753 ≤ E.1.cells ∧ k + 5020 ≤ E.1.slots) (kk : ∀ (w1 : lW) (c1 k1 : Nat), Inv w1.1 (A + 108000) → c1 ≤ c + 753 → k1 ≤ k + 5020 → lAt l G YL_law E 2335 (lLV n) [] w1 c1 k1) : lAt l G YL_law E 1561 (lLV n) [] M c k := by
  refine L_aload_n dL_law_1561 rfl 2 rfl ?_
  refine L_aload_n dL_law_1562 rfl 1 rfl ?_
  refine L_iload dL_law_1563 0 rfl ?_
  refine L_iconst (v := 1) (by decide) dL_law_1565 ?_
  refine L_iadd dL_law_1566 ?_
  refine L_sld (l_in hb hL (by decide)) dL_law_1567 ?_
  refine L_aload_n dL_law_1568 rfl 4 rfl ?_
  refine L_callS (as := [vr 0 0, vi (gs G ((nI (6 * n)) + 1).toNatClampNeg), vr 50 0]) (st := []) (mc' := 1) (ms' := 6) hE zls_law_bestWeight rfl rfl (zle rfl) dL_law_1569 ⟨by omega, by omega⟩ (w_bestWeight (K := fun z w => zCalI l G Y_X9_bestWeight 0 0 [vr 30 0, vi (gs G ((nI (6 * n)) + 1).toNatClampNeg)] w.1 (fun y M2 => Good (A) z M2 ∧ (z = 0 → w.2.1 = y.toInt64))) (P_bestWeight (p := (gs G ((nI (6 * n)) + 1).toNatClampNeg)) hl hI hA) (fun x M1 q => zCal_monoI q (fun y M2 g => ⟨g.2, fun _ => by rw [g.1]⟩)) (fun X M1 q => ⟨q.1, zCal_monoI q.2 (fun y M2 g => ⟨g, fun e => absurd e (by decide)⟩)⟩)) (fun r w q => ?_)
  obtain ⟨z, rfl, hz⟩ := q
  refine L_istore (lv2 := [(6, vi z), (5, vi (nI (6 * n))), (0, vr 52 0), (1, vr 0 0), (2, vr 30 0), (3, vr 50 0), (4, vr 51 0)]) dL_law_1572 (by decide) rfl ?_
  refine L_aload_n dL_law_1574 rfl 4 rfl ?_
  refine L_aload_n dL_law_1575 rfl 2 rfl ?_
  refine L_iload dL_law_1576 1 rfl ?_
  refine L_iconst (v := 1) (by decide) dL_law_1578 ?_
  refine L_iadd dL_law_1579 ?_
  refine L_sld (l_in hb hL (by decide)) dL_law_1580 ?_
  refine L_callV (as := [vi (gs G ((nI (6 * n)) + 1).toNatClampNeg)]) (st := []) (mc' := 0) (ms' := 0) hE zcv_YL_law_215 rfl rfl rfl rfl (zle rfl) dL_law_1581 ⟨by omega, by omega⟩ hz (fun r M2 q => ?_)
  obtain ⟨y, rfl, hg, hv⟩ := q
  refine L_istore (lv2 := [(7, vi y), (6, vi z), (5, vi (nI (6 * n))), (0, vr 52 0), (1, vr 0 0), (2, vr 30 0), (3, vr 50 0), (4, vr 51 0)]) dL_law_1584 (by decide) rfl ?_
  refine L_aload_n dL_law_1586 rfl 5 rfl ?_
  refine L_callV (as := []) (st := []) (mc' := 0) (ms' := 0) hE zcv_YL_law_132 rfl rfl rfl rfl (zle rfl) dL_law_1587 ⟨by omega, by omega⟩ (zm_X9_thrown (Kf := fun t M3 => t = z ∧ M3 = M2) ⟨hg.1, rfl⟩) (fun r M3 q => ?_)
  obtain ⟨t, rfl, ht, hM⟩ := q
  rw [hM]
  refine L_iload dL_law_1590 1 rfl ?_
  refine L_icmp_eq (tgt := 1597) dL_law_1592 (by decide) (fun _ => ?_) (fun q9 => absurd ht q9)
  refine L_iload dL_law_1597 1 rfl ?_
  have fin : lAt l G YL_law E 1614 [(7, vi y), (6, vi z), (5, vi (nI (6 * n))), (0, vr 52 0), (1, vr 0 0), (2, vr 30 0), (3, vr 50 0), (4, vr 51 0)] [] (M2, w.2) (c + 1 + 0 + 0) (k + 6 + 0 + 0) := by
    refine L_pick [2, 3, 4, 5, 6, 7] (lv2 := lLV n) rfl ?_
    refine L_goto (tgt := 2335) dL_law_1614 (by decide) ?_
    exact kk _ _ _ (hg.mono (by omega)).2 (by omega) (by omega)
  refine L_if_ne (tgt := 1614) dL_law_1599 (by decide) (fun _ => fin) (fun z0 => ?_)
  refine L_aload_n dL_law_1602 rfl 6 rfl ?_
  refine L_iconst (v := 0) (by decide) dL_law_1603 ?_
  refine L_laldE (hv z0) dL_law_1604 ?_
  refine L_iload dL_law_1605 0 rfl ?_
  refine L_i2l dL_law_1607 ?_
  refine L_lcmp dL_law_1608 ?_
  exact L_if_eq (tgt := 1614) dL_law_1609 (by decide) (fun _ => fin) (fun q9 => absurd (l_cmp0 _) q9)
theorem lc_bestTop (hE : zRm YL_law E.1) (hl : l.stackTraces = false) (hb : 6 * n + 6 ≤ gn G) (hL : gn G ≤ 3072) (hI : Inv M.1 A) (hA : A ≤ 299000000) (hc : c + 753 ≤ E.1.cells ∧ k + 5020 ≤ E.1.slots) (kk : ∀ (w1 : lW) (c1 k1 : Nat), Inv w1.1 (A + 108000) → c1 ≤ c + 753 → k1 ≤ k + 5020 → lAt l G YL_law E 2335 (lLV n) [] w1 c1 k1) : lAt l G YL_law E 1617 (lLV n) [] M c k := by
  refine L_aload_n dL_law_1617 rfl 2 rfl ?_
  refine L_aload_n dL_law_1618 rfl 1 rfl ?_
  refine L_iload dL_law_1619 0 rfl ?_
  refine L_iconst (v := 1) (by decide) dL_law_1621 ?_
  refine L_iadd dL_law_1622 ?_
  refine L_sld (l_in hb hL (by decide)) dL_law_1623 ?_
  refine L_aload_n dL_law_1624 rfl 4 rfl ?_
  refine L_callS (as := [vr 0 0, vi (gs G ((nI (6 * n)) + 1).toNatClampNeg), vr 50 0]) (st := []) (mc' := 1) (ms' := 6) hE zls_law_bestTop rfl rfl (zle rfl) dL_law_1625 ⟨by omega, by omega⟩ (w_bestTop (K := fun z w => zCalI l G Y_X9_bestTop 0 0 [vr 30 0, vi (gs G ((nI (6 * n)) + 1).toNatClampNeg)] w.1 (fun y M2 => Good (A) z M2 ∧ (z = 0 → w.2.1 = y.toInt64))) (P_bestTop (p := (gs G ((nI (6 * n)) + 1).toNatClampNeg)) hl hI hA) (fun x M1 q => zCal_monoI q (fun y M2 g => ⟨g.2, fun _ => by rw [g.1]⟩)) (fun X M1 q => ⟨q.1, zCal_monoI q.2 (fun y M2 g => ⟨g, fun e => absurd e (by decide)⟩)⟩)) (fun r w q => ?_)
  obtain ⟨z, rfl, hz⟩ := q
  refine L_istore (lv2 := [(6, vi z), (5, vi (nI (6 * n))), (0, vr 52 0), (1, vr 0 0), (2, vr 30 0), (3, vr 50 0), (4, vr 51 0)]) dL_law_1628 (by decide) rfl ?_
  refine L_aload_n dL_law_1630 rfl 4 rfl ?_
  refine L_aload_n dL_law_1631 rfl 2 rfl ?_
  refine L_iload dL_law_1632 1 rfl ?_
  refine L_iconst (v := 1) (by decide) dL_law_1634 ?_
  refine L_iadd dL_law_1635 ?_
  refine L_sld (l_in hb hL (by decide)) dL_law_1636 ?_
  refine L_callV (as := [vi (gs G ((nI (6 * n)) + 1).toNatClampNeg)]) (st := []) (mc' := 0) (ms' := 0) hE zcv_YL_law_218 rfl rfl rfl rfl (zle rfl) dL_law_1637 ⟨by omega, by omega⟩ hz (fun r M2 q => ?_)
  obtain ⟨y, rfl, hg, hv⟩ := q
  refine L_istore (lv2 := [(7, vi y), (6, vi z), (5, vi (nI (6 * n))), (0, vr 52 0), (1, vr 0 0), (2, vr 30 0), (3, vr 50 0), (4, vr 51 0)]) dL_law_1640 (by decide) rfl ?_
  refine L_aload_n dL_law_1642 rfl 5 rfl ?_
  refine L_callV (as := []) (st := []) (mc' := 0) (ms' := 0) hE zcv_YL_law_132 rfl rfl rfl rfl (zle rfl) dL_law_1643 ⟨by omega, by omega⟩ (zm_X9_thrown (Kf := fun t M3 => t = z ∧ M3 = M2) ⟨hg.1, rfl⟩) (fun r M3 q => ?_)
  obtain ⟨t, rfl, ht, hM⟩ := q
  rw [hM]
  refine L_iload dL_law_1646 1 rfl ?_
  refine L_icmp_eq (tgt := 1653) dL_law_1648 (by decide) (fun _ => ?_) (fun q9 => absurd ht q9)
  refine L_iload dL_law_1653 1 rfl ?_
  have fin : lAt l G YL_law E 1670 [(7, vi y), (6, vi z), (5, vi (nI (6 * n))), (0, vr 52 0), (1, vr 0 0), (2, vr 30 0), (3, vr 50 0), (4, vr 51 0)] [] (M2, w.2) (c + 1 + 0 + 0) (k + 6 + 0 + 0) := by
    refine L_pick [2, 3, 4, 5, 6, 7] (lv2 := lLV n) rfl ?_
    refine L_goto (tgt := 2335) dL_law_1670 (by decide) ?_
    exact kk _ _ _ (hg.mono (by omega)).2 (by omega) (by omega)
  refine L_if_ne (tgt := 1670) dL_law_1655 (by decide) (fun _ => fin) (fun z0 => ?_)
  refine L_aload_n dL_law_1658 rfl 6 rfl ?_
  refine L_iconst (v := 0) (by decide) dL_law_1659 ?_
  refine L_laldE (hv z0) dL_law_1660 ?_
  refine L_iload dL_law_1661 0 rfl ?_
  refine L_i2l dL_law_1663 ?_
  refine L_lcmp dL_law_1664 ?_
  exact L_if_eq (tgt := 1670) dL_law_1665 (by decide) (fun _ => fin) (fun q9 => absurd (l_cmp0 _) q9)
theorem lc_gain (hE : zRm YL_law E.1) (hl : l.stackTraces = false) (hb : 6 * n + 6 ≤ gn G) (hL : gn G ≤ 3072) (hI : Inv M.1 A) (hA : A ≤ 299000000) (hc : c + 753 ≤ E.1.cells ∧ k + 5020 ≤ E.1.slots) (kk : ∀ (w1 : lW) (c1 k1 : Nat), Inv w1.1 (A + 108000) → c1 ≤ c + 753 → k1 ≤ k + 5020 → lAt l G YL_law E 2335 (lLV n) [] w1 c1 k1) : lAt l G YL_law E 1673 (lLV n) [] M c k := by
  refine L_aload_n dL_law_1673 rfl 2 rfl ?_
  refine L_aload_n dL_law_1674 rfl 1 rfl ?_
  refine L_iload dL_law_1675 0 rfl ?_
  refine L_iconst (v := 1) (by decide) dL_law_1677 ?_
  refine L_iadd dL_law_1678 ?_
  refine L_sld (l_in hb hL (by decide)) dL_law_1679 ?_
  refine L_aload_n dL_law_1680 rfl 4 rfl ?_
  refine L_callS (as := [vr 0 0, vi (gs G ((nI (6 * n)) + 1).toNatClampNeg), vr 50 0]) (st := []) (mc' := 1) (ms' := 6) hE zls_law_gain rfl rfl (zle rfl) dL_law_1681 ⟨by omega, by omega⟩ (w_gain (K := fun z w => zCalL l G Y_X9_gain 0 0 [vr 30 0, vi (gs G ((nI (6 * n)) + 1).toNatClampNeg)] w.1 (fun y M2 => Good (A) z M2 ∧ (z = 0 → w.2.1 = y))) (P_gain (p := (gs G ((nI (6 * n)) + 1).toNatClampNeg)) hl hI hA) (fun x M1 q => zCal_monoL q (fun y M2 g => ⟨g.2, fun _ => by rw [g.1]⟩)) (fun X M1 q => ⟨q.1, zCal_monoL q.2 (fun y M2 g => ⟨g, fun e => absurd e (by decide)⟩)⟩)) (fun r w q => ?_)
  obtain ⟨z, rfl, hz⟩ := q
  refine L_istore (lv2 := [(6, vi z), (5, vi (nI (6 * n))), (0, vr 52 0), (1, vr 0 0), (2, vr 30 0), (3, vr 50 0), (4, vr 51 0)]) dL_law_1684 (by decide) rfl ?_
  refine L_aload_n dL_law_1686 rfl 4 rfl ?_
  refine L_aload_n dL_law_1687 rfl 2 rfl ?_
  refine L_iload dL_law_1688 1 rfl ?_
  refine L_iconst (v := 1) (by decide) dL_law_1690 ?_
  refine L_iadd dL_law_1691 ?_
  refine L_sld (l_in hb hL (by decide)) dL_law_1692 ?_
  refine L_callV (as := [vi (gs G ((nI (6 * n)) + 1).toNatClampNeg)]) (st := []) (mc' := 0) (ms' := 0) hE zcv_YL_law_221 rfl rfl rfl rfl (zle rfl) dL_law_1693 ⟨by omega, by omega⟩ hz (fun r M2 q => ?_)
  obtain ⟨y, rfl, hg, hv⟩ := q
  refine L_lstore (lv2 := [(7, vl y), (6, vi z), (5, vi (nI (6 * n))), (0, vr 52 0), (1, vr 0 0), (2, vr 30 0), (3, vr 50 0), (4, vr 51 0)]) dL_law_1696 (by decide) rfl ?_
  refine L_aload_n dL_law_1698 rfl 5 rfl ?_
  refine L_callV (as := []) (st := []) (mc' := 0) (ms' := 0) hE zcv_YL_law_132 rfl rfl rfl rfl (zle rfl) dL_law_1699 ⟨by omega, by omega⟩ (zm_X9_thrown (Kf := fun t M3 => t = z ∧ M3 = M2) ⟨hg.1, rfl⟩) (fun r M3 q => ?_)
  obtain ⟨t, rfl, ht, hM⟩ := q
  rw [hM]
  refine L_iload dL_law_1702 1 rfl ?_
  refine L_icmp_eq (tgt := 1709) dL_law_1704 (by decide) (fun _ => ?_) (fun q9 => absurd ht q9)
  refine L_iload dL_law_1709 1 rfl ?_
  have fin : lAt l G YL_law E 1725 [(7, vl y), (6, vi z), (5, vi (nI (6 * n))), (0, vr 52 0), (1, vr 0 0), (2, vr 30 0), (3, vr 50 0), (4, vr 51 0)] [] (M2, w.2) (c + 1 + 0 + 0) (k + 6 + 0 + 0) := by
    refine L_pick [2, 3, 4, 5, 6, 7] (lv2 := lLV n) rfl ?_
    refine L_goto (tgt := 2335) dL_law_1725 (by decide) ?_
    exact kk _ _ _ (hg.mono (by omega)).2 (by omega) (by omega)
  refine L_if_ne (tgt := 1725) dL_law_1711 (by decide) (fun _ => fin) (fun z0 => ?_)
  refine L_aload_n dL_law_1714 rfl 6 rfl ?_
  refine L_iconst (v := 0) (by decide) dL_law_1715 ?_
  refine L_laldE (hv z0) dL_law_1716 ?_
  refine L_lload dL_law_1717 0 rfl ?_
  refine L_lcmp dL_law_1719 ?_
  exact L_if_eq (tgt := 1725) dL_law_1720 (by decide) (fun _ => fin) (fun q9 => absurd (l_cmp0 _) q9)
theorem lc_tick (hE : zRm YL_law E.1) (hl : l.stackTraces = false) (hb : 6 * n + 6 ≤ gn G) (hL : gn G ≤ 3072) (hI : Inv M.1 A) (hA : A ≤ 299000000) (hc : c + 753 ≤ E.1.cells ∧ k + 5020 ≤ E.1.slots) (kk : ∀ (w1 : lW) (c1 k1 : Nat), Inv w1.1 (A + 108000) → c1 ≤ c + 753 → k1 ≤ k + 5020 → lAt l G YL_law E 2335 (lLV n) [] w1 c1 k1) : lAt l G YL_law E 1728 (lLV n) [] M c k := by
  refine L_aload_n dL_law_1728 rfl 2 rfl ?_
  refine L_aload_n dL_law_1729 rfl 1 rfl ?_
  refine L_iload dL_law_1730 0 rfl ?_
  refine L_iconst (v := 1) (by decide) dL_law_1732 ?_
  refine L_iadd dL_law_1733 ?_
  refine L_sld (l_in hb hL (by decide)) dL_law_1734 ?_
  refine L_aload_n dL_law_1735 rfl 4 rfl ?_
  refine L_callS (as := [vr 0 0, vi (gs G ((nI (6 * n)) + 1).toNatClampNeg), vr 50 0]) (st := []) (mc' := 1) (ms' := 6) hE zls_law_tick rfl rfl (zle rfl) dL_law_1736 ⟨by omega, by omega⟩ (w_tick (K := fun z w => zCalI l G Y_X9_tick 0 0 [vr 30 0, vi (gs G ((nI (6 * n)) + 1).toNatClampNeg)] w.1 (fun y M2 => Good (A + 2700) z M2 ∧ (z = 0 → w.2.1 = y.toInt64))) (P_tick (p := (gs G ((nI (6 * n)) + 1).toNatClampNeg)) hl hI hA) (fun x M1 q => zCal_monoI q (fun y M2 g => ⟨g.2, fun _ => by rw [g.1]⟩)) (fun X M1 q => ⟨q.1, zCal_monoI q.2 (fun y M2 g => ⟨g, fun e => absurd e (by decide)⟩)⟩)) (fun r w q => ?_)
  obtain ⟨z, rfl, hz⟩ := q
  refine L_istore (lv2 := [(6, vi z), (5, vi (nI (6 * n))), (0, vr 52 0), (1, vr 0 0), (2, vr 30 0), (3, vr 50 0), (4, vr 51 0)]) dL_law_1739 (by decide) rfl ?_
  refine L_aload_n dL_law_1741 rfl 4 rfl ?_
  refine L_aload_n dL_law_1742 rfl 2 rfl ?_
  refine L_iload dL_law_1743 1 rfl ?_
  refine L_iconst (v := 1) (by decide) dL_law_1745 ?_
  refine L_iadd dL_law_1746 ?_
  refine L_sld (l_in hb hL (by decide)) dL_law_1747 ?_
  refine L_callV (as := [vi (gs G ((nI (6 * n)) + 1).toNatClampNeg)]) (st := []) (mc' := 0) (ms' := 0) hE zcv_YL_law_224 rfl rfl rfl rfl (zle rfl) dL_law_1748 ⟨by omega, by omega⟩ hz (fun r M2 q => ?_)
  obtain ⟨y, rfl, hg, hv⟩ := q
  refine L_istore (lv2 := [(7, vi y), (6, vi z), (5, vi (nI (6 * n))), (0, vr 52 0), (1, vr 0 0), (2, vr 30 0), (3, vr 50 0), (4, vr 51 0)]) dL_law_1751 (by decide) rfl ?_
  refine L_aload_n dL_law_1753 rfl 5 rfl ?_
  refine L_callV (as := []) (st := []) (mc' := 0) (ms' := 0) hE zcv_YL_law_132 rfl rfl rfl rfl (zle rfl) dL_law_1754 ⟨by omega, by omega⟩ (zm_X9_thrown (Kf := fun t M3 => t = z ∧ M3 = M2) ⟨hg.1, rfl⟩) (fun r M3 q => ?_)
  obtain ⟨t, rfl, ht, hM⟩ := q
  rw [hM]
  refine L_iload dL_law_1757 1 rfl ?_
  refine L_icmp_eq (tgt := 1764) dL_law_1759 (by decide) (fun _ => ?_) (fun q9 => absurd ht q9)
  refine L_iload dL_law_1764 1 rfl ?_
  have fin : lAt l G YL_law E 1781 [(7, vi y), (6, vi z), (5, vi (nI (6 * n))), (0, vr 52 0), (1, vr 0 0), (2, vr 30 0), (3, vr 50 0), (4, vr 51 0)] [] (M2, w.2) (c + 1 + 0 + 0) (k + 6 + 0 + 0) := by
    refine L_pick [2, 3, 4, 5, 6, 7] (lv2 := lLV n) rfl ?_
    refine L_goto (tgt := 2335) dL_law_1781 (by decide) ?_
    exact kk _ _ _ (hg.mono (by omega)).2 (by omega) (by omega)
  refine L_if_ne (tgt := 1781) dL_law_1766 (by decide) (fun _ => fin) (fun z0 => ?_)
  refine L_aload_n dL_law_1769 rfl 6 rfl ?_
  refine L_iconst (v := 0) (by decide) dL_law_1770 ?_
  refine L_laldE (hv z0) dL_law_1771 ?_
  refine L_iload dL_law_1772 0 rfl ?_
  refine L_i2l dL_law_1774 ?_
  refine L_lcmp dL_law_1775 ?_
  exact L_if_eq (tgt := 1781) dL_law_1776 (by decide) (fun _ => fin) (fun q9 => absurd (l_cmp0 _) q9)
theorem lc_send (hE : zRm YL_law E.1) (hl : l.stackTraces = false) (hb : 6 * n + 6 ≤ gn G) (hL : gn G ≤ 3072) (hI : Inv M.1 A) (hA : A ≤ 299000000) (hc : c + 753 ≤ E.1.cells ∧ k + 5020 ≤ E.1.slots) (kk : ∀ (w1 : lW) (c1 k1 : Nat), Inv w1.1 (A + 108000) → c1 ≤ c + 753 → k1 ≤ k + 5020 → lAt l G YL_law E 2335 (lLV n) [] w1 c1 k1) : lAt l G YL_law E 1784 (lLV n) [] M c k := by
  refine L_aload_n dL_law_1784 rfl 2 rfl ?_
  refine L_aload_n dL_law_1785 rfl 1 rfl ?_
  refine L_iload dL_law_1786 0 rfl ?_
  refine L_iconst (v := 1) (by decide) dL_law_1788 ?_
  refine L_iadd dL_law_1789 ?_
  refine L_sld (l_in hb hL (by decide)) dL_law_1790 ?_
  refine L_aload_n dL_law_1791 rfl 1 rfl ?_
  refine L_iload dL_law_1792 0 rfl ?_
  refine L_iconst (v := 2) (by decide) dL_law_1794 ?_
  refine L_iadd dL_law_1795 ?_
  refine L_sld (l_in hb hL (by decide)) dL_law_1796 ?_
  refine L_aload_n dL_law_1797 rfl 4 rfl ?_
  refine L_callS (as := [vr 0 0, vi (gs G ((nI (6 * n)) + 1).toNatClampNeg), vi (gs G ((nI (6 * n)) + 2).toNatClampNeg), vr 50 0]) (st := []) (mc' := 2) (ms' := 12) hE zls_law_send rfl rfl (zle rfl) dL_law_1798 ⟨by omega, by omega⟩ (w_send (K := fun z w => zCalI l G Y_X9_send 0 0 [vr 30 0, vi (gs G ((nI (6 * n)) + 1).toNatClampNeg), vi (gs G ((nI (6 * n)) + 2).toNatClampNeg)] w.1 (fun y M2 => Good (A + 40) z M2 ∧ (z = 0 → w.2.1 = y.toInt64))) (P_send (f := (gs G ((nI (6 * n)) + 1).toNatClampNeg)) (p := (gs G ((nI (6 * n)) + 2).toNatClampNeg)) hl hI hA) (fun x M1 q => zCal_monoI q (fun y M2 g => ⟨g.2, fun _ => by rw [g.1]⟩)) (fun X M1 q => q.elim (fun q => .inl ⟨q.1, zCal_monoI q.2 (fun y M2 g => ⟨g, fun e => absurd e (by decide)⟩)⟩) (fun q => .inr ⟨q.1, zCal_monoI q.2 (fun y M2 g => ⟨g, fun e => absurd e (by decide)⟩)⟩))) (fun r w q => ?_)
  obtain ⟨z, rfl, hz⟩ := q
  refine L_istore (lv2 := [(6, vi z), (5, vi (nI (6 * n))), (0, vr 52 0), (1, vr 0 0), (2, vr 30 0), (3, vr 50 0), (4, vr 51 0)]) dL_law_1801 (by decide) rfl ?_
  refine L_aload_n dL_law_1803 rfl 4 rfl ?_
  refine L_aload_n dL_law_1804 rfl 2 rfl ?_
  refine L_iload dL_law_1805 1 rfl ?_
  refine L_iconst (v := 1) (by decide) dL_law_1807 ?_
  refine L_iadd dL_law_1808 ?_
  refine L_sld (l_in hb hL (by decide)) dL_law_1809 ?_
  refine L_aload_n dL_law_1810 rfl 2 rfl ?_
  refine L_iload dL_law_1811 1 rfl ?_
  refine L_iconst (v := 2) (by decide) dL_law_1813 ?_
  refine L_iadd dL_law_1814 ?_
  refine L_sld (l_in hb hL (by decide)) dL_law_1815 ?_
  refine L_callV (as := [vi (gs G ((nI (6 * n)) + 1).toNatClampNeg), vi (gs G ((nI (6 * n)) + 2).toNatClampNeg)]) (st := []) (mc' := 0) (ms' := 0) hE zcv_YL_law_227 rfl rfl rfl rfl (zle rfl) dL_law_1816 ⟨by omega, by omega⟩ hz (fun r M2 q => ?_)
  obtain ⟨y, rfl, hg, hv⟩ := q
  refine L_istore (lv2 := [(7, vi y), (6, vi z), (5, vi (nI (6 * n))), (0, vr 52 0), (1, vr 0 0), (2, vr 30 0), (3, vr 50 0), (4, vr 51 0)]) dL_law_1819 (by decide) rfl ?_
  refine L_aload_n dL_law_1821 rfl 5 rfl ?_
  refine L_callV (as := []) (st := []) (mc' := 0) (ms' := 0) hE zcv_YL_law_132 rfl rfl rfl rfl (zle rfl) dL_law_1822 ⟨by omega, by omega⟩ (zm_X9_thrown (Kf := fun t M3 => t = z ∧ M3 = M2) ⟨hg.1, rfl⟩) (fun r M3 q => ?_)
  obtain ⟨t, rfl, ht, hM⟩ := q
  rw [hM]
  refine L_iload dL_law_1825 1 rfl ?_
  refine L_icmp_eq (tgt := 1832) dL_law_1827 (by decide) (fun _ => ?_) (fun q9 => absurd ht q9)
  refine L_iload dL_law_1832 1 rfl ?_
  have fin : lAt l G YL_law E 1849 [(7, vi y), (6, vi z), (5, vi (nI (6 * n))), (0, vr 52 0), (1, vr 0 0), (2, vr 30 0), (3, vr 50 0), (4, vr 51 0)] [] (M2, w.2) (c + 2 + 0 + 0) (k + 12 + 0 + 0) := by
    refine L_pick [2, 3, 4, 5, 6, 7] (lv2 := lLV n) rfl ?_
    refine L_goto (tgt := 2335) dL_law_1849 (by decide) ?_
    exact kk _ _ _ (hg.mono (by omega)).2 (by omega) (by omega)
  refine L_if_ne (tgt := 1849) dL_law_1834 (by decide) (fun _ => fin) (fun z0 => ?_)
  refine L_aload_n dL_law_1837 rfl 6 rfl ?_
  refine L_iconst (v := 0) (by decide) dL_law_1838 ?_
  refine L_laldE (hv z0) dL_law_1839 ?_
  refine L_iload dL_law_1840 0 rfl ?_
  refine L_i2l dL_law_1842 ?_
  refine L_lcmp dL_law_1843 ?_
  exact L_if_eq (tgt := 1849) dL_law_1844 (by decide) (fun _ => fin) (fun q9 => absurd (l_cmp0 _) q9)
theorem lc_setLimits (hE : zRm YL_law E.1) (hl : l.stackTraces = false) (hb : 6 * n + 6 ≤ gn G) (hL : gn G ≤ 3072) (hI : Inv M.1 A) (hA : A ≤ 299000000) (hc : c + 753 ≤ E.1.cells ∧ k + 5020 ≤ E.1.slots) (kk : ∀ (w1 : lW) (c1 k1 : Nat), Inv w1.1 (A + 108000) → c1 ≤ c + 753 → k1 ≤ k + 5020 → lAt l G YL_law E 2335 (lLV n) [] w1 c1 k1) : lAt l G YL_law E 1852 (lLV n) [] M c k := by
  refine L_aload_n dL_law_1852 rfl 2 rfl ?_
  refine L_aload_n dL_law_1853 rfl 1 rfl ?_
  refine L_iload dL_law_1854 0 rfl ?_
  refine L_iconst (v := 1) (by decide) dL_law_1856 ?_
  refine L_iadd dL_law_1857 ?_
  refine L_sld (l_in hb hL (by decide)) dL_law_1858 ?_
  refine L_aload_n dL_law_1859 rfl 1 rfl ?_
  refine L_iload dL_law_1860 0 rfl ?_
  refine L_iconst (v := 2) (by decide) dL_law_1862 ?_
  refine L_iadd dL_law_1863 ?_
  refine L_sld (l_in hb hL (by decide)) dL_law_1864 ?_
  refine L_aload_n dL_law_1865 rfl 4 rfl ?_
  refine L_callS (as := [vr 0 0, vi (gs G ((nI (6 * n)) + 1).toNatClampNeg), vi (gs G ((nI (6 * n)) + 2).toNatClampNeg), vr 50 0]) (st := []) (mc' := 2) (ms' := 12) hE zls_law_setLimits rfl rfl (zle rfl) dL_law_1866 ⟨by omega, by omega⟩ (w_setLimits (K := fun z w => zCalI l G Y_X9_setLimits 0 0 [vr 30 0, vi (gs G ((nI (6 * n)) + 1).toNatClampNeg), vi (gs G ((nI (6 * n)) + 2).toNatClampNeg)] w.1 (fun y M2 => Good (A) z M2 ∧ (z = 0 → w.2.1 = y.toInt64))) (P_setLimits (p := (gs G ((nI (6 * n)) + 1).toNatClampNeg)) (q := (gs G ((nI (6 * n)) + 2).toNatClampNeg)) hl hI) (fun x M1 q => zCal_monoI q (fun y M2 g => ⟨g.2, fun _ => by rw [g.1]⟩)) (fun X M1 q => ⟨q.1, zCal_monoI q.2 (fun y M2 g => ⟨g, fun e => absurd e (by decide)⟩)⟩)) (fun r w q => ?_)
  obtain ⟨z, rfl, hz⟩ := q
  refine L_istore (lv2 := [(6, vi z), (5, vi (nI (6 * n))), (0, vr 52 0), (1, vr 0 0), (2, vr 30 0), (3, vr 50 0), (4, vr 51 0)]) dL_law_1869 (by decide) rfl ?_
  refine L_aload_n dL_law_1871 rfl 4 rfl ?_
  refine L_aload_n dL_law_1872 rfl 2 rfl ?_
  refine L_iload dL_law_1873 1 rfl ?_
  refine L_iconst (v := 1) (by decide) dL_law_1875 ?_
  refine L_iadd dL_law_1876 ?_
  refine L_sld (l_in hb hL (by decide)) dL_law_1877 ?_
  refine L_aload_n dL_law_1878 rfl 2 rfl ?_
  refine L_iload dL_law_1879 1 rfl ?_
  refine L_iconst (v := 2) (by decide) dL_law_1881 ?_
  refine L_iadd dL_law_1882 ?_
  refine L_sld (l_in hb hL (by decide)) dL_law_1883 ?_
  refine L_callV (as := [vi (gs G ((nI (6 * n)) + 1).toNatClampNeg), vi (gs G ((nI (6 * n)) + 2).toNatClampNeg)]) (st := []) (mc' := 0) (ms' := 0) hE zcv_YL_law_230 rfl rfl rfl rfl (zle rfl) dL_law_1884 ⟨by omega, by omega⟩ hz (fun r M2 q => ?_)
  obtain ⟨y, rfl, hg, hv⟩ := q
  refine L_istore (lv2 := [(7, vi y), (6, vi z), (5, vi (nI (6 * n))), (0, vr 52 0), (1, vr 0 0), (2, vr 30 0), (3, vr 50 0), (4, vr 51 0)]) dL_law_1887 (by decide) rfl ?_
  refine L_aload_n dL_law_1889 rfl 5 rfl ?_
  refine L_callV (as := []) (st := []) (mc' := 0) (ms' := 0) hE zcv_YL_law_132 rfl rfl rfl rfl (zle rfl) dL_law_1890 ⟨by omega, by omega⟩ (zm_X9_thrown (Kf := fun t M3 => t = z ∧ M3 = M2) ⟨hg.1, rfl⟩) (fun r M3 q => ?_)
  obtain ⟨t, rfl, ht, hM⟩ := q
  rw [hM]
  refine L_iload dL_law_1893 1 rfl ?_
  refine L_icmp_eq (tgt := 1900) dL_law_1895 (by decide) (fun _ => ?_) (fun q9 => absurd ht q9)
  refine L_iload dL_law_1900 1 rfl ?_
  have fin : lAt l G YL_law E 1917 [(7, vi y), (6, vi z), (5, vi (nI (6 * n))), (0, vr 52 0), (1, vr 0 0), (2, vr 30 0), (3, vr 50 0), (4, vr 51 0)] [] (M2, w.2) (c + 2 + 0 + 0) (k + 12 + 0 + 0) := by
    refine L_pick [2, 3, 4, 5, 6, 7] (lv2 := lLV n) rfl ?_
    refine L_goto (tgt := 2335) dL_law_1917 (by decide) ?_
    exact kk _ _ _ (hg.mono (by omega)).2 (by omega) (by omega)
  refine L_if_ne (tgt := 1917) dL_law_1902 (by decide) (fun _ => fin) (fun z0 => ?_)
  refine L_aload_n dL_law_1905 rfl 6 rfl ?_
  refine L_iconst (v := 0) (by decide) dL_law_1906 ?_
  refine L_laldE (hv z0) dL_law_1907 ?_
  refine L_iload dL_law_1908 0 rfl ?_
  refine L_i2l dL_law_1910 ?_
  refine L_lcmp dL_law_1911 ?_
  exact L_if_eq (tgt := 1917) dL_law_1912 (by decide) (fun _ => fin) (fun q9 => absurd (l_cmp0 _) q9)
theorem lc_setTop (hE : zRm YL_law E.1) (hl : l.stackTraces = false) (hb : 6 * n + 6 ≤ gn G) (hL : gn G ≤ 3072) (hI : Inv M.1 A) (hA : A ≤ 299000000) (hc : c + 753 ≤ E.1.cells ∧ k + 5020 ≤ E.1.slots) (kk : ∀ (w1 : lW) (c1 k1 : Nat), Inv w1.1 (A + 108000) → c1 ≤ c + 753 → k1 ≤ k + 5020 → lAt l G YL_law E 2335 (lLV n) [] w1 c1 k1) : lAt l G YL_law E 1920 (lLV n) [] M c k := by
  refine L_aload_n dL_law_1920 rfl 2 rfl ?_
  refine L_aload_n dL_law_1921 rfl 1 rfl ?_
  refine L_iload dL_law_1922 0 rfl ?_
  refine L_iconst (v := 1) (by decide) dL_law_1924 ?_
  refine L_iadd dL_law_1925 ?_
  refine L_sld (l_in hb hL (by decide)) dL_law_1926 ?_
  refine L_aload_n dL_law_1927 rfl 4 rfl ?_
  refine L_callS (as := [vr 0 0, vi (gs G ((nI (6 * n)) + 1).toNatClampNeg), vr 50 0]) (st := []) (mc' := 1) (ms' := 6) hE zls_law_setTop rfl rfl (zle rfl) dL_law_1928 ⟨by omega, by omega⟩ (w_setTop (K := fun z w => zCalI l G Y_X9_setTop 0 0 [vr 30 0, vi (gs G ((nI (6 * n)) + 1).toNatClampNeg)] w.1 (fun y M2 => Good (A) z M2 ∧ (z = 0 → w.2.1 = y.toInt64))) (P_setTop (p := (gs G ((nI (6 * n)) + 1).toNatClampNeg)) hl hI) (fun x M1 q => zCal_monoI q (fun y M2 g => ⟨g.2, fun _ => by rw [g.1]⟩)) (fun X M1 q => ⟨q.1, zCal_monoI q.2 (fun y M2 g => ⟨g, fun e => absurd e (by decide)⟩)⟩)) (fun r w q => ?_)
  obtain ⟨z, rfl, hz⟩ := q
  refine L_istore (lv2 := [(6, vi z), (5, vi (nI (6 * n))), (0, vr 52 0), (1, vr 0 0), (2, vr 30 0), (3, vr 50 0), (4, vr 51 0)]) dL_law_1931 (by decide) rfl ?_
  refine L_aload_n dL_law_1933 rfl 4 rfl ?_
  refine L_aload_n dL_law_1934 rfl 2 rfl ?_
  refine L_iload dL_law_1935 1 rfl ?_
  refine L_iconst (v := 1) (by decide) dL_law_1937 ?_
  refine L_iadd dL_law_1938 ?_
  refine L_sld (l_in hb hL (by decide)) dL_law_1939 ?_
  refine L_callV (as := [vi (gs G ((nI (6 * n)) + 1).toNatClampNeg)]) (st := []) (mc' := 0) (ms' := 0) hE zcv_YL_law_233 rfl rfl rfl rfl (zle rfl) dL_law_1940 ⟨by omega, by omega⟩ hz (fun r M2 q => ?_)
  obtain ⟨y, rfl, hg, hv⟩ := q
  refine L_istore (lv2 := [(7, vi y), (6, vi z), (5, vi (nI (6 * n))), (0, vr 52 0), (1, vr 0 0), (2, vr 30 0), (3, vr 50 0), (4, vr 51 0)]) dL_law_1943 (by decide) rfl ?_
  refine L_aload_n dL_law_1945 rfl 5 rfl ?_
  refine L_callV (as := []) (st := []) (mc' := 0) (ms' := 0) hE zcv_YL_law_132 rfl rfl rfl rfl (zle rfl) dL_law_1946 ⟨by omega, by omega⟩ (zm_X9_thrown (Kf := fun t M3 => t = z ∧ M3 = M2) ⟨hg.1, rfl⟩) (fun r M3 q => ?_)
  obtain ⟨t, rfl, ht, hM⟩ := q
  rw [hM]
  refine L_iload dL_law_1949 1 rfl ?_
  refine L_icmp_eq (tgt := 1956) dL_law_1951 (by decide) (fun _ => ?_) (fun q9 => absurd ht q9)
  refine L_iload dL_law_1956 1 rfl ?_
  have fin : lAt l G YL_law E 1973 [(7, vi y), (6, vi z), (5, vi (nI (6 * n))), (0, vr 52 0), (1, vr 0 0), (2, vr 30 0), (3, vr 50 0), (4, vr 51 0)] [] (M2, w.2) (c + 1 + 0 + 0) (k + 6 + 0 + 0) := by
    refine L_pick [2, 3, 4, 5, 6, 7] (lv2 := lLV n) rfl ?_
    refine L_goto (tgt := 2335) dL_law_1973 (by decide) ?_
    exact kk _ _ _ (hg.mono (by omega)).2 (by omega) (by omega)
  refine L_if_ne (tgt := 1973) dL_law_1958 (by decide) (fun _ => fin) (fun z0 => ?_)
  refine L_aload_n dL_law_1961 rfl 6 rfl ?_
  refine L_iconst (v := 0) (by decide) dL_law_1962 ?_
  refine L_laldE (hv z0) dL_law_1963 ?_
  refine L_iload dL_law_1964 0 rfl ?_
  refine L_i2l dL_law_1966 ?_
  refine L_lcmp dL_law_1967 ?_
  exact L_if_eq (tgt := 1973) dL_law_1968 (by decide) (fun _ => fin) (fun q9 => absurd (l_cmp0 _) q9)
theorem lc_setWeight (hE : zRm YL_law E.1) (hl : l.stackTraces = false) (hb : 6 * n + 6 ≤ gn G) (hL : gn G ≤ 3072) (hI : Inv M.1 A) (hA : A ≤ 299000000) (hc : c + 753 ≤ E.1.cells ∧ k + 5020 ≤ E.1.slots) (kk : ∀ (w1 : lW) (c1 k1 : Nat), Inv w1.1 (A + 108000) → c1 ≤ c + 753 → k1 ≤ k + 5020 → lAt l G YL_law E 2335 (lLV n) [] w1 c1 k1) : lAt l G YL_law E 1976 (lLV n) [] M c k := by
  refine L_aload_n dL_law_1976 rfl 2 rfl ?_
  refine L_aload_n dL_law_1977 rfl 1 rfl ?_
  refine L_iload dL_law_1978 0 rfl ?_
  refine L_iconst (v := 1) (by decide) dL_law_1980 ?_
  refine L_iadd dL_law_1981 ?_
  refine L_sld (l_in hb hL (by decide)) dL_law_1982 ?_
  refine L_aload_n dL_law_1983 rfl 4 rfl ?_
  refine L_callS (as := [vr 0 0, vi (gs G ((nI (6 * n)) + 1).toNatClampNeg), vr 50 0]) (st := []) (mc' := 1) (ms' := 6) hE zls_law_setWeight rfl rfl (zle rfl) dL_law_1984 ⟨by omega, by omega⟩ (w_setWeight (K := fun z w => zCalI l G Y_X9_setWeight 0 0 [vr 30 0, vi (gs G ((nI (6 * n)) + 1).toNatClampNeg)] w.1 (fun y M2 => Good (A) z M2 ∧ (z = 0 → w.2.1 = y.toInt64))) (P_setWeight (p := (gs G ((nI (6 * n)) + 1).toNatClampNeg)) hl hI) (fun x M1 q => zCal_monoI q (fun y M2 g => ⟨g.2, fun _ => by rw [g.1]⟩)) (fun X M1 q => ⟨q.1, zCal_monoI q.2 (fun y M2 g => ⟨g, fun e => absurd e (by decide)⟩)⟩)) (fun r w q => ?_)
  obtain ⟨z, rfl, hz⟩ := q
  refine L_istore (lv2 := [(6, vi z), (5, vi (nI (6 * n))), (0, vr 52 0), (1, vr 0 0), (2, vr 30 0), (3, vr 50 0), (4, vr 51 0)]) dL_law_1987 (by decide) rfl ?_
  refine L_aload_n dL_law_1989 rfl 4 rfl ?_
  refine L_aload_n dL_law_1990 rfl 2 rfl ?_
  refine L_iload dL_law_1991 1 rfl ?_
  refine L_iconst (v := 1) (by decide) dL_law_1993 ?_
  refine L_iadd dL_law_1994 ?_
  refine L_sld (l_in hb hL (by decide)) dL_law_1995 ?_
  refine L_callV (as := [vi (gs G ((nI (6 * n)) + 1).toNatClampNeg)]) (st := []) (mc' := 0) (ms' := 0) hE zcv_YL_law_236 rfl rfl rfl rfl (zle rfl) dL_law_1996 ⟨by omega, by omega⟩ hz (fun r M2 q => ?_)
  obtain ⟨y, rfl, hg, hv⟩ := q
  refine L_istore (lv2 := [(7, vi y), (6, vi z), (5, vi (nI (6 * n))), (0, vr 52 0), (1, vr 0 0), (2, vr 30 0), (3, vr 50 0), (4, vr 51 0)]) dL_law_1999 (by decide) rfl ?_
  refine L_aload_n dL_law_2001 rfl 5 rfl ?_
  refine L_callV (as := []) (st := []) (mc' := 0) (ms' := 0) hE zcv_YL_law_132 rfl rfl rfl rfl (zle rfl) dL_law_2002 ⟨by omega, by omega⟩ (zm_X9_thrown (Kf := fun t M3 => t = z ∧ M3 = M2) ⟨hg.1, rfl⟩) (fun r M3 q => ?_)
  obtain ⟨t, rfl, ht, hM⟩ := q
  rw [hM]
  refine L_iload dL_law_2005 1 rfl ?_
  refine L_icmp_eq (tgt := 2012) dL_law_2007 (by decide) (fun _ => ?_) (fun q9 => absurd ht q9)
  refine L_iload dL_law_2012 1 rfl ?_
  have fin : lAt l G YL_law E 2029 [(7, vi y), (6, vi z), (5, vi (nI (6 * n))), (0, vr 52 0), (1, vr 0 0), (2, vr 30 0), (3, vr 50 0), (4, vr 51 0)] [] (M2, w.2) (c + 1 + 0 + 0) (k + 6 + 0 + 0) := by
    refine L_pick [2, 3, 4, 5, 6, 7] (lv2 := lLV n) rfl ?_
    refine L_goto (tgt := 2335) dL_law_2029 (by decide) ?_
    exact kk _ _ _ (hg.mono (by omega)).2 (by omega) (by omega)
  refine L_if_ne (tgt := 2029) dL_law_2014 (by decide) (fun _ => fin) (fun z0 => ?_)
  refine L_aload_n dL_law_2017 rfl 6 rfl ?_
  refine L_iconst (v := 0) (by decide) dL_law_2018 ?_
  refine L_laldE (hv z0) dL_law_2019 ?_
  refine L_iload dL_law_2020 0 rfl ?_
  refine L_i2l dL_law_2022 ?_
  refine L_lcmp dL_law_2023 ?_
  exact L_if_eq (tgt := 2029) dL_law_2024 (by decide) (fun _ => fin) (fun q9 => absurd (l_cmp0 _) q9)
theorem lc_setGentle (hE : zRm YL_law E.1) (hl : l.stackTraces = false) (hb : 6 * n + 6 ≤ gn G) (hL : gn G ≤ 3072) (hI : Inv M.1 A) (hA : A ≤ 299000000) (hc : c + 753 ≤ E.1.cells ∧ k + 5020 ≤ E.1.slots) (kk : ∀ (w1 : lW) (c1 k1 : Nat), Inv w1.1 (A + 108000) → c1 ≤ c + 753 → k1 ≤ k + 5020 → lAt l G YL_law E 2335 (lLV n) [] w1 c1 k1) : lAt l G YL_law E 2032 (lLV n) [] M c k := by
  refine L_aload_n dL_law_2032 rfl 2 rfl ?_
  refine L_aload_n dL_law_2033 rfl 1 rfl ?_
  refine L_iload dL_law_2034 0 rfl ?_
  refine L_iconst (v := 1) (by decide) dL_law_2036 ?_
  refine L_iadd dL_law_2037 ?_
  refine L_sld (l_in hb hL (by decide)) dL_law_2038 ?_
  refine L_aload_n dL_law_2039 rfl 4 rfl ?_
  refine L_callS (as := [vr 0 0, vi (gs G ((nI (6 * n)) + 1).toNatClampNeg), vr 50 0]) (st := []) (mc' := 1) (ms' := 6) hE zls_law_setGentle rfl rfl (zle rfl) dL_law_2040 ⟨by omega, by omega⟩ (w_setGentle (K := fun z w => zCalI l G Y_X9_setGentle 0 0 [vr 30 0, vi (gs G ((nI (6 * n)) + 1).toNatClampNeg)] w.1 (fun y M2 => Good (A) z M2 ∧ (z = 0 → w.2.1 = y.toInt64))) (P_setGentle (p := (gs G ((nI (6 * n)) + 1).toNatClampNeg)) hl hI) (fun x M1 q => zCal_monoI q (fun y M2 g => ⟨g.2, fun _ => by rw [g.1]⟩)) (fun X M1 q => ⟨q.1, zCal_monoI q.2 (fun y M2 g => ⟨g, fun e => absurd e (by decide)⟩)⟩)) (fun r w q => ?_)
  obtain ⟨z, rfl, hz⟩ := q
  refine L_istore (lv2 := [(6, vi z), (5, vi (nI (6 * n))), (0, vr 52 0), (1, vr 0 0), (2, vr 30 0), (3, vr 50 0), (4, vr 51 0)]) dL_law_2043 (by decide) rfl ?_
  refine L_aload_n dL_law_2045 rfl 4 rfl ?_
  refine L_aload_n dL_law_2046 rfl 2 rfl ?_
  refine L_iload dL_law_2047 1 rfl ?_
  refine L_iconst (v := 1) (by decide) dL_law_2049 ?_
  refine L_iadd dL_law_2050 ?_
  refine L_sld (l_in hb hL (by decide)) dL_law_2051 ?_
  refine L_callV (as := [vi (gs G ((nI (6 * n)) + 1).toNatClampNeg)]) (st := []) (mc' := 0) (ms' := 0) hE zcv_YL_law_239 rfl rfl rfl rfl (zle rfl) dL_law_2052 ⟨by omega, by omega⟩ hz (fun r M2 q => ?_)
  obtain ⟨y, rfl, hg, hv⟩ := q
  refine L_istore (lv2 := [(7, vi y), (6, vi z), (5, vi (nI (6 * n))), (0, vr 52 0), (1, vr 0 0), (2, vr 30 0), (3, vr 50 0), (4, vr 51 0)]) dL_law_2055 (by decide) rfl ?_
  refine L_aload_n dL_law_2057 rfl 5 rfl ?_
  refine L_callV (as := []) (st := []) (mc' := 0) (ms' := 0) hE zcv_YL_law_132 rfl rfl rfl rfl (zle rfl) dL_law_2058 ⟨by omega, by omega⟩ (zm_X9_thrown (Kf := fun t M3 => t = z ∧ M3 = M2) ⟨hg.1, rfl⟩) (fun r M3 q => ?_)
  obtain ⟨t, rfl, ht, hM⟩ := q
  rw [hM]
  refine L_iload dL_law_2061 1 rfl ?_
  refine L_icmp_eq (tgt := 2068) dL_law_2063 (by decide) (fun _ => ?_) (fun q9 => absurd ht q9)
  refine L_iload dL_law_2068 1 rfl ?_
  have fin : lAt l G YL_law E 2085 [(7, vi y), (6, vi z), (5, vi (nI (6 * n))), (0, vr 52 0), (1, vr 0 0), (2, vr 30 0), (3, vr 50 0), (4, vr 51 0)] [] (M2, w.2) (c + 1 + 0 + 0) (k + 6 + 0 + 0) := by
    refine L_pick [2, 3, 4, 5, 6, 7] (lv2 := lLV n) rfl ?_
    refine L_goto (tgt := 2335) dL_law_2085 (by decide) ?_
    exact kk _ _ _ (hg.mono (by omega)).2 (by omega) (by omega)
  refine L_if_ne (tgt := 2085) dL_law_2070 (by decide) (fun _ => fin) (fun z0 => ?_)
  refine L_aload_n dL_law_2073 rfl 6 rfl ?_
  refine L_iconst (v := 0) (by decide) dL_law_2074 ?_
  refine L_laldE (hv z0) dL_law_2075 ?_
  refine L_iload dL_law_2076 0 rfl ?_
  refine L_i2l dL_law_2078 ?_
  refine L_lcmp dL_law_2079 ?_
  exact L_if_eq (tgt := 2085) dL_law_2080 (by decide) (fun _ => fin) (fun q9 => absurd (l_cmp0 _) q9)
theorem lc_setOn (hE : zRm YL_law E.1) (hl : l.stackTraces = false) (hb : 6 * n + 6 ≤ gn G) (hL : gn G ≤ 3072) (hI : Inv M.1 A) (hA : A ≤ 299000000) (hc : c + 753 ≤ E.1.cells ∧ k + 5020 ≤ E.1.slots) (kk : ∀ (w1 : lW) (c1 k1 : Nat), Inv w1.1 (A + 108000) → c1 ≤ c + 753 → k1 ≤ k + 5020 → lAt l G YL_law E 2335 (lLV n) [] w1 c1 k1) : lAt l G YL_law E 2088 (lLV n) [] M c k := by
  by_cases e2 : gs G ((nI (6 * n)) + 2).toNatClampNeg = 0
  · refine L_aload_n dL_law_2088 rfl 2 rfl ?_
    refine L_aload_n dL_law_2089 rfl 1 rfl ?_
    refine L_iload dL_law_2090 0 rfl ?_
    refine L_iconst (v := 1) (by decide) dL_law_2092 ?_
    refine L_iadd dL_law_2093 ?_
    refine L_sld (l_in hb hL (by decide)) dL_law_2094 ?_
    refine L_aload_n dL_law_2095 rfl 1 rfl ?_
    refine L_iload dL_law_2096 0 rfl ?_
    refine L_iconst (v := 2) (by decide) dL_law_2098 ?_
    refine L_iadd dL_law_2099 ?_
    refine L_sld (l_in hb hL (by decide)) dL_law_2100 ?_
    refine L_if_eq (tgt := 2108) dL_law_2101 (by decide) (fun _ => ?_) (fun q9 => absurd e2 q9)
    refine L_iconst (v := 0) (by decide) dL_law_2108 ?_
    refine L_aload_n dL_law_2109 rfl 4 rfl ?_
    refine L_callS (as := [vr 0 0, vi (gs G ((nI (6 * n)) + 1).toNatClampNeg), vi 0, vr 50 0]) (st := []) (mc' := 1) (ms' := 6) hE zls_law_setOn rfl rfl (zle rfl) dL_law_2110 ⟨by omega, by omega⟩ (w_setOn (K := fun z w => zCalI l G Y_X9_setOn 0 0 [vr 30 0, vi (gs G ((nI (6 * n)) + 1).toNatClampNeg), vi 0] w.1 (fun y M2 => Good (A) z M2 ∧ (z = 0 → w.2.1 = y.toInt64))) (P_setOn (f := (gs G ((nI (6 * n)) + 1).toNatClampNeg)) (p := 0) hl (by decide) hI) (fun x M1 q => zCal_monoI q (fun y M2 g => ⟨g.2, fun _ => by rw [g.1]⟩)) (fun X M1 q => ⟨q.1, zCal_monoI q.2 (fun y M2 g => ⟨g, fun e => absurd e (by decide)⟩)⟩)) (fun r w q => ?_)
    obtain ⟨z, rfl, hz⟩ := q
    refine L_istore (lv2 := [(6, vi z), (5, vi (nI (6 * n))), (0, vr 52 0), (1, vr 0 0), (2, vr 30 0), (3, vr 50 0), (4, vr 51 0)]) dL_law_2113 (by decide) rfl ?_
    refine L_aload_n dL_law_2115 rfl 4 rfl ?_
    refine L_aload_n dL_law_2116 rfl 2 rfl ?_
    refine L_iload dL_law_2117 1 rfl ?_
    refine L_iconst (v := 1) (by decide) dL_law_2119 ?_
    refine L_iadd dL_law_2120 ?_
    refine L_sld (l_in hb hL (by decide)) dL_law_2121 ?_
    refine L_aload_n dL_law_2122 rfl 2 rfl ?_
    refine L_iload dL_law_2123 1 rfl ?_
    refine L_iconst (v := 2) (by decide) dL_law_2125 ?_
    refine L_iadd dL_law_2126 ?_
    refine L_sld (l_in hb hL (by decide)) dL_law_2127 ?_
    refine L_if_eq (tgt := 2135) dL_law_2128 (by decide) (fun _ => ?_) (fun q9 => absurd e2 q9)
    refine L_iconst (v := 0) (by decide) dL_law_2135 ?_
    refine L_callV (as := [vi (gs G ((nI (6 * n)) + 1).toNatClampNeg), vi 0]) (st := []) (mc' := 0) (ms' := 0) hE zcv_YL_law_243 rfl rfl rfl rfl (zle rfl) dL_law_2136 ⟨by omega, by omega⟩ hz (fun r M2 q => ?_)
    obtain ⟨y, rfl, hg, hv⟩ := q
    refine L_istore (lv2 := [(7, vi y), (6, vi z), (5, vi (nI (6 * n))), (0, vr 52 0), (1, vr 0 0), (2, vr 30 0), (3, vr 50 0), (4, vr 51 0)]) dL_law_2139 (by decide) rfl ?_
    refine L_aload_n dL_law_2141 rfl 5 rfl ?_
    refine L_callV (as := []) (st := []) (mc' := 0) (ms' := 0) hE zcv_YL_law_132 rfl rfl rfl rfl (zle rfl) dL_law_2142 ⟨by omega, by omega⟩ (zm_X9_thrown (Kf := fun t M3 => t = z ∧ M3 = M2) ⟨hg.1, rfl⟩) (fun r M3 q => ?_)
    obtain ⟨t, rfl, ht, hM⟩ := q
    rw [hM]
    refine L_iload dL_law_2145 1 rfl ?_
    refine L_icmp_eq (tgt := 2152) dL_law_2147 (by decide) (fun _ => ?_) (fun q9 => absurd ht q9)
    refine L_iload dL_law_2152 1 rfl ?_
    have fin : lAt l G YL_law E 2169 [(7, vi y), (6, vi z), (5, vi (nI (6 * n))), (0, vr 52 0), (1, vr 0 0), (2, vr 30 0), (3, vr 50 0), (4, vr 51 0)] [] (M2, w.2) (c + 1 + 0 + 0) (k + 6 + 0 + 0) := by
      refine L_pick [2, 3, 4, 5, 6, 7] (lv2 := lLV n) rfl ?_
      refine L_goto (tgt := 2335) dL_law_2169 (by decide) ?_
      exact kk _ _ _ (hg.mono (by omega)).2 (by omega) (by omega)
    refine L_if_ne (tgt := 2169) dL_law_2154 (by decide) (fun _ => fin) (fun z0 => ?_)
    refine L_aload_n dL_law_2157 rfl 6 rfl ?_
    refine L_iconst (v := 0) (by decide) dL_law_2158 ?_
    refine L_laldE (hv z0) dL_law_2159 ?_
    refine L_iload dL_law_2160 0 rfl ?_
    refine L_i2l dL_law_2162 ?_
    refine L_lcmp dL_law_2163 ?_
    exact L_if_eq (tgt := 2169) dL_law_2164 (by decide) (fun _ => fin) (fun q9 => absurd (l_cmp0 _) q9)
  · refine L_aload_n dL_law_2088 rfl 2 rfl ?_
    refine L_aload_n dL_law_2089 rfl 1 rfl ?_
    refine L_iload dL_law_2090 0 rfl ?_
    refine L_iconst (v := 1) (by decide) dL_law_2092 ?_
    refine L_iadd dL_law_2093 ?_
    refine L_sld (l_in hb hL (by decide)) dL_law_2094 ?_
    refine L_aload_n dL_law_2095 rfl 1 rfl ?_
    refine L_iload dL_law_2096 0 rfl ?_
    refine L_iconst (v := 2) (by decide) dL_law_2098 ?_
    refine L_iadd dL_law_2099 ?_
    refine L_sld (l_in hb hL (by decide)) dL_law_2100 ?_
    refine L_if_eq (tgt := 2108) dL_law_2101 (by decide) (fun q9 => absurd q9 e2) (fun _ => ?_)
    refine L_iconst (v := 1) (by decide) dL_law_2104 ?_
    refine L_goto (tgt := 2109) dL_law_2105 (by decide) ?_
    refine L_aload_n dL_law_2109 rfl 4 rfl ?_
    refine L_callS (as := [vr 0 0, vi (gs G ((nI (6 * n)) + 1).toNatClampNeg), vi 1, vr 50 0]) (st := []) (mc' := 1) (ms' := 6) hE zls_law_setOn rfl rfl (zle rfl) dL_law_2110 ⟨by omega, by omega⟩ (w_setOn (K := fun z w => zCalI l G Y_X9_setOn 0 0 [vr 30 0, vi (gs G ((nI (6 * n)) + 1).toNatClampNeg), vi 1] w.1 (fun y M2 => Good (A) z M2 ∧ (z = 0 → w.2.1 = y.toInt64))) (P_setOn (f := (gs G ((nI (6 * n)) + 1).toNatClampNeg)) (p := 1) hl (by decide) hI) (fun x M1 q => zCal_monoI q (fun y M2 g => ⟨g.2, fun _ => by rw [g.1]⟩)) (fun X M1 q => ⟨q.1, zCal_monoI q.2 (fun y M2 g => ⟨g, fun e => absurd e (by decide)⟩)⟩)) (fun r w q => ?_)
    obtain ⟨z, rfl, hz⟩ := q
    refine L_istore (lv2 := [(6, vi z), (5, vi (nI (6 * n))), (0, vr 52 0), (1, vr 0 0), (2, vr 30 0), (3, vr 50 0), (4, vr 51 0)]) dL_law_2113 (by decide) rfl ?_
    refine L_aload_n dL_law_2115 rfl 4 rfl ?_
    refine L_aload_n dL_law_2116 rfl 2 rfl ?_
    refine L_iload dL_law_2117 1 rfl ?_
    refine L_iconst (v := 1) (by decide) dL_law_2119 ?_
    refine L_iadd dL_law_2120 ?_
    refine L_sld (l_in hb hL (by decide)) dL_law_2121 ?_
    refine L_aload_n dL_law_2122 rfl 2 rfl ?_
    refine L_iload dL_law_2123 1 rfl ?_
    refine L_iconst (v := 2) (by decide) dL_law_2125 ?_
    refine L_iadd dL_law_2126 ?_
    refine L_sld (l_in hb hL (by decide)) dL_law_2127 ?_
    refine L_if_eq (tgt := 2135) dL_law_2128 (by decide) (fun q9 => absurd q9 e2) (fun _ => ?_)
    refine L_iconst (v := 1) (by decide) dL_law_2131 ?_
    refine L_goto (tgt := 2136) dL_law_2132 (by decide) ?_
    refine L_callV (as := [vi (gs G ((nI (6 * n)) + 1).toNatClampNeg), vi 1]) (st := []) (mc' := 0) (ms' := 0) hE zcv_YL_law_243 rfl rfl rfl rfl (zle rfl) dL_law_2136 ⟨by omega, by omega⟩ hz (fun r M2 q => ?_)
    obtain ⟨y, rfl, hg, hv⟩ := q
    refine L_istore (lv2 := [(7, vi y), (6, vi z), (5, vi (nI (6 * n))), (0, vr 52 0), (1, vr 0 0), (2, vr 30 0), (3, vr 50 0), (4, vr 51 0)]) dL_law_2139 (by decide) rfl ?_
    refine L_aload_n dL_law_2141 rfl 5 rfl ?_
    refine L_callV (as := []) (st := []) (mc' := 0) (ms' := 0) hE zcv_YL_law_132 rfl rfl rfl rfl (zle rfl) dL_law_2142 ⟨by omega, by omega⟩ (zm_X9_thrown (Kf := fun t M3 => t = z ∧ M3 = M2) ⟨hg.1, rfl⟩) (fun r M3 q => ?_)
    obtain ⟨t, rfl, ht, hM⟩ := q
    rw [hM]
    refine L_iload dL_law_2145 1 rfl ?_
    refine L_icmp_eq (tgt := 2152) dL_law_2147 (by decide) (fun _ => ?_) (fun q9 => absurd ht q9)
    refine L_iload dL_law_2152 1 rfl ?_
    have fin : lAt l G YL_law E 2169 [(7, vi y), (6, vi z), (5, vi (nI (6 * n))), (0, vr 52 0), (1, vr 0 0), (2, vr 30 0), (3, vr 50 0), (4, vr 51 0)] [] (M2, w.2) (c + 1 + 0 + 0) (k + 6 + 0 + 0) := by
      refine L_pick [2, 3, 4, 5, 6, 7] (lv2 := lLV n) rfl ?_
      refine L_goto (tgt := 2335) dL_law_2169 (by decide) ?_
      exact kk _ _ _ (hg.mono (by omega)).2 (by omega) (by omega)
    refine L_if_ne (tgt := 2169) dL_law_2154 (by decide) (fun _ => fin) (fun z0 => ?_)
    refine L_aload_n dL_law_2157 rfl 6 rfl ?_
    refine L_iconst (v := 0) (by decide) dL_law_2158 ?_
    refine L_laldE (hv z0) dL_law_2159 ?_
    refine L_iload dL_law_2160 0 rfl ?_
    refine L_i2l dL_law_2162 ?_
    refine L_lcmp dL_law_2163 ?_
    exact L_if_eq (tgt := 2169) dL_law_2164 (by decide) (fun _ => fin) (fun q9 => absurd (l_cmp0 _) q9)
theorem lc_report (hE : zRm YL_law E.1) (hl : l.stackTraces = false) (hb : 6 * n + 6 ≤ gn G) (hL : gn G ≤ 3072) (hI : Inv M.1 A) (hA : A ≤ 299000000) (hc : c + 753 ≤ E.1.cells ∧ k + 5020 ≤ E.1.slots) (kk : ∀ (w1 : lW) (c1 k1 : Nat), Inv w1.1 (A + 108000) → c1 ≤ c + 753 → k1 ≤ k + 5020 → lAt l G YL_law E 2335 (lLV n) [] w1 c1 k1) : lAt l G YL_law E 2172 (lLV n) [] M c k := by
  refine L_aload_n dL_law_2172 rfl 2 rfl ?_
  refine L_callV (as := []) (st := []) (mc' := 9) (ms' := 1700) hE zcv_YL_law_244 rfl rfl rfl rfl (zle rfl) dL_law_2173 ⟨by omega, by omega⟩ (P_report hI hA) (fun r M1 q => ?_)
  obtain ⟨x, rfl, q⟩ := q
  refine L_aload_n dL_law_2176 rfl 3 rfl ?_
  refine L_callV (as := []) (st := [vi x]) (mc' := 0) (ms' := 0) hE zcv_YL_law_247 rfl rfl rfl rfl (zle rfl) dL_law_2177 ⟨by omega, by omega⟩ q (fun r M2 q => ?_)
  obtain ⟨y, rfl, hy, hg⟩ := q
  refine L_icmp_eq (tgt := 2335) dL_law_2180 (by decide) (fun _ => ?_) (fun q9 => absurd hy.symm q9)
  exact kk _ _ _ (hg.mono (by omega)).2 (by omega) (by omega)
theorem lc_reportByte (hE : zRm YL_law E.1) (hl : l.stackTraces = false) (hb : 6 * n + 6 ≤ gn G) (hL : gn G ≤ 3072) (hI : Inv M.1 A) (hA : A ≤ 299000000) (hc : c + 753 ≤ E.1.cells ∧ k + 5020 ≤ E.1.slots) (kk : ∀ (w1 : lW) (c1 k1 : Nat), Inv w1.1 (A + 108000) → c1 ≤ c + 753 → k1 ≤ k + 5020 → lAt l G YL_law E 2335 (lLV n) [] w1 c1 k1) : lAt l G YL_law E 2185 (lLV n) [] M c k := by
  refine L_aload_n dL_law_2185 rfl 2 rfl ?_
  refine L_aload_n dL_law_2186 rfl 1 rfl ?_
  refine L_iload dL_law_2187 0 rfl ?_
  refine L_iconst (v := 1) (by decide) dL_law_2189 ?_
  refine L_iadd dL_law_2190 ?_
  refine L_sld (l_in hb hL (by decide)) dL_law_2191 ?_
  refine L_callV (as := [vi (gs G ((nI (6 * n)) + 1).toNatClampNeg)]) (st := []) (mc' := 0) (ms' := 0) hE zcv_YL_law_248 rfl rfl rfl rfl (zle rfl) dL_law_2192 ⟨by omega, by omega⟩ (P_reportByte (p := (gs G ((nI (6 * n)) + 1).toNatClampNeg)) hI) (fun r M1 q => ?_)
  obtain ⟨x, rfl, q⟩ := q
  refine L_aload_n dL_law_2195 rfl 3 rfl ?_
  refine L_aload_n dL_law_2196 rfl 1 rfl ?_
  refine L_iload dL_law_2197 0 rfl ?_
  refine L_iconst (v := 1) (by decide) dL_law_2199 ?_
  refine L_iadd dL_law_2200 ?_
  refine L_sld (l_in hb hL (by decide)) dL_law_2201 ?_
  refine L_callV (as := [vi (gs G ((nI (6 * n)) + 1).toNatClampNeg)]) (st := [vi x]) (mc' := 0) (ms' := 0) hE zcv_YL_law_251 rfl rfl rfl rfl (zle rfl) dL_law_2202 ⟨by omega, by omega⟩ q (fun r M2 q => ?_)
  obtain ⟨y, rfl, hy, hg⟩ := q
  refine L_icmp_eq (tgt := 2335) dL_law_2205 (by decide) (fun _ => ?_) (fun q9 => absurd hy.symm q9)
  exact kk _ _ _ (hg.mono (by omega)).2 (by omega) (by omega)
theorem lc_undo (hE : zRm YL_law E.1) (hl : l.stackTraces = false) (hb : 6 * n + 6 ≤ gn G) (hL : gn G ≤ 3072) (hI : Inv M.1 A) (hA : A ≤ 299000000) (hc : c + 753 ≤ E.1.cells ∧ k + 5020 ≤ E.1.slots) (kk : ∀ (w1 : lW) (c1 k1 : Nat), Inv w1.1 (A + 108000) → c1 ≤ c + 753 → k1 ≤ k + 5020 → lAt l G YL_law E 2335 (lLV n) [] w1 c1 k1) : lAt l G YL_law E 2210 (lLV n) [] M c k := by
  refine L_aload_n dL_law_2210 rfl 2 rfl ?_
  refine L_callV (as := []) (st := []) (mc' := 0) (ms' := 0) hE zcv_YL_law_252 rfl rfl rfl rfl (zle rfl) dL_law_2211 ⟨by omega, by omega⟩ (P_undo hI) (fun r M1 q => ?_)
  obtain ⟨x, rfl, q⟩ := q
  refine L_aload_n dL_law_2214 rfl 3 rfl ?_
  refine L_callV (as := []) (st := [vi x]) (mc' := 0) (ms' := 0) hE zcv_YL_law_255 rfl rfl rfl rfl (zle rfl) dL_law_2215 ⟨by omega, by omega⟩ q (fun r M2 q => ?_)
  obtain ⟨y, rfl, hy, hg⟩ := q
  refine L_icmp_eq (tgt := 2335) dL_law_2218 (by decide) (fun _ => ?_) (fun q9 => absurd hy.symm q9)
  exact kk _ _ _ (hg.mono (by omega)).2 (by omega) (by omega)
theorem lc_save (hE : zRm YL_law E.1) (hl : l.stackTraces = false) (hb : 6 * n + 6 ≤ gn G) (hL : gn G ≤ 3072) (hI : Inv M.1 A) (hA : A ≤ 299000000) (hc : c + 753 ≤ E.1.cells ∧ k + 5020 ≤ E.1.slots) (kk : ∀ (w1 : lW) (c1 k1 : Nat), Inv w1.1 (A + 108000) → c1 ≤ c + 753 → k1 ≤ k + 5020 → lAt l G YL_law E 2335 (lLV n) [] w1 c1 k1) : lAt l G YL_law E 2223 (lLV n) [] M c k := by
  refine L_aload_n dL_law_2223 rfl 2 rfl ?_
  refine L_aload_n dL_law_2224 rfl 1 rfl ?_
  refine L_iload dL_law_2225 0 rfl ?_
  refine L_iconst (v := 1) (by decide) dL_law_2227 ?_
  refine L_iadd dL_law_2228 ?_
  refine L_sld (l_in hb hL (by decide)) dL_law_2229 ?_
  refine L_aload_n dL_law_2230 rfl 4 rfl ?_
  refine L_callS (as := [vr 0 0, vi (gs G ((nI (6 * n)) + 1).toNatClampNeg), vr 50 0]) (st := []) (mc' := 1) (ms' := 6) hE zls_law_save rfl rfl (zle rfl) dL_law_2231 ⟨by omega, by omega⟩ (w_save (K := fun z w => zCalI l G Y_X9_save 0 0 [vr 30 0, vi (gs G ((nI (6 * n)) + 1).toNatClampNeg)] w.1 (fun y M2 => Good (A) z M2 ∧ (z = 0 → w.2.1 = y.toInt64))) (P_save (p := (gs G ((nI (6 * n)) + 1).toNatClampNeg)) hl hI) (fun x M1 q => zCal_monoI q (fun y M2 g => ⟨g.2, fun _ => by rw [g.1]⟩)) (fun X M1 q => ⟨q.1, zCal_monoI q.2 (fun y M2 g => ⟨g, fun e => absurd e (by decide)⟩)⟩)) (fun r w q => ?_)
  obtain ⟨z, rfl, hz⟩ := q
  refine L_istore (lv2 := [(6, vi z), (5, vi (nI (6 * n))), (0, vr 52 0), (1, vr 0 0), (2, vr 30 0), (3, vr 50 0), (4, vr 51 0)]) dL_law_2234 (by decide) rfl ?_
  refine L_aload_n dL_law_2236 rfl 4 rfl ?_
  refine L_aload_n dL_law_2237 rfl 2 rfl ?_
  refine L_iload dL_law_2238 1 rfl ?_
  refine L_iconst (v := 1) (by decide) dL_law_2240 ?_
  refine L_iadd dL_law_2241 ?_
  refine L_sld (l_in hb hL (by decide)) dL_law_2242 ?_
  refine L_callV (as := [vi (gs G ((nI (6 * n)) + 1).toNatClampNeg)]) (st := []) (mc' := 0) (ms' := 0) hE zcv_YL_law_258 rfl rfl rfl rfl (zle rfl) dL_law_2243 ⟨by omega, by omega⟩ hz (fun r M2 q => ?_)
  obtain ⟨y, rfl, hg, hv⟩ := q
  refine L_istore (lv2 := [(7, vi y), (6, vi z), (5, vi (nI (6 * n))), (0, vr 52 0), (1, vr 0 0), (2, vr 30 0), (3, vr 50 0), (4, vr 51 0)]) dL_law_2246 (by decide) rfl ?_
  refine L_aload_n dL_law_2248 rfl 5 rfl ?_
  refine L_callV (as := []) (st := []) (mc' := 0) (ms' := 0) hE zcv_YL_law_132 rfl rfl rfl rfl (zle rfl) dL_law_2249 ⟨by omega, by omega⟩ (zm_X9_thrown (Kf := fun t M3 => t = z ∧ M3 = M2) ⟨hg.1, rfl⟩) (fun r M3 q => ?_)
  obtain ⟨t, rfl, ht, hM⟩ := q
  rw [hM]
  refine L_iload dL_law_2252 1 rfl ?_
  refine L_icmp_eq (tgt := 2259) dL_law_2254 (by decide) (fun _ => ?_) (fun q9 => absurd ht q9)
  refine L_iload dL_law_2259 1 rfl ?_
  have fin : lAt l G YL_law E 2276 [(7, vi y), (6, vi z), (5, vi (nI (6 * n))), (0, vr 52 0), (1, vr 0 0), (2, vr 30 0), (3, vr 50 0), (4, vr 51 0)] [] (M2, w.2) (c + 1 + 0 + 0) (k + 6 + 0 + 0) := by
    refine L_pick [2, 3, 4, 5, 6, 7] (lv2 := lLV n) rfl ?_
    refine L_goto (tgt := 2335) dL_law_2276 (by decide) ?_
    exact kk _ _ _ (hg.mono (by omega)).2 (by omega) (by omega)
  refine L_if_ne (tgt := 2276) dL_law_2261 (by decide) (fun _ => fin) (fun z0 => ?_)
  refine L_aload_n dL_law_2264 rfl 6 rfl ?_
  refine L_iconst (v := 0) (by decide) dL_law_2265 ?_
  refine L_laldE (hv z0) dL_law_2266 ?_
  refine L_iload dL_law_2267 0 rfl ?_
  refine L_i2l dL_law_2269 ?_
  refine L_lcmp dL_law_2270 ?_
  exact L_if_eq (tgt := 2276) dL_law_2271 (by decide) (fun _ => fin) (fun q9 => absurd (l_cmp0 _) q9)
theorem lc_restore (hE : zRm YL_law E.1) (hl : l.stackTraces = false) (hb : 6 * n + 6 ≤ gn G) (hL : gn G ≤ 3072) (hI : Inv M.1 A) (hA : A ≤ 299000000) (hc : c + 753 ≤ E.1.cells ∧ k + 5020 ≤ E.1.slots) (kk : ∀ (w1 : lW) (c1 k1 : Nat), Inv w1.1 (A + 108000) → c1 ≤ c + 753 → k1 ≤ k + 5020 → lAt l G YL_law E 2335 (lLV n) [] w1 c1 k1) : lAt l G YL_law E 2279 (lLV n) [] M c k := by
  refine L_aload_n dL_law_2279 rfl 2 rfl ?_
  refine L_aload_n dL_law_2280 rfl 1 rfl ?_
  refine L_iload dL_law_2281 0 rfl ?_
  refine L_iconst (v := 1) (by decide) dL_law_2283 ?_
  refine L_iadd dL_law_2284 ?_
  refine L_sld (l_in hb hL (by decide)) dL_law_2285 ?_
  refine L_aload_n dL_law_2286 rfl 4 rfl ?_
  refine L_callS (as := [vr 0 0, vi (gs G ((nI (6 * n)) + 1).toNatClampNeg), vr 50 0]) (st := []) (mc' := 1) (ms' := 6) hE zls_law_restore rfl rfl (zle rfl) dL_law_2287 ⟨by omega, by omega⟩ (w_restore (K := fun z w => zCalI l G Y_X9_restore 0 0 [vr 30 0, vi (gs G ((nI (6 * n)) + 1).toNatClampNeg)] w.1 (fun y M2 => Good (A) z M2 ∧ (z = 0 → w.2.1 = y.toInt64))) (P_restore (p := (gs G ((nI (6 * n)) + 1).toNatClampNeg)) hl hI) (fun x M1 q => zCal_monoI q (fun y M2 g => ⟨g.2, fun _ => by rw [g.1]⟩)) (fun X M1 q => ⟨q.1, zCal_monoI q.2 (fun y M2 g => ⟨g, fun e => absurd e (by decide)⟩)⟩)) (fun r w q => ?_)
  obtain ⟨z, rfl, hz⟩ := q
  refine L_istore (lv2 := [(6, vi z), (5, vi (nI (6 * n))), (0, vr 52 0), (1, vr 0 0), (2, vr 30 0), (3, vr 50 0), (4, vr 51 0)]) dL_law_2290 (by decide) rfl ?_
  refine L_aload_n dL_law_2292 rfl 4 rfl ?_
  refine L_aload_n dL_law_2293 rfl 2 rfl ?_
  refine L_iload dL_law_2294 1 rfl ?_
  refine L_iconst (v := 1) (by decide) dL_law_2296 ?_
  refine L_iadd dL_law_2297 ?_
  refine L_sld (l_in hb hL (by decide)) dL_law_2298 ?_
  refine L_callV (as := [vi (gs G ((nI (6 * n)) + 1).toNatClampNeg)]) (st := []) (mc' := 0) (ms' := 0) hE zcv_YL_law_261 rfl rfl rfl rfl (zle rfl) dL_law_2299 ⟨by omega, by omega⟩ hz (fun r M2 q => ?_)
  obtain ⟨y, rfl, hg, hv⟩ := q
  refine L_istore (lv2 := [(7, vi y), (6, vi z), (5, vi (nI (6 * n))), (0, vr 52 0), (1, vr 0 0), (2, vr 30 0), (3, vr 50 0), (4, vr 51 0)]) dL_law_2302 (by decide) rfl ?_
  refine L_aload_n dL_law_2304 rfl 5 rfl ?_
  refine L_callV (as := []) (st := []) (mc' := 0) (ms' := 0) hE zcv_YL_law_132 rfl rfl rfl rfl (zle rfl) dL_law_2305 ⟨by omega, by omega⟩ (zm_X9_thrown (Kf := fun t M3 => t = z ∧ M3 = M2) ⟨hg.1, rfl⟩) (fun r M3 q => ?_)
  obtain ⟨t, rfl, ht, hM⟩ := q
  rw [hM]
  refine L_iload dL_law_2308 1 rfl ?_
  refine L_icmp_eq (tgt := 2315) dL_law_2310 (by decide) (fun _ => ?_) (fun q9 => absurd ht q9)
  refine L_iload dL_law_2315 1 rfl ?_
  have fin : lAt l G YL_law E 2332 [(7, vi y), (6, vi z), (5, vi (nI (6 * n))), (0, vr 52 0), (1, vr 0 0), (2, vr 30 0), (3, vr 50 0), (4, vr 51 0)] [] (M2, w.2) (c + 1 + 0 + 0) (k + 6 + 0 + 0) := by
    refine L_pick [2, 3, 4, 5, 6, 7] (lv2 := lLV n) rfl ?_
    refine L_goto (tgt := 2335) dL_law_2332 (by decide) ?_
    exact kk _ _ _ (hg.mono (by omega)).2 (by omega) (by omega)
  refine L_if_ne (tgt := 2332) dL_law_2317 (by decide) (fun _ => fin) (fun z0 => ?_)
  refine L_aload_n dL_law_2320 rfl 6 rfl ?_
  refine L_iconst (v := 0) (by decide) dL_law_2321 ?_
  refine L_laldE (hv z0) dL_law_2322 ?_
  refine L_iload dL_law_2323 0 rfl ?_
  refine L_i2l dL_law_2325 ?_
  refine L_lcmp dL_law_2326 ?_
  exact L_if_eq (tgt := 2332) dL_law_2327 (by decide) (fun _ => fin) (fun q9 => absurd (l_cmp0 _) q9)
end LB
