/-! printed by wip/whole/drive.py -/
abbrev Y_X9_in : zY := (yX9_in, cX9_in, 3, (some .boolean), 2, [])
abbrev Y_X9_one : zY := (yX9_one, cX9_one, 1, (some .int), 2, [])
abbrev Y_X9_fails : zY := (yX9_fails, cX9_fails, 3, (some .boolean), 2, [])
theorem zw_1601 : Cond.fieldLink RX9 60 "EarlyDropsModel" "thrown" "I" ∈ zAll := zin 1601 (by decide +kernel) (by decide +kernel)
theorem zws_X9 : ∀ w ∈ u_ws RX9 TX9 30, w ∈ zAll := fun w hw => List.mem_filter.mpr (goodIn_r (big := lw_tbl) _ [1624, 1626, 1628, 1630, 1632, 1634, 1636, 1638, 1640, 1642, 1644, 1646, 1648, 1650, 1652, 1654, 1656, 1658, 1660, 1662, 1664, 1666, 1668, 1670, 1672, 1674, 1676, 1678, 1680, 1682] (by decide +kernel) (by decide +kernel) w hw |>.imp_right (fun _ => List.all_eq_true.mp (show (u_ws RX9 TX9 30).all goodWord = true by decide +kernel) w hw))
theorem zfl_X9_60 : zFL RX9 60 30 7 0 := ⟨13, RX9, TX9, 30, rfl, rfl, by decide, rfl, zw_1601, zws_X9⟩
theorem zfp_X9_60 : zFP RX9 60 30 7 0 .int := ⟨13, RX9, TX9, 30, tyX9, ⟨rfl, rfl, by decide, rfl, zw_1601, zws_X9⟩, tyX9_ok, nmX9, rfl, by decide +kernel⟩
abbrev Y_X9_ofFlow : zY := (yX9_ofFlow, cX9_ofFlow, 3, (some .int), 2, [])
theorem zw_1594 : Cond.fieldLink RX9 9 "EarlyDropsModel" "w" "[I" ∈ zAll := zin 1594 (by decide +kernel) (by decide +kernel)
theorem zfl_X9_9 : zFL RX9 9 30 0 1 := ⟨13, RX9, TX9, 30, rfl, rfl, by decide, rfl, zw_1594, zws_X9⟩
abbrev Y_X9_putsFlow : zY := (yX9_putsFlow, cX9_putsFlow, 4, none, 2, [])
abbrev Y_X9_isFlow : zY := (yX9_isFlow, cX9_isFlow, 2, (some .boolean), 3, [])
theorem zw_1730 : Cond.methodLink RX9 63 yX9_in ∈ zAll := zin 1730 (by decide +kernel) (by decide +kernel)
theorem zw_1732 : Cond.code yX9_in cX9_in 3 (some .boolean) ∈ zAll := zin 1732 (by decide +kernel) (by decide +kernel)
theorem zw_1731 : Cond.static yX9_in ∈ zAll := zin 1731 (by decide +kernel) (by decide +kernel)
theorem zw_124 : Cond.initialized RX9 ∈ zAll := zin 124 (by decide +kernel) (by decide +kernel)
theorem zcs_X9_isFlow_X9_in_63 : zLS Y_X9_isFlow 63 Y_X9_in 3 := ⟨zw_1730, zw_1731, zw_124, zw_1732, by decide +kernel, by decide, by decide⟩
abbrev Y_X9_counts : zY := (yX9_counts, cX9_counts, 4, none, 3, [])
theorem zw_1887 : Cond.methodLink RX9 67 yX9_ofFlow ∈ zAll := zin 1887 (by decide +kernel) (by decide +kernel)
theorem zw_1890 : Cond.code yX9_ofFlow cX9_ofFlow 3 (some .int) ∈ zAll := zin 1890 (by decide +kernel) (by decide +kernel)
theorem zw_1889 : Cond.instanceMethod yX9_ofFlow ∈ zAll := zin 1889 (by decide +kernel) (by decide +kernel)
theorem zw_65 : Cond.selects RX9 yX9_ofFlow yX9_ofFlow ∈ zAll := zin 65 (by decide +kernel) (by decide +kernel)
theorem zcv_X9_counts_X9_ofFlow_67 : zLV Y_X9_counts 67 Y_X9_ofFlow 2 RX9 := ⟨zw_1887, zw_1889, zw_65, zw_124, zw_1890, by decide +kernel, by decide, by decide⟩
theorem zw_1896 : Cond.methodLink RX9 71 yX9_putsFlow ∈ zAll := zin 1896 (by decide +kernel) (by decide +kernel)
theorem zw_1899 : Cond.code yX9_putsFlow cX9_putsFlow 4 none ∈ zAll := zin 1899 (by decide +kernel) (by decide +kernel)
theorem zw_1898 : Cond.instanceMethod yX9_putsFlow ∈ zAll := zin 1898 (by decide +kernel) (by decide +kernel)
theorem zw_67 : Cond.selects RX9 yX9_putsFlow yX9_putsFlow ∈ zAll := zin 67 (by decide +kernel) (by decide +kernel)
theorem zcv_X9_counts_X9_putsFlow_71 : zLV Y_X9_counts 71 Y_X9_putsFlow 3 RX9 := ⟨zw_1896, zw_1898, zw_67, zw_124, zw_1899, by decide +kernel, by decide, by decide⟩
abbrev Y_X9_accountOf : zY := (yX9_accountOf, cX9_accountOf, 5, (some .int), 3, [])
theorem zcv_X9_accountOf_X9_ofFlow_67 : zLV Y_X9_accountOf 67 Y_X9_ofFlow 2 RX9 := ⟨zw_1887, zw_1889, zw_65, zw_124, zw_1890, by decide +kernel, by decide, by decide⟩
abbrev Y_X9_chanceOf : zY := (yX9_chanceOf, cX9_chanceOf, 5, (some .int), 3, [])
theorem zw_1948 : Cond.constantLong RX9 88 65536 ∈ zAll := zin 1948 (by decide +kernel) (by decide +kernel)
theorem zw_1952 : Cond.methodLink RX9 91 Lib.MathLoose.min_long.x ∈ zAll := zin 1952 (by decide +kernel) (by decide +kernel)
theorem zw_1953 : Cond.static Lib.MathLoose.min_long.x ∈ zAll := zin 1953 (by decide +kernel) (by decide +kernel)
theorem zw_129 : Cond.initialized "java/lang/Math" ∈ zAll := zin 129 (by decide +kernel) (by decide +kernel)
theorem zw_1954 : Cond.code Lib.MathLoose.min_long.x Lib.MathLoose.min_long.code 4 (some .long) ∈ zAll := zin 1954 (by decide +kernel) (by decide +kernel)
theorem zw_1775 : Cond.constant RX9 90 65536 ∈ zAll := zin 1775 (by decide +kernel) (by decide +kernel)
abbrev Y_X9_howOf : zY := (yX9_howOf, cX9_howOf, 3, (some .int), 4, [])
abbrev Y_X9_low : zY := (yX9_low, cX9_low, 1, (some .int), 2, [])
theorem zw_1920 : Cond.methodLink RX9 82 yX9_low ∈ zAll := zin 1920 (by decide +kernel) (by decide +kernel)
theorem zw_1923 : Cond.code yX9_low cX9_low 1 (some .int) ∈ zAll := zin 1923 (by decide +kernel) (by decide +kernel)
theorem zw_1922 : Cond.instanceMethod yX9_low ∈ zAll := zin 1922 (by decide +kernel) (by decide +kernel)
theorem zw_73 : Cond.selects RX9 yX9_low yX9_low ∈ zAll := zin 73 (by decide +kernel) (by decide +kernel)
theorem zcv_X9_howOf_X9_low_82 : zLV Y_X9_howOf 82 Y_X9_low 0 RX9 := ⟨zw_1920, zw_1922, zw_73, zw_124, zw_1923, by decide +kernel, by decide, by decide⟩
abbrev Y_X9_endOfChance : zY := (yX9_endOfChance, cX9_endOfChance, 1, (some .int), 3, [])
theorem zw_1924 : Cond.methodLink RX9 85 yX9_endOfChance ∈ zAll := zin 1924 (by decide +kernel) (by decide +kernel)
theorem zw_1927 : Cond.code yX9_endOfChance cX9_endOfChance 1 (some .int) ∈ zAll := zin 1927 (by decide +kernel) (by decide +kernel)
theorem zw_1926 : Cond.instanceMethod yX9_endOfChance ∈ zAll := zin 1926 (by decide +kernel) (by decide +kernel)
theorem zw_74 : Cond.selects RX9 yX9_endOfChance yX9_endOfChance ∈ zAll := zin 74 (by decide +kernel) (by decide +kernel)
theorem zcv_X9_howOf_X9_endOfChance_85 : zLV Y_X9_howOf 85 Y_X9_endOfChance 0 RX9 := ⟨zw_1924, zw_1926, zw_74, zw_124, zw_1927, by decide +kernel, by decide, by decide⟩
abbrev Y_X9_high : zY := (yX9_high, cX9_high, 1, (some .int), 2, [])
theorem zw_1928 : Cond.methodLink RX9 78 yX9_high ∈ zAll := zin 1928 (by decide +kernel) (by decide +kernel)
theorem zw_1931 : Cond.code yX9_high cX9_high 1 (some .int) ∈ zAll := zin 1931 (by decide +kernel) (by decide +kernel)
theorem zw_1930 : Cond.instanceMethod yX9_high ∈ zAll := zin 1930 (by decide +kernel) (by decide +kernel)
theorem zw_75 : Cond.selects RX9 yX9_high yX9_high ∈ zAll := zin 75 (by decide +kernel) (by decide +kernel)
theorem zcv_X9_endOfChance_X9_high_78 : zLV Y_X9_endOfChance 78 Y_X9_high 0 RX9 := ⟨zw_1928, zw_1930, zw_75, zw_124, zw_1931, by decide +kernel, by decide, by decide⟩
abbrev Y_X9_baseOf : zY := (yX9_baseOf, cX9_baseOf, 2, (some .long), 4, [])
theorem zcv_X9_baseOf_X9_low_82 : zLV Y_X9_baseOf 82 Y_X9_low 0 RX9 := ⟨zw_1920, zw_1922, zw_73, zw_124, zw_1923, by decide +kernel, by decide, by decide⟩
theorem zcv_X9_baseOf_X9_endOfChance_85 : zLV Y_X9_baseOf 85 Y_X9_endOfChance 0 RX9 := ⟨zw_1924, zw_1926, zw_74, zw_124, zw_1927, by decide +kernel, by decide, by decide⟩
theorem zcv_X9_baseOf_X9_high_78 : zLV Y_X9_baseOf 78 Y_X9_high 0 RX9 := ⟨zw_1928, zw_1930, zw_75, zw_124, zw_1931, by decide +kernel, by decide, by decide⟩
abbrev Y_X9_keeps : zY := (yX9_keeps, cX9_keeps, 8, none, 2, [])
theorem dX9_in_0 : decode cX9_in 0 = .ok (.iload_n 0, 1) := by decide +kernel
theorem dX9_in_1 : decode cX9_in 1 = .ok (.iload_n 1, 1) := by decide +kernel
theorem dX9_in_2 : decode cX9_in 2 = .ok (.if_icmp .lt 12, 3) := by decide +kernel
theorem dX9_in_5 : decode cX9_in 5 = .ok (.iload_n 0, 1) := by decide +kernel
theorem dX9_in_6 : decode cX9_in 6 = .ok (.iload_n 2, 1) := by decide +kernel
theorem dX9_in_7 : decode cX9_in 7 = .ok (.if_icmp .gt 7, 3) := by decide +kernel
theorem dX9_in_10 : decode cX9_in 10 = .ok (.iconst 1, 1) := by decide +kernel
theorem dX9_in_11 : decode cX9_in 11 = .ok (.goto 4, 3) := by decide +kernel
theorem dX9_in_14 : decode cX9_in 14 = .ok (.iconst 0, 1) := by decide +kernel
theorem dX9_in_15 : decode cX9_in 15 = .ok (.ireturn, 1) := by decide +kernel
theorem dX9_one_0 : decode cX9_one 0 = .ok (.iload_n 0, 1) := by decide +kernel
theorem dX9_one_1 : decode cX9_one 1 = .ok (.ifCond .eq 7, 3) := by decide +kernel
theorem dX9_one_4 : decode cX9_one 4 = .ok (.iconst 1, 1) := by decide +kernel
theorem dX9_one_5 : decode cX9_one 5 = .ok (.goto 4, 3) := by decide +kernel
theorem dX9_one_8 : decode cX9_one 8 = .ok (.iconst 0, 1) := by decide +kernel
theorem dX9_one_9 : decode cX9_one 9 = .ok (.ireturn, 1) := by decide +kernel
theorem dX9_fails_0 : decode cX9_fails 0 = .ok (.aload_n 0, 1) := by decide +kernel
theorem dX9_fails_1 : decode cX9_fails 1 = .ok (.getfield 60, 3) := by decide +kernel
theorem dX9_fails_4 : decode cX9_fails 4 = .ok (.ifCond .ne 12, 3) := by decide +kernel
theorem dX9_fails_7 : decode cX9_fails 7 = .ok (.iload_n 1, 1) := by decide +kernel
theorem dX9_fails_8 : decode cX9_fails 8 = .ok (.ifCond .eq 8, 3) := by decide +kernel
theorem dX9_fails_11 : decode cX9_fails 11 = .ok (.aload_n 0, 1) := by decide +kernel
theorem dX9_fails_12 : decode cX9_fails 12 = .ok (.iload_n 2, 1) := by decide +kernel
theorem dX9_fails_13 : decode cX9_fails 13 = .ok (.putfield 60, 3) := by decide +kernel
theorem dX9_fails_16 : decode cX9_fails 16 = .ok (.aload_n 0, 1) := by decide +kernel
theorem dX9_fails_17 : decode cX9_fails 17 = .ok (.getfield 60, 3) := by decide +kernel
theorem dX9_fails_20 : decode cX9_fails 20 = .ok (.ifCond .eq 7, 3) := by decide +kernel
theorem dX9_fails_23 : decode cX9_fails 23 = .ok (.iconst 1, 1) := by decide +kernel
theorem dX9_fails_24 : decode cX9_fails 24 = .ok (.goto 4, 3) := by decide +kernel
theorem dX9_fails_27 : decode cX9_fails 27 = .ok (.iconst 0, 1) := by decide +kernel
theorem dX9_fails_28 : decode cX9_fails 28 = .ok (.ireturn, 1) := by decide +kernel
theorem dX9_ofFlow_0 : decode cX9_ofFlow 0 = .ok (.aload_n 0, 1) := by decide +kernel
theorem dX9_ofFlow_1 : decode cX9_ofFlow 1 = .ok (.getfield 9, 3) := by decide +kernel
theorem dX9_ofFlow_4 : decode cX9_ofFlow 4 = .ok (.bipush 16, 2) := by decide +kernel
theorem dX9_ofFlow_6 : decode cX9_ofFlow 6 = .ok (.bipush 26, 2) := by decide +kernel
theorem dX9_ofFlow_8 : decode cX9_ofFlow 8 = .ok (.iload_n 1, 1) := by decide +kernel
theorem dX9_ofFlow_9 : decode cX9_ofFlow 9 = .ok (.imul, 1) := by decide +kernel
theorem dX9_ofFlow_10 : decode cX9_ofFlow 10 = .ok (.iadd, 1) := by decide +kernel
theorem dX9_ofFlow_11 : decode cX9_ofFlow 11 = .ok (.iload_n 2, 1) := by decide +kernel
theorem dX9_ofFlow_12 : decode cX9_ofFlow 12 = .ok (.iadd, 1) := by decide +kernel
theorem dX9_ofFlow_13 : decode cX9_ofFlow 13 = .ok (.iaload, 1) := by decide +kernel
theorem dX9_ofFlow_14 : decode cX9_ofFlow 14 = .ok (.ireturn, 1) := by decide +kernel
theorem dX9_putsFlow_0 : decode cX9_putsFlow 0 = .ok (.aload_n 0, 1) := by decide +kernel
theorem dX9_putsFlow_1 : decode cX9_putsFlow 1 = .ok (.getfield 9, 3) := by decide +kernel
theorem dX9_putsFlow_4 : decode cX9_putsFlow 4 = .ok (.bipush 16, 2) := by decide +kernel
theorem dX9_putsFlow_6 : decode cX9_putsFlow 6 = .ok (.bipush 26, 2) := by decide +kernel
theorem dX9_putsFlow_8 : decode cX9_putsFlow 8 = .ok (.iload_n 1, 1) := by decide +kernel
theorem dX9_putsFlow_9 : decode cX9_putsFlow 9 = .ok (.imul, 1) := by decide +kernel
theorem dX9_putsFlow_10 : decode cX9_putsFlow 10 = .ok (.iadd, 1) := by decide +kernel
theorem dX9_putsFlow_11 : decode cX9_putsFlow 11 = .ok (.iload_n 2, 1) := by decide +kernel
theorem dX9_putsFlow_12 : decode cX9_putsFlow 12 = .ok (.iadd, 1) := by decide +kernel
theorem dX9_putsFlow_13 : decode cX9_putsFlow 13 = .ok (.iload_n 3, 1) := by decide +kernel
theorem dX9_putsFlow_14 : decode cX9_putsFlow 14 = .ok (.iastore, 1) := by decide +kernel
theorem dX9_putsFlow_15 : decode cX9_putsFlow 15 = .ok (.return_, 1) := by decide +kernel
theorem dX9_isFlow_0 : decode cX9_isFlow 0 = .ok (.iload_n 1, 1) := by decide +kernel
theorem dX9_isFlow_1 : decode cX9_isFlow 1 = .ok (.iconst 0, 1) := by decide +kernel
theorem dX9_isFlow_2 : decode cX9_isFlow 2 = .ok (.aload_n 0, 1) := by decide +kernel
theorem dX9_isFlow_3 : decode cX9_isFlow 3 = .ok (.getfield 9, 3) := by decide +kernel
theorem dX9_isFlow_6 : decode cX9_isFlow 6 = .ok (.bipush 11, 2) := by decide +kernel
theorem dX9_isFlow_8 : decode cX9_isFlow 8 = .ok (.iaload, 1) := by decide +kernel
theorem dX9_isFlow_9 : decode cX9_isFlow 9 = .ok (.iconst 1, 1) := by decide +kernel
theorem dX9_isFlow_10 : decode cX9_isFlow 10 = .ok (.isub, 1) := by decide +kernel
theorem dX9_isFlow_11 : decode cX9_isFlow 11 = .ok (.invokestatic 63, 3) := by decide +kernel
theorem dX9_isFlow_14 : decode cX9_isFlow 14 = .ok (.ireturn, 1) := by decide +kernel
theorem dX9_counts_0 : decode cX9_counts 0 = .ok (.aload_n 0, 1) := by decide +kernel
theorem dX9_counts_1 : decode cX9_counts 1 = .ok (.iload_n 1, 1) := by decide +kernel
theorem dX9_counts_2 : decode cX9_counts 2 = .ok (.bipush 18, 2) := by decide +kernel
theorem dX9_counts_4 : decode cX9_counts 4 = .ok (.iload_n 2, 1) := by decide +kernel
theorem dX9_counts_5 : decode cX9_counts 5 = .ok (.iadd, 1) := by decide +kernel
theorem dX9_counts_6 : decode cX9_counts 6 = .ok (.aload_n 0, 1) := by decide +kernel
theorem dX9_counts_7 : decode cX9_counts 7 = .ok (.iload_n 1, 1) := by decide +kernel
theorem dX9_counts_8 : decode cX9_counts 8 = .ok (.bipush 18, 2) := by decide +kernel
theorem dX9_counts_10 : decode cX9_counts 10 = .ok (.iload_n 2, 1) := by decide +kernel
theorem dX9_counts_11 : decode cX9_counts 11 = .ok (.iadd, 1) := by decide +kernel
theorem dX9_counts_12 : decode cX9_counts 12 = .ok (.invokevirtual 67, 3) := by decide +kernel
theorem dX9_counts_15 : decode cX9_counts 15 = .ok (.iload_n 3, 1) := by decide +kernel
theorem dX9_counts_16 : decode cX9_counts 16 = .ok (.iadd, 1) := by decide +kernel
theorem dX9_counts_17 : decode cX9_counts 17 = .ok (.invokevirtual 71, 3) := by decide +kernel
theorem dX9_counts_20 : decode cX9_counts 20 = .ok (.return_, 1) := by decide +kernel
theorem dX9_accountOf_0 : decode cX9_accountOf 0 = .ok (.iload_n 1, 1) := by decide +kernel
theorem dX9_accountOf_1 : decode cX9_accountOf 1 = .ok (.iconst (-1), 1) := by decide +kernel
theorem dX9_accountOf_2 : decode cX9_accountOf 2 = .ok (.if_icmp .eq 13, 3) := by decide +kernel
theorem dX9_accountOf_5 : decode cX9_accountOf 5 = .ok (.aload_n 0, 1) := by decide +kernel
theorem dX9_accountOf_6 : decode cX9_accountOf 6 = .ok (.iload_n 1, 1) := by decide +kernel
theorem dX9_accountOf_7 : decode cX9_accountOf 7 = .ok (.bipush 18, 2) := by decide +kernel
theorem dX9_accountOf_9 : decode cX9_accountOf 9 = .ok (.iload_n 2, 1) := by decide +kernel
theorem dX9_accountOf_10 : decode cX9_accountOf 10 = .ok (.iadd, 1) := by decide +kernel
theorem dX9_accountOf_11 : decode cX9_accountOf 11 = .ok (.invokevirtual 67, 3) := by decide +kernel
theorem dX9_accountOf_14 : decode cX9_accountOf 14 = .ok (.ireturn, 1) := by decide +kernel
theorem dX9_accountOf_15 : decode cX9_accountOf 15 = .ok (.iconst 0, 1) := by decide +kernel
theorem dX9_accountOf_16 : decode cX9_accountOf 16 = .ok (.istore_n 3, 1) := by decide +kernel
theorem dX9_accountOf_17 : decode cX9_accountOf 17 = .ok (.iconst 0, 1) := by decide +kernel
theorem dX9_accountOf_18 : decode cX9_accountOf 18 = .ok (.istore 4, 2) := by decide +kernel
theorem dX9_accountOf_20 : decode cX9_accountOf 20 = .ok (.iload 4, 2) := by decide +kernel
theorem dX9_accountOf_22 : decode cX9_accountOf 22 = .ok (.aload_n 0, 1) := by decide +kernel
theorem dX9_accountOf_23 : decode cX9_accountOf 23 = .ok (.getfield 9, 3) := by decide +kernel
theorem dX9_accountOf_26 : decode cX9_accountOf 26 = .ok (.bipush 11, 2) := by decide +kernel
theorem dX9_accountOf_28 : decode cX9_accountOf 28 = .ok (.iaload, 1) := by decide +kernel
theorem dX9_accountOf_29 : decode cX9_accountOf 29 = .ok (.if_icmp .ge 22, 3) := by decide +kernel
theorem dX9_accountOf_32 : decode cX9_accountOf 32 = .ok (.iload_n 3, 1) := by decide +kernel
theorem dX9_accountOf_33 : decode cX9_accountOf 33 = .ok (.aload_n 0, 1) := by decide +kernel
theorem dX9_accountOf_34 : decode cX9_accountOf 34 = .ok (.iload 4, 2) := by decide +kernel
theorem dX9_accountOf_36 : decode cX9_accountOf 36 = .ok (.bipush 18, 2) := by decide +kernel
theorem dX9_accountOf_38 : decode cX9_accountOf 38 = .ok (.iload_n 2, 1) := by decide +kernel
theorem dX9_accountOf_39 : decode cX9_accountOf 39 = .ok (.iadd, 1) := by decide +kernel
theorem dX9_accountOf_40 : decode cX9_accountOf 40 = .ok (.invokevirtual 67, 3) := by decide +kernel
theorem dX9_accountOf_43 : decode cX9_accountOf 43 = .ok (.iadd, 1) := by decide +kernel
theorem dX9_accountOf_44 : decode cX9_accountOf 44 = .ok (.istore_n 3, 1) := by decide +kernel
theorem dX9_accountOf_45 : decode cX9_accountOf 45 = .ok (.iinc 4 1, 3) := by decide +kernel
theorem dX9_accountOf_48 : decode cX9_accountOf 48 = .ok (.goto (-28), 3) := by decide +kernel
theorem dX9_accountOf_51 : decode cX9_accountOf 51 = .ok (.iload_n 3, 1) := by decide +kernel
theorem dX9_accountOf_52 : decode cX9_accountOf 52 = .ok (.ireturn, 1) := by decide +kernel
theorem dX9_low_0 : decode cX9_low 0 = .ok (.sipush 1024, 3) := by decide +kernel
theorem dX9_low_3 : decode cX9_low 3 = .ok (.aload_n 0, 1) := by decide +kernel
theorem dX9_low_4 : decode cX9_low 4 = .ok (.getfield 9, 3) := by decide +kernel
theorem dX9_low_7 : decode cX9_low 7 = .ok (.iconst 2, 1) := by decide +kernel
theorem dX9_low_8 : decode cX9_low 8 = .ok (.iaload, 1) := by decide +kernel
theorem dX9_low_9 : decode cX9_low 9 = .ok (.imul, 1) := by decide +kernel
theorem dX9_low_10 : decode cX9_low 10 = .ok (.ireturn, 1) := by decide +kernel
theorem dX9_high_0 : decode cX9_high 0 = .ok (.sipush 1024, 3) := by decide +kernel
theorem dX9_high_3 : decode cX9_high 3 = .ok (.aload_n 0, 1) := by decide +kernel
theorem dX9_high_4 : decode cX9_high 4 = .ok (.getfield 9, 3) := by decide +kernel
theorem dX9_high_7 : decode cX9_high 7 = .ok (.iconst 3, 1) := by decide +kernel
theorem dX9_high_8 : decode cX9_high 8 = .ok (.iaload, 1) := by decide +kernel
theorem dX9_high_9 : decode cX9_high 9 = .ok (.imul, 1) := by decide +kernel
theorem dX9_high_10 : decode cX9_high 10 = .ok (.ireturn, 1) := by decide +kernel
theorem dX9_endOfChance_0 : decode cX9_endOfChance 0 = .ok (.aload_n 0, 1) := by decide +kernel
theorem dX9_endOfChance_1 : decode cX9_endOfChance 1 = .ok (.getfield 9, 3) := by decide +kernel
theorem dX9_endOfChance_4 : decode cX9_endOfChance 4 = .ok (.bipush 6, 2) := by decide +kernel
theorem dX9_endOfChance_6 : decode cX9_endOfChance 6 = .ok (.iaload, 1) := by decide +kernel
theorem dX9_endOfChance_7 : decode cX9_endOfChance 7 = .ok (.iconst 1, 1) := by decide +kernel
theorem dX9_endOfChance_8 : decode cX9_endOfChance 8 = .ok (.if_icmp .ne 12, 3) := by decide +kernel
theorem dX9_endOfChance_11 : decode cX9_endOfChance 11 = .ok (.iconst 2, 1) := by decide +kernel
theorem dX9_endOfChance_12 : decode cX9_endOfChance 12 = .ok (.aload_n 0, 1) := by decide +kernel
theorem dX9_endOfChance_13 : decode cX9_endOfChance 13 = .ok (.invokevirtual 78, 3) := by decide +kernel
theorem dX9_endOfChance_16 : decode cX9_endOfChance 16 = .ok (.imul, 1) := by decide +kernel
theorem dX9_endOfChance_17 : decode cX9_endOfChance 17 = .ok (.goto 7, 3) := by decide +kernel
theorem dX9_endOfChance_20 : decode cX9_endOfChance 20 = .ok (.aload_n 0, 1) := by decide +kernel
theorem dX9_endOfChance_21 : decode cX9_endOfChance 21 = .ok (.invokevirtual 78, 3) := by decide +kernel
theorem dX9_endOfChance_24 : decode cX9_endOfChance 24 = .ok (.ireturn, 1) := by decide +kernel
theorem dX9_baseOf_0 : decode cX9_baseOf 0 = .ok (.iload_n 1, 1) := by decide +kernel
theorem dX9_baseOf_1 : decode cX9_baseOf 1 = .ok (.aload_n 0, 1) := by decide +kernel
theorem dX9_baseOf_2 : decode cX9_baseOf 2 = .ok (.invokevirtual 82, 3) := by decide +kernel
theorem dX9_baseOf_5 : decode cX9_baseOf 5 = .ok (.if_icmp .ge 5, 3) := by decide +kernel
theorem dX9_baseOf_8 : decode cX9_baseOf 8 = .ok (.lconst 0, 1) := by decide +kernel
theorem dX9_baseOf_9 : decode cX9_baseOf 9 = .ok (.lreturn, 1) := by decide +kernel
theorem dX9_baseOf_10 : decode cX9_baseOf 10 = .ok (.iload_n 1, 1) := by decide +kernel
theorem dX9_baseOf_11 : decode cX9_baseOf 11 = .ok (.aload_n 0, 1) := by decide +kernel
theorem dX9_baseOf_12 : decode cX9_baseOf 12 = .ok (.invokevirtual 85, 3) := by decide +kernel
theorem dX9_baseOf_15 : decode cX9_baseOf 15 = .ok (.if_icmp .lt 7, 3) := by decide +kernel
theorem dX9_baseOf_18 : decode cX9_baseOf 18 = .ok (.ldc2_w 88, 3) := by decide +kernel
theorem dX9_baseOf_21 : decode cX9_baseOf 21 = .ok (.lreturn, 1) := by decide +kernel
theorem dX9_baseOf_22 : decode cX9_baseOf 22 = .ok (.iload_n 1, 1) := by decide +kernel
theorem dX9_baseOf_23 : decode cX9_baseOf 23 = .ok (.aload_n 0, 1) := by decide +kernel
theorem dX9_baseOf_24 : decode cX9_baseOf 24 = .ok (.invokevirtual 78, 3) := by decide +kernel
theorem dX9_baseOf_27 : decode cX9_baseOf 27 = .ok (.if_icmp .ge 30, 3) := by decide +kernel
theorem dX9_baseOf_30 : decode cX9_baseOf 30 = .ok (.aload_n 0, 1) := by decide +kernel
theorem dX9_baseOf_31 : decode cX9_baseOf 31 = .ok (.getfield 9, 3) := by decide +kernel
theorem dX9_baseOf_34 : decode cX9_baseOf 34 = .ok (.iconst 4, 1) := by decide +kernel
theorem dX9_baseOf_35 : decode cX9_baseOf 35 = .ok (.iaload, 1) := by decide +kernel
theorem dX9_baseOf_36 : decode cX9_baseOf 36 = .ok (.i2l, 1) := by decide +kernel
theorem dX9_baseOf_37 : decode cX9_baseOf 37 = .ok (.iload_n 1, 1) := by decide +kernel
theorem dX9_baseOf_38 : decode cX9_baseOf 38 = .ok (.aload_n 0, 1) := by decide +kernel
theorem dX9_baseOf_39 : decode cX9_baseOf 39 = .ok (.invokevirtual 82, 3) := by decide +kernel
theorem dX9_baseOf_42 : decode cX9_baseOf 42 = .ok (.isub, 1) := by decide +kernel
theorem dX9_baseOf_43 : decode cX9_baseOf 43 = .ok (.i2l, 1) := by decide +kernel
theorem dX9_baseOf_44 : decode cX9_baseOf 44 = .ok (.lmul, 1) := by decide +kernel
theorem dX9_baseOf_45 : decode cX9_baseOf 45 = .ok (.aload_n 0, 1) := by decide +kernel
theorem dX9_baseOf_46 : decode cX9_baseOf 46 = .ok (.invokevirtual 78, 3) := by decide +kernel
theorem dX9_baseOf_49 : decode cX9_baseOf 49 = .ok (.aload_n 0, 1) := by decide +kernel
theorem dX9_baseOf_50 : decode cX9_baseOf 50 = .ok (.invokevirtual 82, 3) := by decide +kernel
theorem dX9_baseOf_53 : decode cX9_baseOf 53 = .ok (.isub, 1) := by decide +kernel
theorem dX9_baseOf_54 : decode cX9_baseOf 54 = .ok (.i2l, 1) := by decide +kernel
theorem dX9_baseOf_55 : decode cX9_baseOf 55 = .ok (.ldiv, 1) := by decide +kernel
theorem dX9_baseOf_56 : decode cX9_baseOf 56 = .ok (.lreturn, 1) := by decide +kernel
theorem dX9_baseOf_57 : decode cX9_baseOf 57 = .ok (.aload_n 0, 1) := by decide +kernel
theorem dX9_baseOf_58 : decode cX9_baseOf 58 = .ok (.getfield 9, 3) := by decide +kernel
theorem dX9_baseOf_61 : decode cX9_baseOf 61 = .ok (.iconst 4, 1) := by decide +kernel
theorem dX9_baseOf_62 : decode cX9_baseOf 62 = .ok (.iaload, 1) := by decide +kernel
theorem dX9_baseOf_63 : decode cX9_baseOf 63 = .ok (.i2l, 1) := by decide +kernel
theorem dX9_baseOf_64 : decode cX9_baseOf 64 = .ok (.ldc 90, 2) := by decide +kernel
theorem dX9_baseOf_66 : decode cX9_baseOf 66 = .ok (.aload_n 0, 1) := by decide +kernel
theorem dX9_baseOf_67 : decode cX9_baseOf 67 = .ok (.getfield 9, 3) := by decide +kernel
theorem dX9_baseOf_70 : decode cX9_baseOf 70 = .ok (.iconst 4, 1) := by decide +kernel
theorem dX9_baseOf_71 : decode cX9_baseOf 71 = .ok (.iaload, 1) := by decide +kernel
theorem dX9_baseOf_72 : decode cX9_baseOf 72 = .ok (.isub, 1) := by decide +kernel
theorem dX9_baseOf_73 : decode cX9_baseOf 73 = .ok (.i2l, 1) := by decide +kernel
theorem dX9_baseOf_74 : decode cX9_baseOf 74 = .ok (.iload_n 1, 1) := by decide +kernel
theorem dX9_baseOf_75 : decode cX9_baseOf 75 = .ok (.aload_n 0, 1) := by decide +kernel
theorem dX9_baseOf_76 : decode cX9_baseOf 76 = .ok (.invokevirtual 78, 3) := by decide +kernel
theorem dX9_baseOf_79 : decode cX9_baseOf 79 = .ok (.isub, 1) := by decide +kernel
theorem dX9_baseOf_80 : decode cX9_baseOf 80 = .ok (.i2l, 1) := by decide +kernel
theorem dX9_baseOf_81 : decode cX9_baseOf 81 = .ok (.lmul, 1) := by decide +kernel
theorem dX9_baseOf_82 : decode cX9_baseOf 82 = .ok (.aload_n 0, 1) := by decide +kernel
theorem dX9_baseOf_83 : decode cX9_baseOf 83 = .ok (.invokevirtual 78, 3) := by decide +kernel
theorem dX9_baseOf_86 : decode cX9_baseOf 86 = .ok (.i2l, 1) := by decide +kernel
theorem dX9_baseOf_87 : decode cX9_baseOf 87 = .ok (.ldiv, 1) := by decide +kernel
theorem dX9_baseOf_88 : decode cX9_baseOf 88 = .ok (.ladd, 1) := by decide +kernel
theorem dX9_baseOf_89 : decode cX9_baseOf 89 = .ok (.lreturn, 1) := by decide +kernel
theorem dX9_chanceOf_0 : decode cX9_chanceOf 0 = .ok (.ldc2_w 88, 3) := by decide +kernel
theorem dX9_chanceOf_3 : decode cX9_chanceOf 3 = .ok (.iload_n 2, 1) := by decide +kernel
theorem dX9_chanceOf_4 : decode cX9_chanceOf 4 = .ok (.i2l, 1) := by decide +kernel
theorem dX9_chanceOf_5 : decode cX9_chanceOf 5 = .ok (.lload_n 0, 1) := by decide +kernel
theorem dX9_chanceOf_6 : decode cX9_chanceOf 6 = .ok (.lmul, 1) := by decide +kernel
theorem dX9_chanceOf_7 : decode cX9_chanceOf 7 = .ok (.lsub, 1) := by decide +kernel
theorem dX9_chanceOf_8 : decode cX9_chanceOf 8 = .ok (.lstore_n 3, 1) := by decide +kernel
theorem dX9_chanceOf_9 : decode cX9_chanceOf 9 = .ok (.lload_n 3, 1) := by decide +kernel
theorem dX9_chanceOf_10 : decode cX9_chanceOf 10 = .ok (.lconst 0, 1) := by decide +kernel
theorem dX9_chanceOf_11 : decode cX9_chanceOf 11 = .ok (.lcmp, 1) := by decide +kernel
theorem dX9_chanceOf_12 : decode cX9_chanceOf 12 = .ok (.ifCond .gt 8, 3) := by decide +kernel
theorem dX9_chanceOf_15 : decode cX9_chanceOf 15 = .ok (.ldc 90, 2) := by decide +kernel
theorem dX9_chanceOf_17 : decode cX9_chanceOf 17 = .ok (.goto 17, 3) := by decide +kernel
theorem dX9_chanceOf_20 : decode cX9_chanceOf 20 = .ok (.ldc2_w 88, 3) := by decide +kernel
theorem dX9_chanceOf_23 : decode cX9_chanceOf 23 = .ok (.ldc2_w 88, 3) := by decide +kernel
theorem dX9_chanceOf_26 : decode cX9_chanceOf 26 = .ok (.lload_n 0, 1) := by decide +kernel
theorem dX9_chanceOf_27 : decode cX9_chanceOf 27 = .ok (.lmul, 1) := by decide +kernel
theorem dX9_chanceOf_28 : decode cX9_chanceOf 28 = .ok (.lload_n 3, 1) := by decide +kernel
theorem dX9_chanceOf_29 : decode cX9_chanceOf 29 = .ok (.ldiv, 1) := by decide +kernel
theorem dX9_chanceOf_30 : decode cX9_chanceOf 30 = .ok (.invokestatic 91, 3) := by decide +kernel
theorem dX9_chanceOf_33 : decode cX9_chanceOf 33 = .ok (.l2i, 1) := by decide +kernel
theorem dX9_chanceOf_34 : decode cX9_chanceOf 34 = .ok (.ireturn, 1) := by decide +kernel
theorem dX9_howOf_0 : decode cX9_howOf 0 = .ok (.iload_n 2, 1) := by decide +kernel
theorem dX9_howOf_1 : decode cX9_howOf 1 = .ok (.aload_n 0, 1) := by decide +kernel
theorem dX9_howOf_2 : decode cX9_howOf 2 = .ok (.getfield 9, 3) := by decide +kernel
theorem dX9_howOf_5 : decode cX9_howOf 5 = .ok (.iconst 0, 1) := by decide +kernel
theorem dX9_howOf_6 : decode cX9_howOf 6 = .ok (.iaload, 1) := by decide +kernel
theorem dX9_howOf_7 : decode cX9_howOf 7 = .ok (.if_icmp .ne 5, 3) := by decide +kernel
theorem dX9_howOf_10 : decode cX9_howOf 10 = .ok (.iconst 0, 1) := by decide +kernel
theorem dX9_howOf_11 : decode cX9_howOf 11 = .ok (.ireturn, 1) := by decide +kernel
theorem dX9_howOf_12 : decode cX9_howOf 12 = .ok (.iload_n 1, 1) := by decide +kernel
theorem dX9_howOf_13 : decode cX9_howOf 13 = .ok (.aload_n 0, 1) := by decide +kernel
theorem dX9_howOf_14 : decode cX9_howOf 14 = .ok (.invokevirtual 82, 3) := by decide +kernel
theorem dX9_howOf_17 : decode cX9_howOf 17 = .ok (.if_icmp .ge 7, 3) := by decide +kernel
theorem dX9_howOf_20 : decode cX9_howOf 20 = .ok (.iconst 1, 1) := by decide +kernel
theorem dX9_howOf_21 : decode cX9_howOf 21 = .ok (.goto 16, 3) := by decide +kernel
theorem dX9_howOf_24 : decode cX9_howOf 24 = .ok (.iload_n 1, 1) := by decide +kernel
theorem dX9_howOf_25 : decode cX9_howOf 25 = .ok (.aload_n 0, 1) := by decide +kernel
theorem dX9_howOf_26 : decode cX9_howOf 26 = .ok (.invokevirtual 85, 3) := by decide +kernel
theorem dX9_howOf_29 : decode cX9_howOf 29 = .ok (.if_icmp .lt 7, 3) := by decide +kernel
theorem dX9_howOf_32 : decode cX9_howOf 32 = .ok (.iconst 2, 1) := by decide +kernel
theorem dX9_howOf_33 : decode cX9_howOf 33 = .ok (.goto 4, 3) := by decide +kernel
theorem dX9_howOf_36 : decode cX9_howOf 36 = .ok (.iconst 3, 1) := by decide +kernel
theorem dX9_howOf_37 : decode cX9_howOf 37 = .ok (.ireturn, 1) := by decide +kernel
theorem dX9_keeps_0 : decode cX9_keeps 0 = .ok (.aload_n 0, 1) := by decide +kernel
theorem dX9_keeps_1 : decode cX9_keeps 1 = .ok (.getfield 9, 3) := by decide +kernel
theorem dX9_keeps_4 : decode cX9_keeps 4 = .ok (.bipush 12, 2) := by decide +kernel
theorem dX9_keeps_6 : decode cX9_keeps 6 = .ok (.iaload, 1) := by decide +kernel
theorem dX9_keeps_7 : decode cX9_keeps 7 = .ok (.bipush 24, 2) := by decide +kernel
theorem dX9_keeps_9 : decode cX9_keeps 9 = .ok (.if_icmp .ne 50, 3) := by decide +kernel
theorem dX9_keeps_12 : decode cX9_keeps 12 = .ok (.sipush 292, 3) := by decide +kernel
theorem dX9_keeps_15 : decode cX9_keeps 15 = .ok (.istore 7, 2) := by decide +kernel
theorem dX9_keeps_17 : decode cX9_keeps 17 = .ok (.iload 7, 2) := by decide +kernel
theorem dX9_keeps_19 : decode cX9_keeps 19 = .ok (.sipush 476, 3) := by decide +kernel
theorem dX9_keeps_22 : decode cX9_keeps 22 = .ok (.if_icmp .ge 26, 3) := by decide +kernel
theorem dX9_keeps_25 : decode cX9_keeps 25 = .ok (.aload_n 0, 1) := by decide +kernel
theorem dX9_keeps_26 : decode cX9_keeps 26 = .ok (.getfield 9, 3) := by decide +kernel
theorem dX9_keeps_29 : decode cX9_keeps 29 = .ok (.iload 7, 2) := by decide +kernel
theorem dX9_keeps_31 : decode cX9_keeps 31 = .ok (.aload_n 0, 1) := by decide +kernel
theorem dX9_keeps_32 : decode cX9_keeps 32 = .ok (.getfield 9, 3) := by decide +kernel
theorem dX9_keeps_35 : decode cX9_keeps 35 = .ok (.iload 7, 2) := by decide +kernel
theorem dX9_keeps_37 : decode cX9_keeps 37 = .ok (.bipush 8, 2) := by decide +kernel
theorem dX9_keeps_39 : decode cX9_keeps 39 = .ok (.iadd, 1) := by decide +kernel
theorem dX9_keeps_40 : decode cX9_keeps 40 = .ok (.iaload, 1) := by decide +kernel
theorem dX9_keeps_41 : decode cX9_keeps 41 = .ok (.iastore, 1) := by decide +kernel
theorem dX9_keeps_42 : decode cX9_keeps 42 = .ok (.iinc 7 1, 3) := by decide +kernel
theorem dX9_keeps_45 : decode cX9_keeps 45 = .ok (.goto (-28), 3) := by decide +kernel
theorem dX9_keeps_48 : decode cX9_keeps 48 = .ok (.aload_n 0, 1) := by decide +kernel
theorem dX9_keeps_49 : decode cX9_keeps 49 = .ok (.getfield 9, 3) := by decide +kernel
theorem dX9_keeps_52 : decode cX9_keeps 52 = .ok (.bipush 12, 2) := by decide +kernel
theorem dX9_keeps_54 : decode cX9_keeps 54 = .ok (.dup2, 1) := by decide +kernel
theorem dX9_keeps_55 : decode cX9_keeps 55 = .ok (.iaload, 1) := by decide +kernel
theorem dX9_keeps_56 : decode cX9_keeps 56 = .ok (.iconst 1, 1) := by decide +kernel
theorem dX9_keeps_57 : decode cX9_keeps 57 = .ok (.isub, 1) := by decide +kernel
theorem dX9_keeps_58 : decode cX9_keeps 58 = .ok (.iastore, 1) := by decide +kernel
theorem dX9_keeps_59 : decode cX9_keeps 59 = .ok (.sipush 292, 3) := by decide +kernel
theorem dX9_keeps_62 : decode cX9_keeps 62 = .ok (.bipush 8, 2) := by decide +kernel
theorem dX9_keeps_64 : decode cX9_keeps 64 = .ok (.aload_n 0, 1) := by decide +kernel
theorem dX9_keeps_65 : decode cX9_keeps 65 = .ok (.getfield 9, 3) := by decide +kernel
theorem dX9_keeps_68 : decode cX9_keeps 68 = .ok (.bipush 12, 2) := by decide +kernel
theorem dX9_keeps_70 : decode cX9_keeps 70 = .ok (.iaload, 1) := by decide +kernel
theorem dX9_keeps_71 : decode cX9_keeps 71 = .ok (.imul, 1) := by decide +kernel
theorem dX9_keeps_72 : decode cX9_keeps 72 = .ok (.iadd, 1) := by decide +kernel
theorem dX9_keeps_73 : decode cX9_keeps 73 = .ok (.istore 7, 2) := by decide +kernel
theorem dX9_keeps_75 : decode cX9_keeps 75 = .ok (.aload_n 0, 1) := by decide +kernel
theorem dX9_keeps_76 : decode cX9_keeps 76 = .ok (.getfield 9, 3) := by decide +kernel
theorem dX9_keeps_79 : decode cX9_keeps 79 = .ok (.iload 7, 2) := by decide +kernel
theorem dX9_keeps_81 : decode cX9_keeps 81 = .ok (.aload_n 0, 1) := by decide +kernel
theorem dX9_keeps_82 : decode cX9_keeps 82 = .ok (.getfield 9, 3) := by decide +kernel
theorem dX9_keeps_85 : decode cX9_keeps 85 = .ok (.bipush 7, 2) := by decide +kernel
theorem dX9_keeps_87 : decode cX9_keeps 87 = .ok (.iaload, 1) := by decide +kernel
theorem dX9_keeps_88 : decode cX9_keeps 88 = .ok (.iastore, 1) := by decide +kernel
theorem dX9_keeps_89 : decode cX9_keeps 89 = .ok (.aload_n 0, 1) := by decide +kernel
theorem dX9_keeps_90 : decode cX9_keeps 90 = .ok (.getfield 9, 3) := by decide +kernel
theorem dX9_keeps_93 : decode cX9_keeps 93 = .ok (.iload 7, 2) := by decide +kernel
theorem dX9_keeps_95 : decode cX9_keeps 95 = .ok (.iconst 1, 1) := by decide +kernel
theorem dX9_keeps_96 : decode cX9_keeps 96 = .ok (.iadd, 1) := by decide +kernel
theorem dX9_keeps_97 : decode cX9_keeps 97 = .ok (.iload_n 1, 1) := by decide +kernel
theorem dX9_keeps_98 : decode cX9_keeps 98 = .ok (.iastore, 1) := by decide +kernel
theorem dX9_keeps_99 : decode cX9_keeps 99 = .ok (.aload_n 0, 1) := by decide +kernel
theorem dX9_keeps_100 : decode cX9_keeps 100 = .ok (.getfield 9, 3) := by decide +kernel
theorem dX9_keeps_103 : decode cX9_keeps 103 = .ok (.iload 7, 2) := by decide +kernel
theorem dX9_keeps_105 : decode cX9_keeps 105 = .ok (.iconst 2, 1) := by decide +kernel
theorem dX9_keeps_106 : decode cX9_keeps 106 = .ok (.iadd, 1) := by decide +kernel
theorem dX9_keeps_107 : decode cX9_keeps 107 = .ok (.iload_n 2, 1) := by decide +kernel
theorem dX9_keeps_108 : decode cX9_keeps 108 = .ok (.iastore, 1) := by decide +kernel
theorem dX9_keeps_109 : decode cX9_keeps 109 = .ok (.aload_n 0, 1) := by decide +kernel
theorem dX9_keeps_110 : decode cX9_keeps 110 = .ok (.getfield 9, 3) := by decide +kernel
theorem dX9_keeps_113 : decode cX9_keeps 113 = .ok (.iload 7, 2) := by decide +kernel
theorem dX9_keeps_115 : decode cX9_keeps 115 = .ok (.iconst 3, 1) := by decide +kernel
theorem dX9_keeps_116 : decode cX9_keeps 116 = .ok (.iadd, 1) := by decide +kernel
theorem dX9_keeps_117 : decode cX9_keeps 117 = .ok (.aload_n 0, 1) := by decide +kernel
theorem dX9_keeps_118 : decode cX9_keeps 118 = .ok (.getfield 9, 3) := by decide +kernel
theorem dX9_keeps_121 : decode cX9_keeps 121 = .ok (.bipush 9, 2) := by decide +kernel
theorem dX9_keeps_123 : decode cX9_keeps 123 = .ok (.iaload, 1) := by decide +kernel
theorem dX9_keeps_124 : decode cX9_keeps 124 = .ok (.iastore, 1) := by decide +kernel
theorem dX9_keeps_125 : decode cX9_keeps 125 = .ok (.aload_n 0, 1) := by decide +kernel
theorem dX9_keeps_126 : decode cX9_keeps 126 = .ok (.getfield 9, 3) := by decide +kernel
theorem dX9_keeps_129 : decode cX9_keeps 129 = .ok (.iload 7, 2) := by decide +kernel
theorem dX9_keeps_131 : decode cX9_keeps 131 = .ok (.iconst 4, 1) := by decide +kernel
theorem dX9_keeps_132 : decode cX9_keeps 132 = .ok (.iadd, 1) := by decide +kernel
theorem dX9_keeps_133 : decode cX9_keeps 133 = .ok (.iload_n 3, 1) := by decide +kernel
theorem dX9_keeps_134 : decode cX9_keeps 134 = .ok (.iastore, 1) := by decide +kernel
theorem dX9_keeps_135 : decode cX9_keeps 135 = .ok (.aload_n 0, 1) := by decide +kernel
theorem dX9_keeps_136 : decode cX9_keeps 136 = .ok (.getfield 9, 3) := by decide +kernel
theorem dX9_keeps_139 : decode cX9_keeps 139 = .ok (.iload 7, 2) := by decide +kernel
theorem dX9_keeps_141 : decode cX9_keeps 141 = .ok (.iconst 5, 1) := by decide +kernel
theorem dX9_keeps_142 : decode cX9_keeps 142 = .ok (.iadd, 1) := by decide +kernel
theorem dX9_keeps_143 : decode cX9_keeps 143 = .ok (.iload 4, 2) := by decide +kernel
theorem dX9_keeps_145 : decode cX9_keeps 145 = .ok (.iastore, 1) := by decide +kernel
theorem dX9_keeps_146 : decode cX9_keeps 146 = .ok (.aload_n 0, 1) := by decide +kernel
theorem dX9_keeps_147 : decode cX9_keeps 147 = .ok (.getfield 9, 3) := by decide +kernel
theorem dX9_keeps_150 : decode cX9_keeps 150 = .ok (.iload 7, 2) := by decide +kernel
theorem dX9_keeps_152 : decode cX9_keeps 152 = .ok (.bipush 6, 2) := by decide +kernel
theorem dX9_keeps_154 : decode cX9_keeps 154 = .ok (.iadd, 1) := by decide +kernel
theorem dX9_keeps_155 : decode cX9_keeps 155 = .ok (.iload 5, 2) := by decide +kernel
theorem dX9_keeps_157 : decode cX9_keeps 157 = .ok (.iastore, 1) := by decide +kernel
theorem dX9_keeps_158 : decode cX9_keeps 158 = .ok (.aload_n 0, 1) := by decide +kernel
theorem dX9_keeps_159 : decode cX9_keeps 159 = .ok (.getfield 9, 3) := by decide +kernel
theorem dX9_keeps_162 : decode cX9_keeps 162 = .ok (.iload 7, 2) := by decide +kernel
theorem dX9_keeps_164 : decode cX9_keeps 164 = .ok (.bipush 7, 2) := by decide +kernel
theorem dX9_keeps_166 : decode cX9_keeps 166 = .ok (.iadd, 1) := by decide +kernel
theorem dX9_keeps_167 : decode cX9_keeps 167 = .ok (.iload 6, 2) := by decide +kernel
theorem dX9_keeps_169 : decode cX9_keeps 169 = .ok (.iastore, 1) := by decide +kernel
theorem dX9_keeps_170 : decode cX9_keeps 170 = .ok (.aload_n 0, 1) := by decide +kernel
theorem dX9_keeps_171 : decode cX9_keeps 171 = .ok (.getfield 9, 3) := by decide +kernel
theorem dX9_keeps_174 : decode cX9_keeps 174 = .ok (.bipush 12, 2) := by decide +kernel
theorem dX9_keeps_176 : decode cX9_keeps 176 = .ok (.dup2, 1) := by decide +kernel
theorem dX9_keeps_177 : decode cX9_keeps 177 = .ok (.iaload, 1) := by decide +kernel
theorem dX9_keeps_178 : decode cX9_keeps 178 = .ok (.iconst 1, 1) := by decide +kernel
theorem dX9_keeps_179 : decode cX9_keeps 179 = .ok (.iadd, 1) := by decide +kernel
theorem dX9_keeps_180 : decode cX9_keeps 180 = .ok (.iastore, 1) := by decide +kernel
theorem dX9_keeps_181 : decode cX9_keeps 181 = .ok (.return_, 1) := by decide +kernel
-- X9_in
set_option maxRecDepth 100000 in
set_option maxHeartbeats 4000000 in
theorem zm_X9_in {l : Launch} {G : zG} {p1 : Int32} {p2 : Int32} {p3 : Int32} {M : zM} {Kf : Int32 → zM → Prop} (h : ((p1 < p2 → (Kf 0 M)) ∧ (¬ p1 < p2 → ((p3 < p1 → (Kf 0 M)) ∧ (¬ p3 < p1 → (Kf 1 M)))))) : zCalI l G Y_X9_in 0 0 [vi p1, vi p2, vi p3] M Kf := by
  refine zCal_of (lv := [(0, vi p1), (1, vi p2), (2, vi p3)]) (by decide) rfl (zle rfl) rfl (fun hv => zlv_args (lv := [(0, vi p1), (1, vi p2), (2, vi p3)]) rfl hv) ?_
  refine Z_iload_n dX9_in_0 rfl 0 rfl ?_
  refine Z_iload_n dX9_in_1 rfl 1 rfl ?_
  refine Z_icmp_lt (tgt := 14) dX9_in_2 (by decide) (fun q => ?_) (fun q => ?_)
  · have h := h.1 q
    refine Z_iconst (v := 0) (by decide) dX9_in_14 ?_
    exact Z_iret rfl (by decide) dX9_in_15 (Nat.le_refl _) (Nat.le_refl _) ⟨_, rfl, h⟩
  · have h := h.2 q
    refine Z_iload_n dX9_in_5 rfl 0 rfl ?_
    refine Z_iload_n dX9_in_6 rfl 2 rfl ?_
    refine Z_icmp_gt (tgt := 14) dX9_in_7 (by decide) (fun q => ?_) (fun q => ?_)
    · have h := h.1 q
      refine Z_iconst (v := 0) (by decide) dX9_in_14 ?_
      exact Z_iret rfl (by decide) dX9_in_15 (Nat.le_refl _) (Nat.le_refl _) ⟨_, rfl, h⟩
    · have h := h.2 q
      refine Z_iconst (v := 1) (by decide) dX9_in_10 ?_
      refine Z_goto (tgt := 15) dX9_in_11 (by decide) ?_
      exact Z_iret rfl (by decide) dX9_in_15 (Nat.le_refl _) (Nat.le_refl _) ⟨_, rfl, h⟩
-- X9_one
set_option maxRecDepth 100000 in
set_option maxHeartbeats 4000000 in
theorem zm_X9_one {l : Launch} {G : zG} {p1 : Int32} {M : zM} {Kf : Int32 → zM → Prop} (h : ((p1 = 0 → (Kf 0 M)) ∧ (¬ p1 = 0 → (Kf 1 M)))) : zCalI l G Y_X9_one 0 0 [vi p1] M Kf := by
  refine zCal_of (lv := [(0, vi p1)]) (by decide) rfl (zle rfl) rfl (fun hv => zlv_args (lv := [(0, vi p1)]) rfl hv) ?_
  refine Z_iload_n dX9_one_0 rfl 0 rfl ?_
  refine Z_if_eq (tgt := 8) dX9_one_1 (by decide) (fun q => ?_) (fun q => ?_)
  · have h := h.1 q
    refine Z_iconst (v := 0) (by decide) dX9_one_8 ?_
    exact Z_iret rfl rfl dX9_one_9 (Nat.le_refl _) (Nat.le_refl _) ⟨_, rfl, h⟩
  · have h := h.2 q
    refine Z_iconst (v := 1) (by decide) dX9_one_4 ?_
    refine Z_goto (tgt := 9) dX9_one_5 (by decide) ?_
    exact Z_iret rfl rfl dX9_one_9 (Nat.le_refl _) (Nat.le_refl _) ⟨_, rfl, h⟩
-- X9_fails
set_option maxRecDepth 100000 in
set_option maxHeartbeats 4000000 in
theorem zm_X9_fails {l : Launch} {G : zG} {p1 : Int32} {p2 : Int32} {M : zM} {Kf : Int32 → zM → Prop} (h : ((¬ (zmI M 30 0 7) = 0 → zAt l G Y_X9_fails (zEI G Y_X9_fails Kf) 16 [(0, vr 30 0)] [] M 0 0) ∧ ((zmI M 30 0 7) = 0 → ((p1 = 0 → zAt l G Y_X9_fails (zEI G Y_X9_fails Kf) 16 [(0, vr 30 0)] [] M 0 0) ∧ (¬ p1 = 0 → zAt l G Y_X9_fails (zEI G Y_X9_fails Kf) 16 [(0, vr 30 0)] [] (zsI M 30 0 7 p2) 0 0))))) : zCalI l G Y_X9_fails 0 0 [vr 30 0, vi p1, vi p2] M Kf := by
  refine zCal_of (lv := [(0, vr 30 0), (1, vi p1), (2, vi p2)]) (by decide) rfl (zle rfl) rfl (fun hv => zlv_args (lv := [(0, vr 30 0), (1, vi p1), (2, vi p2)]) rfl hv) ?_
  refine Z_aload_n dX9_fails_0 rfl 0 rfl ?_
  refine Z_getI zfl_X9_60 dX9_fails_1 ?_
  refine Z_if_ne (tgt := 16) dX9_fails_4 (by decide) (fun q => ?_) (fun q => ?_)
  · have h := h.1 q
    exact Z_pick [0] rfl h
  · have h := h.2 q
    refine Z_iload_n dX9_fails_7 rfl 1 rfl ?_
    refine Z_if_eq (tgt := 16) dX9_fails_8 (by decide) (fun q => ?_) (fun q => ?_)
    · have h := h.1 q
      exact Z_pick [0] rfl h
    · have h := h.2 q
      refine Z_aload_n dX9_fails_11 rfl 0 rfl ?_
      refine Z_iload_n dX9_fails_12 rfl 2 rfl ?_
      refine Z_putI zfp_X9_60 rfl rfl dX9_fails_13 ?_
      exact Z_pick [0] rfl h
set_option maxRecDepth 100000 in
set_option maxHeartbeats 4000000 in
theorem zb_X9_fails_16 {l : Launch} {G : zG}  {M : zM} {Kf : Int32 → zM → Prop} (h : (((zmI M 30 0 7) = 0 → (Kf 0 M)) ∧ (¬ (zmI M 30 0 7) = 0 → (Kf 1 M)))) : zAt l G Y_X9_fails (zEI G Y_X9_fails Kf) 16 [(0, vr 30 0)] [] M 0 0 := by
  refine Z_aload_n dX9_fails_16 rfl 0 rfl ?_
  refine Z_getI zfl_X9_60 dX9_fails_17 ?_
  refine Z_if_eq (tgt := 27) dX9_fails_20 (by decide) (fun q => ?_) (fun q => ?_)
  · have h := h.1 q
    refine Z_iconst (v := 0) (by decide) dX9_fails_27 ?_
    exact Z_iret rfl (by decide) dX9_fails_28 (Nat.le_refl _) (Nat.le_refl _) ⟨_, rfl, h⟩
  · have h := h.2 q
    refine Z_iconst (v := 1) (by decide) dX9_fails_23 ?_
    refine Z_goto (tgt := 28) dX9_fails_24 (by decide) ?_
    exact Z_iret rfl (by decide) dX9_fails_28 (Nat.le_refl _) (Nat.le_refl _) ⟨_, rfl, h⟩
-- X9_ofFlow
set_option maxRecDepth 100000 in
set_option maxHeartbeats 4000000 in
theorem zm_X9_ofFlow {l : Launch} {G : zG} {p1 : Int32} {p2 : Int32} {M : zM} {Kf : Int32 → zM → Prop} (h : (vp_in ((16 + (26 * p1)) + p2) 484 ∧ (Kf (zmI M 31 0 ((16 + (26 * p1)) + p2).toNatClampNeg) M))) : zCalI l G Y_X9_ofFlow 0 0 [vr 30 0, vi p1, vi p2] M Kf := by
  refine zCal_of (lv := [(0, vr 30 0), (1, vi p1), (2, vi p2)]) (by decide) rfl (zle rfl) rfl (fun hv => zlv_args (lv := [(0, vr 30 0), (1, vi p1), (2, vi p2)]) rfl hv) ?_
  refine Z_aload_n dX9_ofFlow_0 rfl 0 rfl ?_
  refine Z_getR (s1 := 31) (i1 := 0) zfl_X9_9 rfl (fun q => by first | exact q | decide) dX9_ofFlow_1 ?_
  refine Z_bipush (v := 16) (by decide) dX9_ofFlow_4 ?_
  refine Z_bipush (v := 26) (by decide) dX9_ofFlow_6 ?_
  refine Z_iload_n dX9_ofFlow_8 rfl 1 rfl ?_
  refine Z_imul dX9_ofFlow_9 ?_
  refine Z_iadd dX9_ofFlow_10 ?_
  refine Z_iload_n dX9_ofFlow_11 rfl 2 rfl ?_
  refine Z_iadd dX9_ofFlow_12 ?_
  obtain ⟨g1, h⟩ := h
  refine Z_iald (n := 484) rfl g1 dX9_ofFlow_13 ?_
  exact Z_iret rfl rfl dX9_ofFlow_14 (Nat.le_refl _) (Nat.le_refl _) ⟨_, rfl, h⟩
-- X9_putsFlow
set_option maxRecDepth 100000 in
set_option maxHeartbeats 4000000 in
theorem zm_X9_putsFlow {l : Launch} {G : zG} {p1 : Int32} {p2 : Int32} {p3 : Int32} {M : zM} {Kf : zM → Prop} (h : (vp_in ((16 + (26 * p1)) + p2) 484 ∧ (Kf (zsI M 31 0 ((16 + (26 * p1)) + p2).toNatClampNeg p3)))) : zCalV l G Y_X9_putsFlow 0 0 [vr 30 0, vi p1, vi p2, vi p3] M Kf := by
  refine zCal_of (lv := [(0, vr 30 0), (1, vi p1), (2, vi p2), (3, vi p3)]) (by decide) rfl (zle rfl) rfl (fun hv => zlv_args (lv := [(0, vr 30 0), (1, vi p1), (2, vi p2), (3, vi p3)]) rfl hv) ?_
  refine Z_aload_n dX9_putsFlow_0 rfl 0 rfl ?_
  refine Z_getR (s1 := 31) (i1 := 0) zfl_X9_9 rfl (fun q => by first | exact q | decide) dX9_putsFlow_1 ?_
  refine Z_bipush (v := 16) (by decide) dX9_putsFlow_4 ?_
  refine Z_bipush (v := 26) (by decide) dX9_putsFlow_6 ?_
  refine Z_iload_n dX9_putsFlow_8 rfl 1 rfl ?_
  refine Z_imul dX9_putsFlow_9 ?_
  refine Z_iadd dX9_putsFlow_10 ?_
  refine Z_iload_n dX9_putsFlow_11 rfl 2 rfl ?_
  refine Z_iadd dX9_putsFlow_12 ?_
  refine Z_iload_n dX9_putsFlow_13 rfl 3 rfl ?_
  obtain ⟨g1, h⟩ := h
  refine Z_iast (n := 484) rfl g1 dX9_putsFlow_14 ?_
  exact Z_vret rfl dX9_putsFlow_15 (Nat.le_refl _) (Nat.le_refl _) ⟨rfl, h⟩
-- X9_isFlow
set_option maxRecDepth 100000 in
set_option maxHeartbeats 4000000 in
theorem zm_X9_isFlow {l : Launch} {G : zG} {p1 : Int32} {M : zM} {Kf : Int32 → zM → Prop} (h : (zCalI l G Y_X9_in 0 0 [vi p1, vi 0, vi ((zmI M 31 0 11) - 1)] M (fun x3 M2 => (zbit x3 ∧ Kf x3 M2)))) : zCalI l G Y_X9_isFlow 0 0 [vr 30 0, vi p1] M Kf := by
  refine zCal_of (lv := [(0, vr 30 0), (1, vi p1)]) (by decide) rfl (zle rfl) rfl (fun hv => zlv_args (lv := [(0, vr 30 0), (1, vi p1)]) rfl hv) ?_
  refine Z_iload_n dX9_isFlow_0 rfl 1 rfl ?_
  refine Z_iconst (v := 0) (by decide) dX9_isFlow_1 ?_
  refine Z_aload_n dX9_isFlow_2 rfl 0 rfl ?_
  refine Z_getR (s1 := 31) (i1 := 0) zfl_X9_9 rfl (fun q => by first | exact q | decide) dX9_isFlow_3 ?_
  refine Z_bipush (v := 11) (by decide) dX9_isFlow_6 ?_
  refine Z_ialdK (n := 484) (j := 11) rfl (by decide) (zvin (by decide)) dX9_isFlow_8 ?_
  refine Z_iconst (v := 1) (by decide) dX9_isFlow_9 ?_
  refine Z_isub dX9_isFlow_10 ?_
  refine Z_callSI (as := [vi p1, vi 0, vi ((zmI M 31 0 11) - 1)]) zRm_M zcs_X9_isFlow_X9_in_63 rfl rfl (zle rfl) dX9_isFlow_11 ⟨Nat.le_refl _, Nat.le_refl _⟩ h (fun x3 M2 h => ?_)
  obtain ⟨hz, h⟩ := h
  exact Z_iret rfl (zbit_n hz) dX9_isFlow_14 (Nat.le_refl _) (Nat.le_refl _) ⟨_, rfl, h⟩
-- X9_counts
set_option maxRecDepth 100000 in
set_option maxHeartbeats 4000000 in
theorem zm_X9_counts {l : Launch} {G : zG} {p1 : Int32} {p2 : Int32} {p3 : Int32} {M : zM} {Kf : zM → Prop} (h : (zCalI l G Y_X9_ofFlow 0 0 [vr 30 0, vi p1, vi (18 + p2)] M (fun x2 M1 => (zCalV l G Y_X9_putsFlow 0 0 [vr 30 0, vi p1, vi (18 + p2), vi (x2 + p3)] M1 (fun M3 => (Kf M3)))))) : zCalV l G Y_X9_counts 0 0 [vr 30 0, vi p1, vi p2, vi p3] M Kf := by
  refine zCal_of (lv := [(0, vr 30 0), (1, vi p1), (2, vi p2), (3, vi p3)]) (by decide) rfl (zle rfl) rfl (fun hv => zlv_args (lv := [(0, vr 30 0), (1, vi p1), (2, vi p2), (3, vi p3)]) rfl hv) ?_
  refine Z_aload_n dX9_counts_0 rfl 0 rfl ?_
  refine Z_iload_n dX9_counts_1 rfl 1 rfl ?_
  refine Z_bipush (v := 18) (by decide) dX9_counts_2 ?_
  refine Z_iload_n dX9_counts_4 rfl 2 rfl ?_
  refine Z_iadd dX9_counts_5 ?_
  refine Z_aload_n dX9_counts_6 rfl 0 rfl ?_
  refine Z_iload_n dX9_counts_7 rfl 1 rfl ?_
  refine Z_bipush (v := 18) (by decide) dX9_counts_8 ?_
  refine Z_iload_n dX9_counts_10 rfl 2 rfl ?_
  refine Z_iadd dX9_counts_11 ?_
  refine Z_callVI (as := [vi p1, vi (18 + p2)]) zRm_M zcv_X9_counts_X9_ofFlow_67 (ci := 13) rfl rfl rfl rfl (zle rfl) dX9_counts_12 ⟨Nat.le_refl _, Nat.le_refl _⟩ h (fun x2 M1 h => ?_)
  refine Z_iload_n dX9_counts_15 rfl 3 rfl ?_
  refine Z_iadd dX9_counts_16 ?_
  refine Z_callVV (as := [vi p1, vi (18 + p2), vi (x2 + p3)]) zRm_M zcv_X9_counts_X9_putsFlow_71 (ci := 13) rfl rfl rfl rfl (zle rfl) dX9_counts_17 ⟨Nat.le_refl _, Nat.le_refl _⟩ h (fun M3 h => ?_)
  exact Z_vret rfl dX9_counts_20 (Nat.le_refl _) (Nat.le_refl _) ⟨rfl, h⟩
-- X9_accountOf
set_option maxRecDepth 100000 in
set_option maxHeartbeats 4000000 in
theorem zm_X9_accountOf {l : Launch} {G : zG} {p1 : Int32} {p2 : Int32} {M : zM} {Kf : Int32 → zM → Prop} (h : ((p1 = (-1) → zAt l G Y_X9_accountOf (zEI G Y_X9_accountOf Kf) 20 [(0, vr 30 0), (2, vi p2), (3, vi 0), (4, vi 0)] [] M 0 0) ∧ (¬ p1 = (-1) → (zCalI l G Y_X9_ofFlow 0 0 [vr 30 0, vi p1, vi (18 + p2)] M (fun x2 M1 => (Kf x2 M1)))))) : zCalI l G Y_X9_accountOf 0 0 [vr 30 0, vi p1, vi p2] M Kf := by
  refine zCal_of (lv := [(0, vr 30 0), (1, vi p1), (2, vi p2)]) (by decide) rfl (zle rfl) rfl (fun hv => zlv_args (lv := [(0, vr 30 0), (1, vi p1), (2, vi p2)]) rfl hv) ?_
  refine Z_iload_n dX9_accountOf_0 rfl 1 rfl ?_
  refine Z_iconst (v := (-1)) (by decide) dX9_accountOf_1 ?_
  refine Z_icmp_eq (tgt := 15) dX9_accountOf_2 (by decide) (fun q => ?_) (fun q => ?_)
  · have h := h.1 q
    refine Z_iconst (v := 0) (by decide) dX9_accountOf_15 ?_
    refine Z_istore_n (lv2 := [(3, vi 0), (0, vr 30 0), (1, vi p1), (2, vi p2)]) dX9_accountOf_16 rfl (by decide) rfl ?_
    refine Z_iconst (v := 0) (by decide) dX9_accountOf_17 ?_
    refine Z_istore (lv2 := [(4, vi 0), (3, vi 0), (0, vr 30 0), (1, vi p1), (2, vi p2)]) dX9_accountOf_18 (by decide) rfl ?_
    exact Z_pick [2, 4, 1, 0] rfl h
  · have h := h.2 q
    refine Z_aload_n dX9_accountOf_5 rfl 0 rfl ?_
    refine Z_iload_n dX9_accountOf_6 rfl 1 rfl ?_
    refine Z_bipush (v := 18) (by decide) dX9_accountOf_7 ?_
    refine Z_iload_n dX9_accountOf_9 rfl 2 rfl ?_
    refine Z_iadd dX9_accountOf_10 ?_
    refine Z_callVI (as := [vi p1, vi (18 + p2)]) zRm_M zcv_X9_accountOf_X9_ofFlow_67 (ci := 13) rfl rfl rfl rfl (zle rfl) dX9_accountOf_11 ⟨Nat.le_refl _, Nat.le_refl _⟩ h (fun x2 M1 h => ?_)
    exact Z_iret rfl rfl dX9_accountOf_14 (Nat.le_refl _) (Nat.le_refl _) ⟨_, rfl, h⟩
set_option maxRecDepth 100000 in
set_option maxHeartbeats 4000000 in
theorem zb_X9_accountOf_20 {l : Launch} {G : zG} {y2 : Int32} {y3 : Int32} {y4 : Int32} {M : zM} {Kf : Int32 → zM → Prop} (h : (((zmI M 31 0 11) ≤ y4 → (Kf y3 M)) ∧ (¬ (zmI M 31 0 11) ≤ y4 → (zCalI l G Y_X9_ofFlow 0 0 [vr 30 0, vi y4, vi (18 + y2)] M (fun x3 M2 => zAt l G Y_X9_accountOf (zEI G Y_X9_accountOf Kf) 20 [(0, vr 30 0), (2, vi y2), (3, vi (y3 + x3)), (4, vi (y4 + 1))] [] M2 0 0))))) : zAt l G Y_X9_accountOf (zEI G Y_X9_accountOf Kf) 20 [(0, vr 30 0), (2, vi y2), (3, vi y3), (4, vi y4)] [] M 0 0 := by
  refine Z_iload dX9_accountOf_20 3 rfl ?_
  refine Z_aload_n dX9_accountOf_22 rfl 0 rfl ?_
  refine Z_getR (s1 := 31) (i1 := 0) zfl_X9_9 rfl (fun q => by first | exact q | decide) dX9_accountOf_23 ?_
  refine Z_bipush (v := 11) (by decide) dX9_accountOf_26 ?_
  refine Z_ialdK (n := 484) (j := 11) rfl (by decide) (zvin (by decide)) dX9_accountOf_28 ?_
  refine Z_icmp_ge (tgt := 51) dX9_accountOf_29 (by decide) (fun q => ?_) (fun q => ?_)
  · have h := h.1 q
    refine Z_iload_n dX9_accountOf_51 rfl 2 rfl ?_
    exact Z_iret rfl rfl dX9_accountOf_52 (Nat.le_refl _) (Nat.le_refl _) ⟨_, rfl, h⟩
  · have h := h.2 q
    refine Z_iload_n dX9_accountOf_32 rfl 2 rfl ?_
    refine Z_aload_n dX9_accountOf_33 rfl 0 rfl ?_
    refine Z_iload dX9_accountOf_34 3 rfl ?_
    refine Z_bipush (v := 18) (by decide) dX9_accountOf_36 ?_
    refine Z_iload_n dX9_accountOf_38 rfl 1 rfl ?_
    refine Z_iadd dX9_accountOf_39 ?_
    refine Z_callVI (as := [vi y4, vi (18 + y2)]) zRm_M zcv_X9_accountOf_X9_ofFlow_67 (ci := 13) rfl rfl rfl rfl (zle rfl) dX9_accountOf_40 ⟨Nat.le_refl _, Nat.le_refl _⟩ h (fun x3 M2 h => ?_)
    refine Z_iadd dX9_accountOf_43 ?_
    refine Z_istore_n (lv2 := [(3, vi (y3 + x3)), (0, vr 30 0), (2, vi y2), (4, vi y4)]) dX9_accountOf_44 rfl (by decide) rfl ?_
    refine Z_iinc (v := (y4 + 1)) (lv2 := [(4, vi (y4 + 1)), (3, vi (y3 + x3)), (0, vr 30 0), (2, vi y2)]) dX9_accountOf_45 3 rfl rfl (by decide) rfl ?_
    refine Z_goto (tgt := 20) dX9_accountOf_48 (by decide) ?_
    exact Z_pick [2, 3, 1, 0] rfl h
-- X9_chanceOf
set_option maxRecDepth 100000 in
set_option maxHeartbeats 4000000 in
theorem zm_X9_chanceOf {l : Launch} {G : zG} {p1 : Int64} {p2 : Int32} {M : zM} {Kf : Int32 → zM → Prop} (h : ((0 < (lg_cmp (65536 - (((p2 : Int32).toInt64) * p1)) 0) → (¬ (65536 - (((p2 : Int32).toInt64) * p1)) = 0 ∧ (Kf (((if ((65536 * p1) / (65536 - (((p2 : Int32).toInt64) * p1))) < 65536 then ((65536 * p1) / (65536 - (((p2 : Int32).toInt64) * p1))) else 65536) : Int64).toInt32) M))) ∧ (¬ 0 < (lg_cmp (65536 - (((p2 : Int32).toInt64) * p1)) 0) → (Kf 65536 M)))) : zCalI l G Y_X9_chanceOf 0 0 [vl p1, vi p2] M Kf := by
  refine zCal_of (lv := [(0, vl p1), (2, vi p2)]) (by decide) rfl (zle rfl) rfl (fun hv => zlv_args (lv := [(0, vl p1), (2, vi p2)]) rfl hv) ?_
  refine Z_ldc2 (v := 65536) zw_1948 dX9_chanceOf_0 ?_
  refine Z_iload_n dX9_chanceOf_3 rfl 1 rfl ?_
  refine Z_i2l dX9_chanceOf_4 ?_
  refine Z_lload_n dX9_chanceOf_5 rfl 0 rfl ?_
  refine Z_lmul dX9_chanceOf_6 ?_
  refine Z_lsub dX9_chanceOf_7 ?_
  refine Z_lstore_n (lv2 := [(3, vl (65536 - (((p2 : Int32).toInt64) * p1))), (0, vl p1), (2, vi p2)]) dX9_chanceOf_8 rfl (by decide) rfl ?_
  refine Z_lload_n dX9_chanceOf_9 rfl 0 rfl ?_
  refine Z_lconst (v := 0) (by decide) dX9_chanceOf_10 ?_
  refine Z_lcmp dX9_chanceOf_11 ?_
  refine Z_if_gt (tgt := 20) dX9_chanceOf_12 (by decide) (fun q => ?_) (fun q => ?_)
  · have h := h.1 q
    refine Z_ldc2 (v := 65536) zw_1948 dX9_chanceOf_20 ?_
    refine Z_ldc2 (v := 65536) zw_1948 dX9_chanceOf_23 ?_
    refine Z_lload_n dX9_chanceOf_26 rfl 1 rfl ?_
    refine Z_lmul dX9_chanceOf_27 ?_
    refine Z_lload_n dX9_chanceOf_28 rfl 0 rfl ?_
    obtain ⟨g1, h⟩ := h
    refine Z_ldiv dX9_chanceOf_29 g1 ?_
    refine Z_mminL zw_1952 zw_1953 zw_129 zw_1954 zRm_M (by decide) (zle rfl) (Nat.zero_le _) (Nat.zero_le _) dX9_chanceOf_30 ?_
    refine Z_l2i dX9_chanceOf_33 ?_
    exact Z_iret rfl rfl dX9_chanceOf_34 (Nat.le_refl _) (Nat.le_refl _) ⟨_, rfl, h⟩
  · have h := h.2 q
    refine Z_ldc (v := 65536) zw_1775 dX9_chanceOf_15 ?_
    refine Z_goto (tgt := 34) dX9_chanceOf_17 (by decide) ?_
    exact Z_iret rfl rfl dX9_chanceOf_34 (Nat.le_refl _) (Nat.le_refl _) ⟨_, rfl, h⟩
-- X9_howOf
set_option maxRecDepth 100000 in
set_option maxHeartbeats 4000000 in
theorem zm_X9_howOf {l : Launch} {G : zG} {p1 : Int32} {p2 : Int32} {M : zM} {Kf : Int32 → zM → Prop} (h : ((¬ p2 = (zmI M 31 0 0) → (zCalI l G Y_X9_low 0 0 [vr 30 0] M (fun x3 M2 => ((x3 ≤ p1 → (zCalI l G Y_X9_endOfChance 0 0 [vr 30 0] M2 (fun x5 M4 => ((p1 < x5 → (Kf 3 M4)) ∧ (¬ p1 < x5 → (Kf 2 M4)))))) ∧ (¬ x3 ≤ p1 → (Kf 1 M2)))))) ∧ (p2 = (zmI M 31 0 0) → (Kf 0 M)))) : zCalI l G Y_X9_howOf 0 0 [vr 30 0, vi p1, vi p2] M Kf := by
  refine zCal_of (lv := [(0, vr 30 0), (1, vi p1), (2, vi p2)]) (by decide) rfl (zle rfl) rfl (fun hv => zlv_args (lv := [(0, vr 30 0), (1, vi p1), (2, vi p2)]) rfl hv) ?_
  refine Z_iload_n dX9_howOf_0 rfl 2 rfl ?_
  refine Z_aload_n dX9_howOf_1 rfl 0 rfl ?_
  refine Z_getR (s1 := 31) (i1 := 0) zfl_X9_9 rfl (fun q => by first | exact q | decide) dX9_howOf_2 ?_
  refine Z_iconst (v := 0) (by decide) dX9_howOf_5 ?_
  refine Z_ialdK (n := 484) (j := 0) rfl (by decide) (zvin (by decide)) dX9_howOf_6 ?_
  refine Z_icmp_ne (tgt := 12) dX9_howOf_7 (by decide) (fun q => ?_) (fun q => ?_)
  · have h := h.1 q
    refine Z_iload_n dX9_howOf_12 rfl 1 rfl ?_
    refine Z_aload_n dX9_howOf_13 rfl 0 rfl ?_
    refine Z_callVI (as := []) zRm_M zcv_X9_howOf_X9_low_82 (ci := 13) rfl rfl rfl rfl (zle rfl) dX9_howOf_14 ⟨Nat.le_refl _, Nat.le_refl _⟩ h (fun x3 M2 h => ?_)
    refine Z_icmp_ge (tgt := 24) dX9_howOf_17 (by decide) (fun q => ?_) (fun q => ?_)
    · have h := h.1 q
      refine Z_iload_n dX9_howOf_24 rfl 1 rfl ?_
      refine Z_aload_n dX9_howOf_25 rfl 0 rfl ?_
      refine Z_callVI (as := []) zRm_M zcv_X9_howOf_X9_endOfChance_85 (ci := 13) rfl rfl rfl rfl (zle rfl) dX9_howOf_26 ⟨Nat.le_refl _, Nat.le_refl _⟩ h (fun x5 M4 h => ?_)
      refine Z_icmp_lt (tgt := 36) dX9_howOf_29 (by decide) (fun q => ?_) (fun q => ?_)
      · have h := h.1 q
        refine Z_iconst (v := 3) (by decide) dX9_howOf_36 ?_
        exact Z_iret rfl rfl dX9_howOf_37 (Nat.le_refl _) (Nat.le_refl _) ⟨_, rfl, h⟩
      · have h := h.2 q
        refine Z_iconst (v := 2) (by decide) dX9_howOf_32 ?_
        refine Z_goto (tgt := 37) dX9_howOf_33 (by decide) ?_
        exact Z_iret rfl rfl dX9_howOf_37 (Nat.le_refl _) (Nat.le_refl _) ⟨_, rfl, h⟩
    · have h := h.2 q
      refine Z_iconst (v := 1) (by decide) dX9_howOf_20 ?_
      refine Z_goto (tgt := 37) dX9_howOf_21 (by decide) ?_
      exact Z_iret rfl rfl dX9_howOf_37 (Nat.le_refl _) (Nat.le_refl _) ⟨_, rfl, h⟩
  · have h := h.2 q
    refine Z_iconst (v := 0) (by decide) dX9_howOf_10 ?_
    exact Z_iret rfl rfl dX9_howOf_11 (Nat.le_refl _) (Nat.le_refl _) ⟨_, rfl, h⟩
-- X9_low
set_option maxRecDepth 100000 in
set_option maxHeartbeats 4000000 in
theorem zm_X9_low {l : Launch} {G : zG} {M : zM} {Kf : Int32 → zM → Prop} (h : (Kf (1024 * (zmI M 31 0 2)) M)) : zCalI l G Y_X9_low 0 0 [vr 30 0] M Kf := by
  refine zCal_of (lv := [(0, vr 30 0)]) (by decide) rfl (zle rfl) rfl (fun hv => zlv_args (lv := [(0, vr 30 0)]) rfl hv) ?_
  refine Z_sipush (v := 1024) (by decide) dX9_low_0 ?_
  refine Z_aload_n dX9_low_3 rfl 0 rfl ?_
  refine Z_getR (s1 := 31) (i1 := 0) zfl_X9_9 rfl (fun q => by first | exact q | decide) dX9_low_4 ?_
  refine Z_iconst (v := 2) (by decide) dX9_low_7 ?_
  refine Z_ialdK (n := 484) (j := 2) rfl (by decide) (zvin (by decide)) dX9_low_8 ?_
  refine Z_imul dX9_low_9 ?_
  exact Z_iret rfl rfl dX9_low_10 (Nat.le_refl _) (Nat.le_refl _) ⟨_, rfl, h⟩
-- X9_high
set_option maxRecDepth 100000 in
set_option maxHeartbeats 4000000 in
theorem zm_X9_high {l : Launch} {G : zG} {M : zM} {Kf : Int32 → zM → Prop} (h : (Kf (1024 * (zmI M 31 0 3)) M)) : zCalI l G Y_X9_high 0 0 [vr 30 0] M Kf := by
  refine zCal_of (lv := [(0, vr 30 0)]) (by decide) rfl (zle rfl) rfl (fun hv => zlv_args (lv := [(0, vr 30 0)]) rfl hv) ?_
  refine Z_sipush (v := 1024) (by decide) dX9_high_0 ?_
  refine Z_aload_n dX9_high_3 rfl 0 rfl ?_
  refine Z_getR (s1 := 31) (i1 := 0) zfl_X9_9 rfl (fun q => by first | exact q | decide) dX9_high_4 ?_
  refine Z_iconst (v := 3) (by decide) dX9_high_7 ?_
  refine Z_ialdK (n := 484) (j := 3) rfl (by decide) (zvin (by decide)) dX9_high_8 ?_
  refine Z_imul dX9_high_9 ?_
  exact Z_iret rfl rfl dX9_high_10 (Nat.le_refl _) (Nat.le_refl _) ⟨_, rfl, h⟩
-- X9_endOfChance
set_option maxRecDepth 100000 in
set_option maxHeartbeats 4000000 in
theorem zm_X9_endOfChance {l : Launch} {G : zG} {M : zM} {Kf : Int32 → zM → Prop} (h : ((¬ (zmI M 31 0 6) = 1 → (zCalI l G Y_X9_high 0 0 [vr 30 0] M (fun x3 M2 => (Kf x3 M2)))) ∧ ((zmI M 31 0 6) = 1 → (zCalI l G Y_X9_high 0 0 [vr 30 0] M (fun x5 M4 => (Kf (2 * x5) M4)))))) : zCalI l G Y_X9_endOfChance 0 0 [vr 30 0] M Kf := by
  refine zCal_of (lv := [(0, vr 30 0)]) (by decide) rfl (zle rfl) rfl (fun hv => zlv_args (lv := [(0, vr 30 0)]) rfl hv) ?_
  refine Z_aload_n dX9_endOfChance_0 rfl 0 rfl ?_
  refine Z_getR (s1 := 31) (i1 := 0) zfl_X9_9 rfl (fun q => by first | exact q | decide) dX9_endOfChance_1 ?_
  refine Z_bipush (v := 6) (by decide) dX9_endOfChance_4 ?_
  refine Z_ialdK (n := 484) (j := 6) rfl (by decide) (zvin (by decide)) dX9_endOfChance_6 ?_
  refine Z_iconst (v := 1) (by decide) dX9_endOfChance_7 ?_
  refine Z_icmp_ne (tgt := 20) dX9_endOfChance_8 (by decide) (fun q => ?_) (fun q => ?_)
  · have h := h.1 q
    refine Z_aload_n dX9_endOfChance_20 rfl 0 rfl ?_
    refine Z_callVI (as := []) zRm_M zcv_X9_endOfChance_X9_high_78 (ci := 13) rfl rfl rfl rfl (zle rfl) dX9_endOfChance_21 ⟨Nat.le_refl _, Nat.le_refl _⟩ h (fun x3 M2 h => ?_)
    exact Z_iret rfl rfl dX9_endOfChance_24 (Nat.le_refl _) (Nat.le_refl _) ⟨_, rfl, h⟩
  · have h := h.2 q
    refine Z_iconst (v := 2) (by decide) dX9_endOfChance_11 ?_
    refine Z_aload_n dX9_endOfChance_12 rfl 0 rfl ?_
    refine Z_callVI (as := []) zRm_M zcv_X9_endOfChance_X9_high_78 (ci := 13) rfl rfl rfl rfl (zle rfl) dX9_endOfChance_13 ⟨Nat.le_refl _, Nat.le_refl _⟩ h (fun x5 M4 h => ?_)
    refine Z_imul dX9_endOfChance_16 ?_
    refine Z_goto (tgt := 24) dX9_endOfChance_17 (by decide) ?_
    exact Z_iret rfl rfl dX9_endOfChance_24 (Nat.le_refl _) (Nat.le_refl _) ⟨_, rfl, h⟩
-- X9_baseOf
set_option maxRecDepth 100000 in
set_option maxHeartbeats 4000000 in
theorem zm_X9_baseOf {l : Launch} {G : zG} {p1 : Int32} {M : zM} {Kf : Int64 → zM → Prop} (h : (zCalI l G Y_X9_low 0 0 [vr 30 0] M (fun x2 M1 => ((x2 ≤ p1 → (zCalI l G Y_X9_endOfChance 0 0 [vr 30 0] M1 (fun x4 M3 => ((p1 < x4 → (zCalI l G Y_X9_high 0 0 [vr 30 0] M3 (fun x6 M5 => ((x6 ≤ p1 → (zCalI l G Y_X9_high 0 0 [vr 30 0] M5 (fun x10 M9 => (zCalI l G Y_X9_high 0 0 [vr 30 0] M9 (fun x12 M11 => (¬ ((x12 : Int32).toInt64) = 0 ∧ (Kf ((((zmI M5 31 0 4) : Int32).toInt64) + (((((65536 - (zmI M5 31 0 4)) : Int32).toInt64) * (((p1 - x10) : Int32).toInt64)) / ((x12 : Int32).toInt64))) M11))))))) ∧ (¬ x6 ≤ p1 → (zCalI l G Y_X9_low 0 0 [vr 30 0] M5 (fun x16 M15 => (zCalI l G Y_X9_high 0 0 [vr 30 0] M15 (fun x18 M17 => (zCalI l G Y_X9_low 0 0 [vr 30 0] M17 (fun x20 M19 => (¬ (((x18 - x20) : Int32).toInt64) = 0 ∧ (Kf (((((zmI M5 31 0 4) : Int32).toInt64) * (((p1 - x16) : Int32).toInt64)) / (((x18 - x20) : Int32).toInt64)) M19))))))))))))) ∧ (¬ p1 < x4 → (Kf 65536 M3)))))) ∧ (¬ x2 ≤ p1 → (Kf 0 M1)))))) : zCalL l G Y_X9_baseOf 0 0 [vr 30 0, vi p1] M Kf := by
  refine zCal_of (lv := [(0, vr 30 0), (1, vi p1)]) (by decide) rfl (zle rfl) rfl (fun hv => zlv_args (lv := [(0, vr 30 0), (1, vi p1)]) rfl hv) ?_
  refine Z_iload_n dX9_baseOf_0 rfl 1 rfl ?_
  refine Z_aload_n dX9_baseOf_1 rfl 0 rfl ?_
  refine Z_callVI (as := []) zRm_M zcv_X9_baseOf_X9_low_82 (ci := 13) rfl rfl rfl rfl (zle rfl) dX9_baseOf_2 ⟨Nat.le_refl _, Nat.le_refl _⟩ h (fun x2 M1 h => ?_)
  refine Z_icmp_ge (tgt := 10) dX9_baseOf_5 (by decide) (fun q => ?_) (fun q => ?_)
  · have h := h.1 q
    refine Z_iload_n dX9_baseOf_10 rfl 1 rfl ?_
    refine Z_aload_n dX9_baseOf_11 rfl 0 rfl ?_
    refine Z_callVI (as := []) zRm_M zcv_X9_baseOf_X9_endOfChance_85 (ci := 13) rfl rfl rfl rfl (zle rfl) dX9_baseOf_12 ⟨Nat.le_refl _, Nat.le_refl _⟩ h (fun x4 M3 h => ?_)
    refine Z_icmp_lt (tgt := 22) dX9_baseOf_15 (by decide) (fun q => ?_) (fun q => ?_)
    · have h := h.1 q
      refine Z_iload_n dX9_baseOf_22 rfl 1 rfl ?_
      refine Z_aload_n dX9_baseOf_23 rfl 0 rfl ?_
      refine Z_callVI (as := []) zRm_M zcv_X9_baseOf_X9_high_78 (ci := 13) rfl rfl rfl rfl (zle rfl) dX9_baseOf_24 ⟨Nat.le_refl _, Nat.le_refl _⟩ h (fun x6 M5 h => ?_)
      refine Z_icmp_ge (tgt := 57) dX9_baseOf_27 (by decide) (fun q => ?_) (fun q => ?_)
      · have h := h.1 q
        refine Z_aload_n dX9_baseOf_57 rfl 0 rfl ?_
        refine Z_getR (s1 := 31) (i1 := 0) zfl_X9_9 rfl (fun q => by first | exact q | decide) dX9_baseOf_58 ?_
        refine Z_iconst (v := 4) (by decide) dX9_baseOf_61 ?_
        refine Z_ialdK (n := 484) (j := 4) rfl (by decide) (zvin (by decide)) dX9_baseOf_62 ?_
        refine Z_i2l dX9_baseOf_63 ?_
        refine Z_ldc (v := 65536) zw_1775 dX9_baseOf_64 ?_
        refine Z_aload_n dX9_baseOf_66 rfl 0 rfl ?_
        refine Z_getR (s1 := 31) (i1 := 0) zfl_X9_9 rfl (fun q => by first | exact q | decide) dX9_baseOf_67 ?_
        refine Z_iconst (v := 4) (by decide) dX9_baseOf_70 ?_
        refine Z_ialdK (n := 484) (j := 4) rfl (by decide) (zvin (by decide)) dX9_baseOf_71 ?_
        refine Z_isub dX9_baseOf_72 ?_
        refine Z_i2l dX9_baseOf_73 ?_
        refine Z_iload_n dX9_baseOf_74 rfl 1 rfl ?_
        refine Z_aload_n dX9_baseOf_75 rfl 0 rfl ?_
        refine Z_callVI (as := []) zRm_M zcv_X9_baseOf_X9_high_78 (ci := 13) rfl rfl rfl rfl (zle rfl) dX9_baseOf_76 ⟨Nat.le_refl _, Nat.le_refl _⟩ h (fun x10 M9 h => ?_)
        refine Z_isub dX9_baseOf_79 ?_
        refine Z_i2l dX9_baseOf_80 ?_
        refine Z_lmul dX9_baseOf_81 ?_
        refine Z_aload_n dX9_baseOf_82 rfl 0 rfl ?_
        refine Z_callVI (as := []) zRm_M zcv_X9_baseOf_X9_high_78 (ci := 13) rfl rfl rfl rfl (zle rfl) dX9_baseOf_83 ⟨Nat.le_refl _, Nat.le_refl _⟩ h (fun x12 M11 h => ?_)
        refine Z_i2l dX9_baseOf_86 ?_
        obtain ⟨g13, h⟩ := h
        refine Z_ldiv dX9_baseOf_87 g13 ?_
        refine Z_ladd dX9_baseOf_88 ?_
        exact Z_lret rfl dX9_baseOf_89 (Nat.le_refl _) (Nat.le_refl _) ⟨_, rfl, h⟩
      · have h := h.2 q
        refine Z_aload_n dX9_baseOf_30 rfl 0 rfl ?_
        refine Z_getR (s1 := 31) (i1 := 0) zfl_X9_9 rfl (fun q => by first | exact q | decide) dX9_baseOf_31 ?_
        refine Z_iconst (v := 4) (by decide) dX9_baseOf_34 ?_
        refine Z_ialdK (n := 484) (j := 4) rfl (by decide) (zvin (by decide)) dX9_baseOf_35 ?_
        refine Z_i2l dX9_baseOf_36 ?_
        refine Z_iload_n dX9_baseOf_37 rfl 1 rfl ?_
        refine Z_aload_n dX9_baseOf_38 rfl 0 rfl ?_
        refine Z_callVI (as := []) zRm_M zcv_X9_baseOf_X9_low_82 (ci := 13) rfl rfl rfl rfl (zle rfl) dX9_baseOf_39 ⟨Nat.le_refl _, Nat.le_refl _⟩ h (fun x16 M15 h => ?_)
        refine Z_isub dX9_baseOf_42 ?_
        refine Z_i2l dX9_baseOf_43 ?_
        refine Z_lmul dX9_baseOf_44 ?_
        refine Z_aload_n dX9_baseOf_45 rfl 0 rfl ?_
        refine Z_callVI (as := []) zRm_M zcv_X9_baseOf_X9_high_78 (ci := 13) rfl rfl rfl rfl (zle rfl) dX9_baseOf_46 ⟨Nat.le_refl _, Nat.le_refl _⟩ h (fun x18 M17 h => ?_)
        refine Z_aload_n dX9_baseOf_49 rfl 0 rfl ?_
        refine Z_callVI (as := []) zRm_M zcv_X9_baseOf_X9_low_82 (ci := 13) rfl rfl rfl rfl (zle rfl) dX9_baseOf_50 ⟨Nat.le_refl _, Nat.le_refl _⟩ h (fun x20 M19 h => ?_)
        refine Z_isub dX9_baseOf_53 ?_
        refine Z_i2l dX9_baseOf_54 ?_
        obtain ⟨g21, h⟩ := h
        refine Z_ldiv dX9_baseOf_55 g21 ?_
        exact Z_lret rfl dX9_baseOf_56 (Nat.le_refl _) (Nat.le_refl _) ⟨_, rfl, h⟩
    · have h := h.2 q
      refine Z_ldc2 (v := 65536) zw_1948 dX9_baseOf_18 ?_
      exact Z_lret rfl dX9_baseOf_21 (Nat.le_refl _) (Nat.le_refl _) ⟨_, rfl, h⟩
  · have h := h.2 q
    refine Z_lconst (v := 0) (by decide) dX9_baseOf_8 ?_
    exact Z_lret rfl dX9_baseOf_9 (Nat.le_refl _) (Nat.le_refl _) ⟨_, rfl, h⟩
-- X9_keeps
set_option maxRecDepth 100000 in
set_option maxHeartbeats 4000000 in
theorem zm_X9_keeps {l : Launch} {G : zG} {p1 : Int32} {p2 : Int32} {p3 : Int32} {p4 : Int32} {p5 : Int32} {p6 : Int32} {M : zM} {Kf : zM → Prop} (h : ((¬ (zmI M 31 0 12) = 24 → zAt l G Y_X9_keeps (zEV G Y_X9_keeps Kf) 59 [(0, vr 30 0), (1, vi p1), (2, vi p2), (3, vi p3), (4, vi p4), (5, vi p5), (6, vi p6)] [] M 0 0) ∧ ((zmI M 31 0 12) = 24 → zAt l G Y_X9_keeps (zEV G Y_X9_keeps Kf) 17 [(0, vr 30 0), (1, vi p1), (2, vi p2), (3, vi p3), (4, vi p4), (5, vi p5), (6, vi p6), (7, vi 292)] [] M 0 0))) : zCalV l G Y_X9_keeps 0 0 [vr 30 0, vi p1, vi p2, vi p3, vi p4, vi p5, vi p6] M Kf := by
  refine zCal_of (lv := [(0, vr 30 0), (1, vi p1), (2, vi p2), (3, vi p3), (4, vi p4), (5, vi p5), (6, vi p6)]) (by decide) rfl (zle rfl) rfl (fun hv => zlv_args (lv := [(0, vr 30 0), (1, vi p1), (2, vi p2), (3, vi p3), (4, vi p4), (5, vi p5), (6, vi p6)]) rfl hv) ?_
  refine Z_aload_n dX9_keeps_0 rfl 0 rfl ?_
  refine Z_getR (s1 := 31) (i1 := 0) zfl_X9_9 rfl (fun q => by first | exact q | decide) dX9_keeps_1 ?_
  refine Z_bipush (v := 12) (by decide) dX9_keeps_4 ?_
  refine Z_ialdK (n := 484) (j := 12) rfl (by decide) (zvin (by decide)) dX9_keeps_6 ?_
  refine Z_bipush (v := 24) (by decide) dX9_keeps_7 ?_
  refine Z_icmp_ne (tgt := 59) dX9_keeps_9 (by decide) (fun q => ?_) (fun q => ?_)
  · have h := h.1 q
    exact h
  · have h := h.2 q
    refine Z_sipush (v := 292) (by decide) dX9_keeps_12 ?_
    refine Z_istore (lv2 := [(7, vi 292), (0, vr 30 0), (1, vi p1), (2, vi p2), (3, vi p3), (4, vi p4), (5, vi p5), (6, vi p6)]) dX9_keeps_15 (by decide) rfl ?_
    exact Z_pick [1, 2, 3, 4, 5, 6, 7, 0] rfl h
set_option maxRecDepth 100000 in
set_option maxHeartbeats 4000000 in
theorem zb_X9_keeps_59 {l : Launch} {G : zG} {y1 : Int32} {y2 : Int32} {y3 : Int32} {y4 : Int32} {y5 : Int32} {y6 : Int32} {M : zM} {Kf : zM → Prop} (h : (vp_in (292 + (8 * (zmI M 31 0 12))) 484 ∧ (vp_in ((292 + (8 * (zmI M 31 0 12))) + 1) 484 ∧ (vp_in ((292 + (8 * (zmI M 31 0 12))) + 2) 484 ∧ (vp_in ((292 + (8 * (zmI M 31 0 12))) + 3) 484 ∧ (vp_in ((292 + (8 * (zmI M 31 0 12))) + 4) 484 ∧ (vp_in ((292 + (8 * (zmI M 31 0 12))) + 5) 484 ∧ (vp_in ((292 + (8 * (zmI M 31 0 12))) + 6) 484 ∧ (vp_in ((292 + (8 * (zmI M 31 0 12))) + 7) 484 ∧ (Kf (zsI (zsI (zsI (zsI (zsI (zsI (zsI (zsI (zsI M 31 0 (292 + (8 * (zmI M 31 0 12))).toNatClampNeg (zmI M 31 0 7)) 31 0 ((292 + (8 * (zmI M 31 0 12))) + 1).toNatClampNeg y1) 31 0 ((292 + (8 * (zmI M 31 0 12))) + 2).toNatClampNeg y2) 31 0 ((292 + (8 * (zmI M 31 0 12))) + 3).toNatClampNeg (zmI (zsI (zsI (zsI M 31 0 (292 + (8 * (zmI M 31 0 12))).toNatClampNeg (zmI M 31 0 7)) 31 0 ((292 + (8 * (zmI M 31 0 12))) + 1).toNatClampNeg y1) 31 0 ((292 + (8 * (zmI M 31 0 12))) + 2).toNatClampNeg y2) 31 0 9)) 31 0 ((292 + (8 * (zmI M 31 0 12))) + 4).toNatClampNeg y3) 31 0 ((292 + (8 * (zmI M 31 0 12))) + 5).toNatClampNeg y4) 31 0 ((292 + (8 * (zmI M 31 0 12))) + 6).toNatClampNeg y5) 31 0 ((292 + (8 * (zmI M 31 0 12))) + 7).toNatClampNeg y6) 31 0 12 ((zmI (zsI (zsI (zsI (zsI (zsI (zsI (zsI (zsI M 31 0 (292 + (8 * (zmI M 31 0 12))).toNatClampNeg (zmI M 31 0 7)) 31 0 ((292 + (8 * (zmI M 31 0 12))) + 1).toNatClampNeg y1) 31 0 ((292 + (8 * (zmI M 31 0 12))) + 2).toNatClampNeg y2) 31 0 ((292 + (8 * (zmI M 31 0 12))) + 3).toNatClampNeg (zmI (zsI (zsI (zsI M 31 0 (292 + (8 * (zmI M 31 0 12))).toNatClampNeg (zmI M 31 0 7)) 31 0 ((292 + (8 * (zmI M 31 0 12))) + 1).toNatClampNeg y1) 31 0 ((292 + (8 * (zmI M 31 0 12))) + 2).toNatClampNeg y2) 31 0 9)) 31 0 ((292 + (8 * (zmI M 31 0 12))) + 4).toNatClampNeg y3) 31 0 ((292 + (8 * (zmI M 31 0 12))) + 5).toNatClampNeg y4) 31 0 ((292 + (8 * (zmI M 31 0 12))) + 6).toNatClampNeg y5) 31 0 ((292 + (8 * (zmI M 31 0 12))) + 7).toNatClampNeg y6) 31 0 12) + 1)))))))))))) : zAt l G Y_X9_keeps (zEV G Y_X9_keeps Kf) 59 [(0, vr 30 0), (1, vi y1), (2, vi y2), (3, vi y3), (4, vi y4), (5, vi y5), (6, vi y6)] [] M 0 0 := by
  refine Z_sipush (v := 292) (by decide) dX9_keeps_59 ?_
  refine Z_bipush (v := 8) (by decide) dX9_keeps_62 ?_
  refine Z_aload_n dX9_keeps_64 rfl 0 rfl ?_
  refine Z_getR (s1 := 31) (i1 := 0) zfl_X9_9 rfl (fun q => by first | exact q | decide) dX9_keeps_65 ?_
  refine Z_bipush (v := 12) (by decide) dX9_keeps_68 ?_
  refine Z_ialdK (n := 484) (j := 12) rfl (by decide) (zvin (by decide)) dX9_keeps_70 ?_
  refine Z_imul dX9_keeps_71 ?_
  refine Z_iadd dX9_keeps_72 ?_
  refine Z_istore (lv2 := [(7, vi (292 + (8 * (zmI M 31 0 12)))), (0, vr 30 0), (1, vi y1), (2, vi y2), (3, vi y3), (4, vi y4), (5, vi y5), (6, vi y6)]) dX9_keeps_73 (by decide) rfl ?_
  refine Z_aload_n dX9_keeps_75 rfl 1 rfl ?_
  refine Z_getR (s1 := 31) (i1 := 0) zfl_X9_9 rfl (fun q => by first | exact q | decide) dX9_keeps_76 ?_
  refine Z_iload dX9_keeps_79 0 rfl ?_
  refine Z_aload_n dX9_keeps_81 rfl 1 rfl ?_
  refine Z_getR (s1 := 31) (i1 := 0) zfl_X9_9 rfl (fun q => by first | exact q | decide) dX9_keeps_82 ?_
  refine Z_bipush (v := 7) (by decide) dX9_keeps_85 ?_
  refine Z_ialdK (n := 484) (j := 7) rfl (by decide) (zvin (by decide)) dX9_keeps_87 ?_
  obtain ⟨g3, h⟩ := h
  refine Z_iast (n := 484) rfl g3 dX9_keeps_88 ?_
  refine Z_aload_n dX9_keeps_89 rfl 1 rfl ?_
  refine Z_getR (s1 := 31) (i1 := 0) zfl_X9_9 rfl (fun q => by first | exact q | decide) dX9_keeps_90 ?_
  refine Z_iload dX9_keeps_93 0 rfl ?_
  refine Z_iconst (v := 1) (by decide) dX9_keeps_95 ?_
  refine Z_iadd dX9_keeps_96 ?_
  refine Z_iload_n dX9_keeps_97 rfl 2 rfl ?_
  obtain ⟨g4, h⟩ := h
  refine Z_iast (n := 484) rfl g4 dX9_keeps_98 ?_
  refine Z_aload_n dX9_keeps_99 rfl 1 rfl ?_
  refine Z_getR (s1 := 31) (i1 := 0) zfl_X9_9 rfl (fun q => by first | exact q | decide) dX9_keeps_100 ?_
  refine Z_iload dX9_keeps_103 0 rfl ?_
  refine Z_iconst (v := 2) (by decide) dX9_keeps_105 ?_
  refine Z_iadd dX9_keeps_106 ?_
  refine Z_iload_n dX9_keeps_107 rfl 3 rfl ?_
  obtain ⟨g5, h⟩ := h
  refine Z_iast (n := 484) rfl g5 dX9_keeps_108 ?_
  refine Z_aload_n dX9_keeps_109 rfl 1 rfl ?_
  refine Z_getR (s1 := 31) (i1 := 0) zfl_X9_9 rfl (fun q => by first | exact q | decide) dX9_keeps_110 ?_
  refine Z_iload dX9_keeps_113 0 rfl ?_
  refine Z_iconst (v := 3) (by decide) dX9_keeps_115 ?_
  refine Z_iadd dX9_keeps_116 ?_
  refine Z_aload_n dX9_keeps_117 rfl 1 rfl ?_
  refine Z_getR (s1 := 31) (i1 := 0) zfl_X9_9 rfl (fun q => by first | exact q | decide) dX9_keeps_118 ?_
  refine Z_bipush (v := 9) (by decide) dX9_keeps_121 ?_
  refine Z_ialdK (n := 484) (j := 9) rfl (by decide) (zvin (by decide)) dX9_keeps_123 ?_
  obtain ⟨g7, h⟩ := h
  refine Z_iast (n := 484) rfl g7 dX9_keeps_124 ?_
  refine Z_aload_n dX9_keeps_125 rfl 1 rfl ?_
  refine Z_getR (s1 := 31) (i1 := 0) zfl_X9_9 rfl (fun q => by first | exact q | decide) dX9_keeps_126 ?_
  refine Z_iload dX9_keeps_129 0 rfl ?_
  refine Z_iconst (v := 4) (by decide) dX9_keeps_131 ?_
  refine Z_iadd dX9_keeps_132 ?_
  refine Z_iload_n dX9_keeps_133 rfl 4 rfl ?_
  obtain ⟨g8, h⟩ := h
  refine Z_iast (n := 484) rfl g8 dX9_keeps_134 ?_
  refine Z_aload_n dX9_keeps_135 rfl 1 rfl ?_
  refine Z_getR (s1 := 31) (i1 := 0) zfl_X9_9 rfl (fun q => by first | exact q | decide) dX9_keeps_136 ?_
  refine Z_iload dX9_keeps_139 0 rfl ?_
  refine Z_iconst (v := 5) (by decide) dX9_keeps_141 ?_
  refine Z_iadd dX9_keeps_142 ?_
  refine Z_iload dX9_keeps_143 5 rfl ?_
  obtain ⟨g9, h⟩ := h
  refine Z_iast (n := 484) rfl g9 dX9_keeps_145 ?_
  refine Z_aload_n dX9_keeps_146 rfl 1 rfl ?_
  refine Z_getR (s1 := 31) (i1 := 0) zfl_X9_9 rfl (fun q => by first | exact q | decide) dX9_keeps_147 ?_
  refine Z_iload dX9_keeps_150 0 rfl ?_
  refine Z_bipush (v := 6) (by decide) dX9_keeps_152 ?_
  refine Z_iadd dX9_keeps_154 ?_
  refine Z_iload dX9_keeps_155 6 rfl ?_
  obtain ⟨g10, h⟩ := h
  refine Z_iast (n := 484) rfl g10 dX9_keeps_157 ?_
  refine Z_aload_n dX9_keeps_158 rfl 1 rfl ?_
  refine Z_getR (s1 := 31) (i1 := 0) zfl_X9_9 rfl (fun q => by first | exact q | decide) dX9_keeps_159 ?_
  refine Z_iload dX9_keeps_162 0 rfl ?_
  refine Z_bipush (v := 7) (by decide) dX9_keeps_164 ?_
  refine Z_iadd dX9_keeps_166 ?_
  refine Z_iload dX9_keeps_167 7 rfl ?_
  obtain ⟨g11, h⟩ := h
  refine Z_iast (n := 484) rfl g11 dX9_keeps_169 ?_
  refine Z_aload_n dX9_keeps_170 rfl 1 rfl ?_
  refine Z_getR (s1 := 31) (i1 := 0) zfl_X9_9 rfl (fun q => by first | exact q | decide) dX9_keeps_171 ?_
  refine Z_bipush (v := 12) (by decide) dX9_keeps_174 ?_
  refine Z_dup2 rfl rfl dX9_keeps_176 ?_
  refine Z_ialdK (n := 484) (j := 12) rfl (by decide) (zvin (by decide)) dX9_keeps_177 ?_
  refine Z_iconst (v := 1) (by decide) dX9_keeps_178 ?_
  refine Z_iadd dX9_keeps_179 ?_
  refine Z_iastK (n := 484) (j := 12) rfl (by decide) (zvin (by decide)) dX9_keeps_180 ?_
  exact Z_vret rfl dX9_keeps_181 (Nat.le_refl _) (Nat.le_refl _) ⟨rfl, h⟩
set_option maxRecDepth 100000 in
set_option maxHeartbeats 4000000 in
theorem zb_X9_keeps_17 {l : Launch} {G : zG} {y1 : Int32} {y2 : Int32} {y3 : Int32} {y4 : Int32} {y5 : Int32} {y6 : Int32} {y7 : Int32} {M : zM} {Kf : zM → Prop} (h : ((476 ≤ y7 → zAt l G Y_X9_keeps (zEV G Y_X9_keeps Kf) 59 [(0, vr 30 0), (1, vi y1), (2, vi y2), (3, vi y3), (4, vi y4), (5, vi y5), (6, vi y6)] [] (zsI M 31 0 12 ((zmI M 31 0 12) - 1)) 0 0) ∧ (¬ 476 ≤ y7 → (vp_in (y7 + 8) 484 ∧ (vp_in y7 484 ∧ zAt l G Y_X9_keeps (zEV G Y_X9_keeps Kf) 17 [(0, vr 30 0), (1, vi y1), (2, vi y2), (3, vi y3), (4, vi y4), (5, vi y5), (6, vi y6), (7, vi (y7 + 1))] [] (zsI M 31 0 y7.toNatClampNeg (zmI M 31 0 (y7 + 8).toNatClampNeg)) 0 0))))) : zAt l G Y_X9_keeps (zEV G Y_X9_keeps Kf) 17 [(0, vr 30 0), (1, vi y1), (2, vi y2), (3, vi y3), (4, vi y4), (5, vi y5), (6, vi y6), (7, vi y7)] [] M 0 0 := by
  refine Z_iload dX9_keeps_17 7 rfl ?_
  refine Z_sipush (v := 476) (by decide) dX9_keeps_19 ?_
  refine Z_icmp_ge (tgt := 48) dX9_keeps_22 (by decide) (fun q => ?_) (fun q => ?_)
  · have h := h.1 q
    refine Z_aload_n dX9_keeps_48 rfl 0 rfl ?_
    refine Z_getR (s1 := 31) (i1 := 0) zfl_X9_9 rfl (fun q => by first | exact q | decide) dX9_keeps_49 ?_
    refine Z_bipush (v := 12) (by decide) dX9_keeps_52 ?_
    refine Z_dup2 rfl rfl dX9_keeps_54 ?_
    refine Z_ialdK (n := 484) (j := 12) rfl (by decide) (zvin (by decide)) dX9_keeps_55 ?_
    refine Z_iconst (v := 1) (by decide) dX9_keeps_56 ?_
    refine Z_isub dX9_keeps_57 ?_
    refine Z_iastK (n := 484) (j := 12) rfl (by decide) (zvin (by decide)) dX9_keeps_58 ?_
    exact Z_pick [0, 1, 2, 3, 4, 5, 6] rfl h
  · have h := h.2 q
    refine Z_aload_n dX9_keeps_25 rfl 0 rfl ?_
    refine Z_getR (s1 := 31) (i1 := 0) zfl_X9_9 rfl (fun q => by first | exact q | decide) dX9_keeps_26 ?_
    refine Z_iload dX9_keeps_29 7 rfl ?_
    refine Z_aload_n dX9_keeps_31 rfl 0 rfl ?_
    refine Z_getR (s1 := 31) (i1 := 0) zfl_X9_9 rfl (fun q => by first | exact q | decide) dX9_keeps_32 ?_
    refine Z_iload dX9_keeps_35 7 rfl ?_
    refine Z_bipush (v := 8) (by decide) dX9_keeps_37 ?_
    refine Z_iadd dX9_keeps_39 ?_
    obtain ⟨g3, h⟩ := h
    refine Z_iald (n := 484) rfl g3 dX9_keeps_40 ?_
    obtain ⟨g4, h⟩ := h
    refine Z_iast (n := 484) rfl g4 dX9_keeps_41 ?_
    refine Z_iinc (v := (y7 + 1)) (lv2 := [(7, vi (y7 + 1)), (0, vr 30 0), (1, vi y1), (2, vi y2), (3, vi y3), (4, vi y4), (5, vi y5), (6, vi y6)]) dX9_keeps_42 7 rfl rfl (by decide) rfl ?_
    refine Z_goto (tgt := 17) dX9_keeps_45 (by decide) ?_
    exact Z_pick [1, 2, 3, 4, 5, 6, 7, 0] rfl h
