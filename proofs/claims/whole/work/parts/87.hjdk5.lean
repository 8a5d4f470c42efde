/-! printed by wip/whole/h_*.py -/
abbrev Y_J5_append_c97b9 : zY := (yJ5_append_c97b9, cJ5_append_c97b9, 4, (some (.object "java/lang/AbstractStringBuilder")), 15, [])
theorem zw_1096 : Cond.methodLink RJ5 245 yJ6_stringSize_0f7a4 ∈ zAll := zin 1096 (by decide +kernel) (by decide +kernel)
theorem zw_1098 : Cond.code yJ6_stringSize_0f7a4 cJ6_stringSize_0f7a4 4 (some .int) ∈ zAll := zin 1098 (by decide +kernel) (by decide +kernel)
theorem zw_1097 : Cond.static yJ6_stringSize_0f7a4 ∈ zAll := zin 1097 (by decide +kernel) (by decide +kernel)
theorem zw_138 : Cond.initialized RJ6 ∈ zAll := zin 138 (by decide +kernel) (by decide +kernel)
theorem hcs_J5_append_c97b9_J6_stringSize_0f7a4_245 : zLS Y_J5_append_c97b9 245 Y_J6_stringSize_0f7a4 1 := ⟨zw_1096, zw_1097, zw_138, zw_1098, by decide +kernel, by decide, by decide⟩
theorem hcp_J5_append_c97b9_J5_ensureCapacityInternal_d00df_100 : hLP Y_J5_append_c97b9 100 Y_J5_ensureCapacityInternal_d00df 1 := ⟨zw_1017, zw_2237, (by decide +kernel), zw_1019, zw_120, zw_1020, by decide +kernel, by decide, by decide⟩
theorem hcn_J5_append_c97b9_J5_isLatin1_aae02_83 : hLN Y_J5_append_c97b9 83 Y_J5_isLatin1_aae02 0 RJ4 := ⟨zw_1046, zw_1048, zw_1049, zw_1047, zw_120, zw_1050, by decide +kernel, by decide, by decide⟩
theorem zw_1099 : Cond.methodLink RJ5 248 yJ6_getChars_ba4f3 ∈ zAll := zin 1099 (by decide +kernel) (by decide +kernel)
theorem zw_1101 : Cond.code yJ6_getChars_ba4f3 cJ6_getChars_ba4f3 7 (some .int) ∈ zAll := zin 1101 (by decide +kernel) (by decide +kernel)
theorem zw_1100 : Cond.static yJ6_getChars_ba4f3 ∈ zAll := zin 1100 (by decide +kernel) (by decide +kernel)
theorem hcs_J5_append_c97b9_J6_getChars_ba4f3_248 : zLS Y_J5_append_c97b9 248 Y_J6_getChars_ba4f3 3 := ⟨zw_1099, zw_1100, zw_138, zw_1101, by decide +kernel, by decide, by decide⟩
theorem zw_1093 : Cond.methodLink RJ4 53 yJ5_append_c97b9 ∈ zAll := zin 1093 (by decide +kernel) (by decide +kernel)
theorem zw_1095 : Cond.code yJ5_append_c97b9 cJ5_append_c97b9 4 (some (.object "java/lang/AbstractStringBuilder")) ∈ zAll := zin 1095 (by decide +kernel) (by decide +kernel)
theorem zw_1094 : Cond.instanceMethod yJ5_append_c97b9 ∈ zAll := zin 1094 (by decide +kernel) (by decide +kernel)
theorem zw_2242 : Cond.sameMethod "java/lang/AbstractStringBuilder" "java/lang/AbstractStringBuilder" "append" "(I)Ljava/lang/AbstractStringBuilder;" ∈ zAll := zin 2242 (by decide +kernel) (by decide +kernel)
theorem hcu_J4_append_bf812_J5_append_c97b9_53 : hLU Y_J4_append_bf812 53 Y_J5_append_c97b9 1 := ⟨zw_1093, zw_2242, zw_479, zw_1094, zw_120, zw_1095, by decide +kernel, by decide +kernel, by decide, by decide⟩
abbrev Y_J5_inflateIfNeededFor_a7421 : zY := (yJ5_inflateIfNeededFor_a7421, cJ5_inflateIfNeededFor_a7421, 2, none, 8, [])
theorem zw_1072 : Cond.methodLink RJ5 40 yJ0_coder_7d493 ∈ zAll := zin 1072 (by decide +kernel) (by decide +kernel)
theorem hcv_J5_inflateIfNeededFor_a7421_J0_coder_7d493_40 : zLV Y_J5_inflateIfNeededFor_a7421 40 Y_J0_coder_7d493 0 RJ0 := ⟨zw_1072, zw_558, zw_559, zw_122, zw_560, by decide +kernel, by decide, by decide⟩
abbrev Y_J0_getBytes_840e7 : zY := (yJ0_getBytes_840e7, cJ0_getBytes_840e7, 4, none, 8, [])
theorem hcv_J0_getBytes_840e7_J0_coder_7d493_335 : zLV Y_J0_getBytes_840e7 335 Y_J0_coder_7d493 0 RJ0 := ⟨zw_557, zw_558, zw_559, zw_122, zw_560, by decide +kernel, by decide, by decide⟩
theorem zw_1087 : Cond.methodLink RJ0 212 arraycopyName ∈ zAll := zin 1087 (by decide +kernel) (by decide +kernel)
abbrev Y_J5_putStringAt_47b60 : zY := (yJ5_putStringAt_47b60, cJ5_putStringAt_47b60, 3, none, 13, [])
theorem zw_1068 : Cond.methodLink RJ5 397 yJ5_inflateIfNeededFor_a7421 ∈ zAll := zin 1068 (by decide +kernel) (by decide +kernel)
theorem zw_1071 : Cond.code yJ5_inflateIfNeededFor_a7421 cJ5_inflateIfNeededFor_a7421 2 none ∈ zAll := zin 1071 (by decide +kernel) (by decide +kernel)
theorem zw_1070 : Cond.instanceMethod yJ5_inflateIfNeededFor_a7421 ∈ zAll := zin 1070 (by decide +kernel) (by decide +kernel)
theorem zw_2240 : Cond.sameMethod "java/lang/AbstractStringBuilder" "java/lang/AbstractStringBuilder" "inflateIfNeededFor" "(Ljava/lang/String;)V" ∈ zAll := zin 2240 (by decide +kernel) (by decide +kernel)
theorem hcp_J5_putStringAt_47b60_J5_inflateIfNeededFor_a7421_397 : hLP Y_J5_putStringAt_47b60 397 Y_J5_inflateIfNeededFor_a7421 1 := ⟨zw_1068, zw_2240, (by decide +kernel), zw_1070, zw_120, zw_1071, by decide +kernel, by decide, by decide⟩
theorem zw_1083 : Cond.methodLink RJ5 399 yJ0_getBytes_840e7 ∈ zAll := zin 1083 (by decide +kernel) (by decide +kernel)
theorem zw_1086 : Cond.code yJ0_getBytes_840e7 cJ0_getBytes_840e7 4 none ∈ zAll := zin 1086 (by decide +kernel) (by decide +kernel)
theorem zw_1084 : Cond.instanceMethod yJ0_getBytes_840e7 ∈ zAll := zin 1084 (by decide +kernel) (by decide +kernel)
theorem zw_1085 : Cond.selects RJ0 yJ0_getBytes_840e7 yJ0_getBytes_840e7 ∈ zAll := zin 1085 (by decide +kernel) (by decide +kernel)
theorem hcv_J5_putStringAt_47b60_J0_getBytes_840e7_399 : zLV Y_J5_putStringAt_47b60 399 Y_J0_getBytes_840e7 3 RJ0 := ⟨zw_1083, zw_1084, zw_1085, zw_122, zw_1086, by decide +kernel, by decide, by decide⟩
abbrev Y_J5_append_cf1ce : zY := (yJ5_append_cf1ce, cJ5_append_cf1ce, 3, (some (.object "java/lang/AbstractStringBuilder")), 15, [])
theorem zw_1063 : Cond.methodLink RJ5 32 yJ0_length_8abf5 ∈ zAll := zin 1063 (by decide +kernel) (by decide +kernel)
theorem hcv_J5_append_cf1ce_J0_length_8abf5_32 : zLV Y_J5_append_cf1ce 32 Y_J0_length_8abf5 0 RJ0 := ⟨zw_1063, zw_554, zw_555, zw_122, zw_556, by decide +kernel, by decide, by decide⟩
theorem hcp_J5_append_cf1ce_J5_ensureCapacityInternal_d00df_100 : hLP Y_J5_append_cf1ce 100 Y_J5_ensureCapacityInternal_d00df 1 := ⟨zw_1017, zw_2237, (by decide +kernel), zw_1019, zw_120, zw_1020, by decide +kernel, by decide, by decide⟩
theorem zw_1064 : Cond.methodLink RJ5 208 yJ5_putStringAt_47b60 ∈ zAll := zin 1064 (by decide +kernel) (by decide +kernel)
theorem zw_1067 : Cond.code yJ5_putStringAt_47b60 cJ5_putStringAt_47b60 3 none ∈ zAll := zin 1067 (by decide +kernel) (by decide +kernel)
theorem zw_1066 : Cond.instanceMethod yJ5_putStringAt_47b60 ∈ zAll := zin 1066 (by decide +kernel) (by decide +kernel)
theorem zw_2239 : Cond.sameMethod "java/lang/AbstractStringBuilder" "java/lang/AbstractStringBuilder" "putStringAt" "(ILjava/lang/String;)V" ∈ zAll := zin 2239 (by decide +kernel) (by decide +kernel)
theorem hcp_J5_append_cf1ce_J5_putStringAt_47b60_208 : hLP Y_J5_append_cf1ce 208 Y_J5_putStringAt_47b60 2 := ⟨zw_1064, zw_2239, (by decide +kernel), zw_1066, zw_120, zw_1067, by decide +kernel, by decide, by decide⟩
theorem zw_1010 : Cond.methodLink RJ4 29 yJ5_append_cf1ce ∈ zAll := zin 1010 (by decide +kernel) (by decide +kernel)
theorem zw_1012 : Cond.code yJ5_append_cf1ce cJ5_append_cf1ce 3 (some (.object "java/lang/AbstractStringBuilder")) ∈ zAll := zin 1012 (by decide +kernel) (by decide +kernel)
theorem zw_1011 : Cond.instanceMethod yJ5_append_cf1ce ∈ zAll := zin 1011 (by decide +kernel) (by decide +kernel)
theorem zw_2235 : Cond.sameMethod "java/lang/AbstractStringBuilder" "java/lang/AbstractStringBuilder" "append" "(Ljava/lang/String;)Ljava/lang/AbstractStringBuilder;" ∈ zAll := zin 2235 (by decide +kernel) (by decide +kernel)
theorem hcu_J4_append_15ec4_J5_append_cf1ce_29 : hLU Y_J4_append_15ec4 29 Y_J5_append_cf1ce 1 := ⟨zw_1010, zw_2235, zw_479, zw_1011, zw_120, zw_1012, by decide +kernel, by decide +kernel, by decide, by decide⟩
theorem dJ5_append_cf1ce_0 : decode cJ5_append_cf1ce 0 = .ok (.aload_n 1, 1) := by decide +kernel
theorem dJ5_append_cf1ce_1 : decode cJ5_append_cf1ce 1 = .ok (.ifnonnull 8, 3) := by decide +kernel
theorem dJ5_append_cf1ce_4 : decode cJ5_append_cf1ce 4 = .ok (.aload_n 0, 1) := by decide +kernel
theorem dJ5_append_cf1ce_5 : decode cJ5_append_cf1ce 5 = .ok (.invokevirtual 204, 3) := by decide +kernel
theorem dJ5_append_cf1ce_8 : decode cJ5_append_cf1ce 8 = .ok (.areturn, 1) := by decide +kernel
theorem dJ5_append_cf1ce_9 : decode cJ5_append_cf1ce 9 = .ok (.aload_n 1, 1) := by decide +kernel
theorem dJ5_append_cf1ce_10 : decode cJ5_append_cf1ce 10 = .ok (.invokevirtual 32, 3) := by decide +kernel
theorem dJ5_append_cf1ce_13 : decode cJ5_append_cf1ce 13 = .ok (.istore_n 2, 1) := by decide +kernel
theorem dJ5_append_cf1ce_14 : decode cJ5_append_cf1ce 14 = .ok (.aload_n 0, 1) := by decide +kernel
theorem dJ5_append_cf1ce_15 : decode cJ5_append_cf1ce 15 = .ok (.aload_n 0, 1) := by decide +kernel
theorem dJ5_append_cf1ce_16 : decode cJ5_append_cf1ce 16 = .ok (.getfield 79, 3) := by decide +kernel
theorem dJ5_append_cf1ce_19 : decode cJ5_append_cf1ce 19 = .ok (.iload_n 2, 1) := by decide +kernel
theorem dJ5_append_cf1ce_20 : decode cJ5_append_cf1ce 20 = .ok (.iadd, 1) := by decide +kernel
theorem dJ5_append_cf1ce_21 : decode cJ5_append_cf1ce 21 = .ok (.invokevirtual 100, 3) := by decide +kernel
theorem dJ5_append_cf1ce_24 : decode cJ5_append_cf1ce 24 = .ok (.aload_n 0, 1) := by decide +kernel
theorem dJ5_append_cf1ce_25 : decode cJ5_append_cf1ce 25 = .ok (.aload_n 0, 1) := by decide +kernel
theorem dJ5_append_cf1ce_26 : decode cJ5_append_cf1ce 26 = .ok (.getfield 79, 3) := by decide +kernel
theorem dJ5_append_cf1ce_29 : decode cJ5_append_cf1ce 29 = .ok (.aload_n 1, 1) := by decide +kernel
theorem dJ5_append_cf1ce_30 : decode cJ5_append_cf1ce 30 = .ok (.invokevirtual 208, 3) := by decide +kernel
theorem dJ5_append_cf1ce_33 : decode cJ5_append_cf1ce 33 = .ok (.aload_n 0, 1) := by decide +kernel
theorem dJ5_append_cf1ce_34 : decode cJ5_append_cf1ce 34 = .ok (.dup, 1) := by decide +kernel
theorem dJ5_append_cf1ce_35 : decode cJ5_append_cf1ce 35 = .ok (.getfield 79, 3) := by decide +kernel
theorem dJ5_append_cf1ce_38 : decode cJ5_append_cf1ce 38 = .ok (.iload_n 2, 1) := by decide +kernel
theorem dJ5_append_cf1ce_39 : decode cJ5_append_cf1ce 39 = .ok (.iadd, 1) := by decide +kernel
theorem dJ5_append_cf1ce_40 : decode cJ5_append_cf1ce 40 = .ok (.putfield 79, 3) := by decide +kernel
theorem dJ5_append_cf1ce_43 : decode cJ5_append_cf1ce 43 = .ok (.aload_n 0, 1) := by decide +kernel
theorem dJ5_append_cf1ce_44 : decode cJ5_append_cf1ce 44 = .ok (.areturn, 1) := by decide +kernel
theorem dJ5_append_c97b9_0 : decode cJ5_append_c97b9 0 = .ok (.aload_n 0, 1) := by decide +kernel
theorem dJ5_append_c97b9_1 : decode cJ5_append_c97b9 1 = .ok (.getfield 79, 3) := by decide +kernel
theorem dJ5_append_c97b9_4 : decode cJ5_append_c97b9 4 = .ok (.istore_n 2, 1) := by decide +kernel
theorem dJ5_append_c97b9_5 : decode cJ5_append_c97b9 5 = .ok (.iload_n 2, 1) := by decide +kernel
theorem dJ5_append_c97b9_6 : decode cJ5_append_c97b9 6 = .ok (.iload_n 1, 1) := by decide +kernel
theorem dJ5_append_c97b9_7 : decode cJ5_append_c97b9 7 = .ok (.invokestatic 245, 3) := by decide +kernel
theorem dJ5_append_c97b9_10 : decode cJ5_append_c97b9 10 = .ok (.iadd, 1) := by decide +kernel
theorem dJ5_append_c97b9_11 : decode cJ5_append_c97b9 11 = .ok (.istore_n 3, 1) := by decide +kernel
theorem dJ5_append_c97b9_12 : decode cJ5_append_c97b9 12 = .ok (.aload_n 0, 1) := by decide +kernel
theorem dJ5_append_c97b9_13 : decode cJ5_append_c97b9 13 = .ok (.iload_n 3, 1) := by decide +kernel
theorem dJ5_append_c97b9_14 : decode cJ5_append_c97b9 14 = .ok (.invokevirtual 100, 3) := by decide +kernel
theorem dJ5_append_c97b9_17 : decode cJ5_append_c97b9 17 = .ok (.aload_n 0, 1) := by decide +kernel
theorem dJ5_append_c97b9_18 : decode cJ5_append_c97b9 18 = .ok (.invokevirtual 83, 3) := by decide +kernel
theorem dJ5_append_c97b9_21 : decode cJ5_append_c97b9 21 = .ok (.ifCond .eq 16, 3) := by decide +kernel
theorem dJ5_append_c97b9_24 : decode cJ5_append_c97b9 24 = .ok (.iload_n 1, 1) := by decide +kernel
theorem dJ5_append_c97b9_25 : decode cJ5_append_c97b9 25 = .ok (.iload_n 3, 1) := by decide +kernel
theorem dJ5_append_c97b9_26 : decode cJ5_append_c97b9 26 = .ok (.aload_n 0, 1) := by decide +kernel
theorem dJ5_append_c97b9_27 : decode cJ5_append_c97b9 27 = .ok (.getfield 15, 3) := by decide +kernel
theorem dJ5_append_c97b9_30 : decode cJ5_append_c97b9 30 = .ok (.invokestatic 248, 3) := by decide +kernel
theorem dJ5_append_c97b9_33 : decode cJ5_append_c97b9 33 = .ok (.pop, 1) := by decide +kernel
theorem dJ5_append_c97b9_34 : decode cJ5_append_c97b9 34 = .ok (.goto 14, 3) := by decide +kernel
theorem dJ5_append_c97b9_37 : decode cJ5_append_c97b9 37 = .ok (.iload_n 1, 1) := by decide +kernel
theorem dJ5_append_c97b9_38 : decode cJ5_append_c97b9 38 = .ok (.iload_n 2, 1) := by decide +kernel
theorem dJ5_append_c97b9_39 : decode cJ5_append_c97b9 39 = .ok (.iload_n 3, 1) := by decide +kernel
theorem dJ5_append_c97b9_40 : decode cJ5_append_c97b9 40 = .ok (.aload_n 0, 1) := by decide +kernel
theorem dJ5_append_c97b9_41 : decode cJ5_append_c97b9 41 = .ok (.getfield 15, 3) := by decide +kernel
theorem dJ5_append_c97b9_44 : decode cJ5_append_c97b9 44 = .ok (.invokestatic 251, 3) := by decide +kernel
theorem dJ5_append_c97b9_47 : decode cJ5_append_c97b9 47 = .ok (.pop, 1) := by decide +kernel
theorem dJ5_append_c97b9_48 : decode cJ5_append_c97b9 48 = .ok (.aload_n 0, 1) := by decide +kernel
theorem dJ5_append_c97b9_49 : decode cJ5_append_c97b9 49 = .ok (.iload_n 3, 1) := by decide +kernel
theorem dJ5_append_c97b9_50 : decode cJ5_append_c97b9 50 = .ok (.putfield 79, 3) := by decide +kernel
theorem dJ5_append_c97b9_53 : decode cJ5_append_c97b9 53 = .ok (.aload_n 0, 1) := by decide +kernel
theorem dJ5_append_c97b9_54 : decode cJ5_append_c97b9 54 = .ok (.areturn, 1) := by decide +kernel
theorem dJ5_inflateIfNeededFor_a7421_0 : decode cJ5_inflateIfNeededFor_a7421 0 = .ok (.getstatic 18, 3) := by decide +kernel
theorem dJ5_inflateIfNeededFor_a7421_3 : decode cJ5_inflateIfNeededFor_a7421 3 = .ok (.ifCond .eq 18, 3) := by decide +kernel
theorem dJ5_inflateIfNeededFor_a7421_6 : decode cJ5_inflateIfNeededFor_a7421 6 = .ok (.aload_n 0, 1) := by decide +kernel
theorem dJ5_inflateIfNeededFor_a7421_7 : decode cJ5_inflateIfNeededFor_a7421 7 = .ok (.getfield 22, 3) := by decide +kernel
theorem dJ5_inflateIfNeededFor_a7421_10 : decode cJ5_inflateIfNeededFor_a7421 10 = .ok (.aload_n 1, 1) := by decide +kernel
theorem dJ5_inflateIfNeededFor_a7421_11 : decode cJ5_inflateIfNeededFor_a7421 11 = .ok (.invokevirtual 40, 3) := by decide +kernel
theorem dJ5_inflateIfNeededFor_a7421_14 : decode cJ5_inflateIfNeededFor_a7421 14 = .ok (.if_icmp .eq 7, 3) := by decide +kernel
theorem dJ5_inflateIfNeededFor_a7421_17 : decode cJ5_inflateIfNeededFor_a7421 17 = .ok (.aload_n 0, 1) := by decide +kernel
theorem dJ5_inflateIfNeededFor_a7421_18 : decode cJ5_inflateIfNeededFor_a7421 18 = .ok (.invokevirtual 195, 3) := by decide +kernel
theorem dJ5_inflateIfNeededFor_a7421_21 : decode cJ5_inflateIfNeededFor_a7421 21 = .ok (.return_, 1) := by decide +kernel
theorem dJ5_putStringAt_47b60_0 : decode cJ5_putStringAt_47b60 0 = .ok (.aload_n 0, 1) := by decide +kernel
theorem dJ5_putStringAt_47b60_1 : decode cJ5_putStringAt_47b60 1 = .ok (.aload_n 2, 1) := by decide +kernel
theorem dJ5_putStringAt_47b60_2 : decode cJ5_putStringAt_47b60 2 = .ok (.invokevirtual 397, 3) := by decide +kernel
theorem dJ5_putStringAt_47b60_5 : decode cJ5_putStringAt_47b60 5 = .ok (.aload_n 2, 1) := by decide +kernel
theorem dJ5_putStringAt_47b60_6 : decode cJ5_putStringAt_47b60 6 = .ok (.aload_n 0, 1) := by decide +kernel
theorem dJ5_putStringAt_47b60_7 : decode cJ5_putStringAt_47b60 7 = .ok (.getfield 15, 3) := by decide +kernel
theorem dJ5_putStringAt_47b60_10 : decode cJ5_putStringAt_47b60 10 = .ok (.iload_n 1, 1) := by decide +kernel
theorem dJ5_putStringAt_47b60_11 : decode cJ5_putStringAt_47b60 11 = .ok (.aload_n 0, 1) := by decide +kernel
theorem dJ5_putStringAt_47b60_12 : decode cJ5_putStringAt_47b60 12 = .ok (.getfield 22, 3) := by decide +kernel
theorem dJ5_putStringAt_47b60_15 : decode cJ5_putStringAt_47b60 15 = .ok (.invokevirtual 399, 3) := by decide +kernel
theorem dJ5_putStringAt_47b60_18 : decode cJ5_putStringAt_47b60 18 = .ok (.return_, 1) := by decide +kernel
theorem dJ0_getBytes_840e7_0 : decode cJ0_getBytes_840e7 0 = .ok (.aload_n 0, 1) := by decide +kernel
theorem dJ0_getBytes_840e7_1 : decode cJ0_getBytes_840e7 1 = .ok (.invokevirtual 335, 3) := by decide +kernel
theorem dJ0_getBytes_840e7_4 : decode cJ0_getBytes_840e7 4 = .ok (.iload_n 3, 1) := by decide +kernel
theorem dJ0_getBytes_840e7_5 : decode cJ0_getBytes_840e7 5 = .ok (.if_icmp .ne 23, 3) := by decide +kernel
theorem dJ0_getBytes_840e7_8 : decode cJ0_getBytes_840e7 8 = .ok (.aload_n 0, 1) := by decide +kernel
theorem dJ0_getBytes_840e7_9 : decode cJ0_getBytes_840e7 9 = .ok (.getfield 9, 3) := by decide +kernel
theorem dJ0_getBytes_840e7_12 : decode cJ0_getBytes_840e7 12 = .ok (.iconst 0, 1) := by decide +kernel
theorem dJ0_getBytes_840e7_13 : decode cJ0_getBytes_840e7 13 = .ok (.aload_n 1, 1) := by decide +kernel
theorem dJ0_getBytes_840e7_14 : decode cJ0_getBytes_840e7 14 = .ok (.iload_n 2, 1) := by decide +kernel
theorem dJ0_getBytes_840e7_15 : decode cJ0_getBytes_840e7 15 = .ok (.iload_n 3, 1) := by decide +kernel
theorem dJ0_getBytes_840e7_16 : decode cJ0_getBytes_840e7 16 = .ok (.ishl, 1) := by decide +kernel
theorem dJ0_getBytes_840e7_17 : decode cJ0_getBytes_840e7 17 = .ok (.aload_n 0, 1) := by decide +kernel
theorem dJ0_getBytes_840e7_18 : decode cJ0_getBytes_840e7 18 = .ok (.getfield 9, 3) := by decide +kernel
theorem dJ0_getBytes_840e7_21 : decode cJ0_getBytes_840e7 21 = .ok (.arraylength, 1) := by decide +kernel
theorem dJ0_getBytes_840e7_22 : decode cJ0_getBytes_840e7 22 = .ok (.invokestatic 212, 3) := by decide +kernel
theorem dJ0_getBytes_840e7_25 : decode cJ0_getBytes_840e7 25 = .ok (.goto 18, 3) := by decide +kernel
theorem dJ0_getBytes_840e7_28 : decode cJ0_getBytes_840e7 28 = .ok (.aload_n 0, 1) := by decide +kernel
theorem dJ0_getBytes_840e7_29 : decode cJ0_getBytes_840e7 29 = .ok (.getfield 9, 3) := by decide +kernel
theorem dJ0_getBytes_840e7_32 : decode cJ0_getBytes_840e7 32 = .ok (.iconst 0, 1) := by decide +kernel
theorem dJ0_getBytes_840e7_33 : decode cJ0_getBytes_840e7 33 = .ok (.aload_n 1, 1) := by decide +kernel
theorem dJ0_getBytes_840e7_34 : decode cJ0_getBytes_840e7 34 = .ok (.iload_n 2, 1) := by decide +kernel
theorem dJ0_getBytes_840e7_35 : decode cJ0_getBytes_840e7 35 = .ok (.aload_n 0, 1) := by decide +kernel
theorem dJ0_getBytes_840e7_36 : decode cJ0_getBytes_840e7 36 = .ok (.getfield 9, 3) := by decide +kernel
theorem dJ0_getBytes_840e7_39 : decode cJ0_getBytes_840e7 39 = .ok (.arraylength, 1) := by decide +kernel
theorem dJ0_getBytes_840e7_40 : decode cJ0_getBytes_840e7 40 = .ok (.invokestatic 106, 3) := by decide +kernel
theorem dJ0_getBytes_840e7_43 : decode cJ0_getBytes_840e7 43 = .ok (.return_, 1) := by decide +kernel
theorem dJ4_append_15ec4_0 : decode cJ4_append_15ec4 0 = .ok (.aload_n 0, 1) := by decide +kernel
theorem dJ4_append_15ec4_1 : decode cJ4_append_15ec4 1 = .ok (.aload_n 1, 1) := by decide +kernel
theorem dJ4_append_15ec4_2 : decode cJ4_append_15ec4 2 = .ok (.invokespecial 29, 3) := by decide +kernel
theorem dJ4_append_15ec4_5 : decode cJ4_append_15ec4 5 = .ok (.pop, 1) := by decide +kernel
theorem dJ4_append_15ec4_6 : decode cJ4_append_15ec4 6 = .ok (.aload_n 0, 1) := by decide +kernel
theorem dJ4_append_15ec4_7 : decode cJ4_append_15ec4 7 = .ok (.areturn, 1) := by decide +kernel
theorem dJ4_append_bf812_0 : decode cJ4_append_bf812 0 = .ok (.aload_n 0, 1) := by decide +kernel
theorem dJ4_append_bf812_1 : decode cJ4_append_bf812 1 = .ok (.iload_n 1, 1) := by decide +kernel
theorem dJ4_append_bf812_2 : decode cJ4_append_bf812 2 = .ok (.invokespecial 53, 3) := by decide +kernel
theorem dJ4_append_bf812_5 : decode cJ4_append_bf812 5 = .ok (.pop, 1) := by decide +kernel
theorem dJ4_append_bf812_6 : decode cJ4_append_bf812 6 = .ok (.aload_n 0, 1) := by decide +kernel
theorem dJ4_append_bf812_7 : decode cJ4_append_bf812 7 = .ok (.areturn, 1) := by decide +kernel
section HJ5
variable {l : Launch} {G : zG} {H : Heap}
theorem hJ_appendI5 {b v n m x mc ms : Nat} {ml : Int32} {f : Nat → Int32} {K : hK} (hs : hSB G H b v ml n m f) (hx : x < 2 ^ 31) (hr : sb_Room (n + sb_dg x) m mc ms)
    (hp : ∀ (H1 : Heap) (v' : Nat) (f' : Nat → Int32), H.size ≤ H1.size → (∀ q, q < H.size → q ≠ b → q ≠ v → H1[q]? = H[q]?) → (v' = v ∨ H.size ≤ v') → hSB G H1 b v' ml (n + sb_dg x) (sb_cap (n + sb_dg x) m) f' → (∀ j, j < n → f' j = f j) → (∀ i, i < sb_dg x → f' (n + i) = sb_b (sb_dec x i)) → K (some (.ref b)) H1) : hCal l G Y_J5_append_c97b9 mc ms [Value.ref b, Value.int (nI x)] H K := by
  refine hCal_of (by decide) rfl (zle rfl) rfl ?_
  have hE : ∀ {mc ms : Nat} {K : hK}, zRm Y_J5_append_c97b9 (hEM G Y_J5_append_c97b9 mc ms K).1 := zRm_M
  have hs0 := hs
  obtain ⟨ho, ha, hbz, hvz, hbv, hnm, hm, hf⟩ := hs
  have hd := sb_dg_in x
  have hcg := sb_cap_ge (n + sb_dg x) m
  have hcl := sb_cap_le hm hr
  refine H_aload_n dJ5_append_c97b9_0 rfl 0 rfl ?_
  refine H_getV hfl_J5_J4_79 ho rfl dJ5_append_c97b9_1 ?_
  refine H_istore_n (lv2 := [(2, Value.int (nI n)), (0, Value.ref b), (1, Value.int (nI x))]) dJ5_append_c97b9_4 rfl (by decide) rfl ?_
  refine H_iload_n dJ5_append_c97b9_5 rfl 0 rfl ?_
  refine H_iload_n dJ5_append_c97b9_6 rfl 2 rfl ?_
  refine H_callS (as := [Value.int (nI x)]) (st := [Value.int (nI n)]) (mc' := 0) (ms' := 0) hE hcs_J5_append_c97b9_J6_stringSize_0f7a4_245 rfl rfl (zle rfl) dJ5_append_c97b9_7 ⟨by show 0 + 0 ≤ mc; omega, by show 0 + 0 ≤ ms; omega⟩ (hJ_stringSize (K := fun r H1 => r = some (.int (nI (sb_dg x))) ∧ H = H1) hx ⟨rfl, rfl⟩) (fun r1 H1 q1 => ?_)
  obtain ⟨rfl, rfl⟩ := q1
  refine H_iadd dJ5_append_c97b9_10 ?_
  rw [nI_add n (sb_dg x)]
  refine H_istore_n (lv2 := [(3, Value.int (nI (n + sb_dg x))), (2, Value.int (nI n)), (0, Value.ref b), (1, Value.int (nI x))]) dJ5_append_c97b9_11 rfl (by decide) rfl ?_
  refine H_aload_n dJ5_append_c97b9_12 rfl 2 rfl ?_
  refine H_iload_n dJ5_append_c97b9_13 rfl 0 rfl ?_
  refine H_callP (as := [Value.int (nI (n + sb_dg x))]) (st := []) (mc' := mc) (ms' := ms) hE hcp_J5_append_c97b9_J5_ensureCapacityInternal_d00df_100 rfl ho.rc rfl rfl (zle rfl) dJ5_append_c97b9_14 ⟨by show 0 + 0 + mc ≤ mc; omega, by show 0 + 0 + ms ≤ ms; omega⟩ (hJ_ensure (K := fun r H1 => r = none ∧ ∃ (v' : Nat) (f' : Nat → Int32), H.size ≤ H1.size ∧ (∀ q, q < H.size → q ≠ b → H1[q]? = H[q]?) ∧ (v' = v ∨ H.size ≤ v') ∧ (∀ j, j < m → f' j = f j) ∧ hSB G H1 b v' ml n (sb_cap (n + sb_dg x) m) f') hs0 hr (by omega) (fun H1 v' f' e1 e2 e3 e4 e5 => ⟨rfl, v', f', e1, e2, e3, e4, e5⟩)) (fun r1 H1 q1 => ?_)
  obtain ⟨rfl, v', f', z1, o1, hv1, k1, s1⟩ := q1
  obtain ⟨ho1, ha1, -, hvz1, hbv1, hnm1, hm1, hf1⟩ := s1
  have s1' : hSB G H1 b v' ml n (sb_cap (n + sb_dg x) m) f' := ⟨ho1, ha1, hbz, hvz1, hbv1, hnm1, hm1, hf1⟩
  refine H_aload_n dJ5_append_c97b9_17 rfl 2 rfl ?_
  refine H_callN (as := []) (st := []) (mc' := 0) (ms' := 0) hE hcn_J5_append_c97b9_J5_isLatin1_aae02_83 rfl ho1.rc rfl rfl (zle rfl) dJ5_append_c97b9_18 ⟨by show 0 + 0 + mc + 0 ≤ mc; omega, by show 0 + 0 + ms + 0 ≤ ms; omega⟩ (hJ_isLatinB (K := fun r H2 => r = some (.int 1) ∧ H1 = H2) s1' ⟨rfl, rfl⟩) (fun r2 H2 q2 => ?_)
  obtain ⟨rfl, rfl⟩ := q2
  refine H_if_eq (tgt := 37) dJ5_append_c97b9_21 rfl (fun q9 => absurd q9 (by decide)) (fun _ => ?_)
  refine H_iload_n dJ5_append_c97b9_24 rfl 3 rfl ?_
  refine H_iload_n dJ5_append_c97b9_25 rfl 0 rfl ?_
  refine H_aload_n dJ5_append_c97b9_26 rfl 2 rfl ?_
  refine H_getV hfl_J5_J4_15 ho1 rfl dJ5_append_c97b9_27 ?_
  refine H_callS (as := [Value.int (nI x), Value.int (nI (n + sb_dg x)), Value.ref v']) (st := []) (mc' := 0) (ms' := 0) hE hcs_J5_append_c97b9_J6_getChars_ba4f3_248 rfl rfl (zle rfl) dJ5_append_c97b9_30 ⟨by show 0 + 0 + mc + 0 + 0 ≤ mc; omega, by show 0 + 0 + ms + 0 + 0 ≤ ms; omega⟩ (hJ_getChars (n := n) (K := fun r H2 => r = some (.int (nI n)) ∧ ∃ a' : Nat → Int32, H2.size = H1.size ∧ (∀ q, q ≠ v' → H2[q]? = H1[q]?) ∧ hA G H2 v' 4 (sb_cap (n + sb_dg x) m) (.inl a') ∧ (∀ j, j < n ∨ n + sb_dg x ≤ j → a' j = f' j) ∧ (∀ i, i < sb_dg x → a' (n + sb_dg x - 1 - i) = sb_b (48 + x / 10 ^ i % 10)) ∧ (sb_Fit f' → sb_Fit a')) hm1 hvz1 hx rfl hcg ha1 (fun H2 a' e1 e2 e3 e4 e5 e6 => ⟨rfl, a', e1, e2, e3, e4, e5, e6⟩)) (fun r2 H2 q2 => ?_)
  obtain ⟨rfl, a', z2, o2, ha2, g1, g2, g3⟩ := q2
  refine H_pop rfl dJ5_append_c97b9_33 ?_
  refine H_goto (tgt := 48) dJ5_append_c97b9_34 rfl ?_
  refine H_aload_n dJ5_append_c97b9_48 rfl 2 rfl ?_
  refine H_iload_n dJ5_append_c97b9_49 rfl 0 rfl ?_
  refine H_putV (fs2 := [Value.ref v', Value.int 0, Value.int ml, Value.int (nI (n + sb_dg x))]) hfp_J5_J4_79 (fun h => by cases h) (ho1.kept (o2 b hbv1)) rfl (zle rfl) rfl rfl hbz dJ5_append_c97b9_50 (fun H3 zH3 oH3 h3 => ?_)
  refine H_aload_n dJ5_append_c97b9_53 rfl 2 rfl ?_
  exact H_aret rfl (Or.inl ⟨_, rfl⟩) dJ5_append_c97b9_54 (by show 0 + 0 + mc + 0 + 0 ≤ mc; omega) (by show 0 + 0 + ms + 0 + 0 ≤ ms; omega) (hp H3 v' a' (by omega) (fun q q1 q2 q3 => by rw [oH3 q q2, o2 q (by omega), o1 q q1 q2]) hv1 ⟨h3, (oH3 v' hbv1.symm).trans ha2, hbz, hvz1, hbv1, hcg, hm1, g3 hf1⟩ (fun j hj => by rw [g1 j (Or.inl hj)]; exact k1 j (by omega)) (fun i hi => by have h9 := g2 (sb_dg x - 1 - i) (by omega); rw [show n + sb_dg x - 1 - (sb_dg x - 1 - i) = n + i by omega] at h9; exact h9))
theorem hJ_appendI {b v n m x mc ms : Nat} {ml : Int32} {f : Nat → Int32} {K : hK} (hs : hSB G H b v ml n m f) (hx : x < 2 ^ 31) (hr : sb_Room (n + sb_dg x) m mc ms)
    (hp : ∀ (H1 : Heap) (v' : Nat) (f' : Nat → Int32), H.size ≤ H1.size → (∀ q, q < H.size → q ≠ b → q ≠ v → H1[q]? = H[q]?) → (v' = v ∨ H.size ≤ v') → hSB G H1 b v' ml (n + sb_dg x) (sb_cap (n + sb_dg x) m) f' → (∀ j, j < n → f' j = f j) → (∀ i, i < sb_dg x → f' (n + i) = sb_b (sb_dec x i)) → K (some (.ref b)) H1) : hCal l G Y_J4_append_bf812 mc ms [Value.ref b, Value.int (nI x)] H K := by
  refine hCal_of (by decide) rfl (zle rfl) rfl ?_
  have hE : ∀ {mc ms : Nat} {K : hK}, zRm Y_J4_append_bf812 (hEM G Y_J4_append_bf812 mc ms K).1 := zRm_M
  refine H_aload_n dJ4_append_bf812_0 rfl 0 rfl ?_
  refine H_iload_n dJ4_append_bf812_1 rfl 1 rfl ?_
  refine H_callU (as := [Value.int (nI x)]) (st := []) (mc' := mc) (ms' := ms) hE hcu_J4_append_bf812_J5_append_c97b9_53 rfl hs.1.rc rfl rfl (zle rfl) dJ4_append_bf812_2 ⟨by show 0 + mc ≤ mc; omega, by show 0 + ms ≤ ms; omega⟩ (hJ_appendI5 (K := fun r H1 => r = some (.ref b) ∧ K r H1) hs hx hr (fun H1 v' f' e1 e2 e3 e4 e5 e6 => ⟨rfl, hp H1 v' f' e1 e2 e3 e4 e5 e6⟩)) (fun r1 H1 q1 => ?_)
  obtain ⟨rfl, q2⟩ := q1
  refine H_pop rfl dJ4_append_bf812_5 ?_
  refine H_aload_n dJ4_append_bf812_6 rfl 0 rfl ?_
  exact H_aret rfl (Or.inl ⟨_, rfl⟩) dJ4_append_bf812_7 (by show 0 + mc ≤ mc; omega) (by show 0 + ms ≤ ms; omega) q2
theorem hJ_inflateIf {b v n m a v2 : Nat} {ml : Int32} {f : Nat → Int32} {K : hK} (hs : hSB G H b v ml n m f) (ht : hStr G H a v2) (hp : K none H) : hCal l G Y_J5_inflateIfNeededFor_a7421 0 0 [Value.ref b, Value.ref a] H K := by
  refine hCal_of (by decide) rfl (zle rfl) rfl ?_
  have hE : ∀ {mc ms : Nat} {K : hK}, zRm Y_J5_inflateIfNeededFor_a7421 (hEM G Y_J5_inflateIfNeededFor_a7421 mc ms K).1 := zRm_M
  refine H_gets (own := RJ5) zw_457 (fun U h => h.1) dJ5_inflateIfNeededFor_a7421_0 ?_
  refine H_if_eq (tgt := 21) dJ5_inflateIfNeededFor_a7421_3 rfl (fun q9 => absurd q9 (by decide)) (fun _ => ?_)
  refine H_aload_n dJ5_inflateIfNeededFor_a7421_6 rfl 0 rfl ?_
  refine H_getV hfl_J5_J4_22 hs.1 rfl dJ5_inflateIfNeededFor_a7421_7 ?_
  refine H_aload_n dJ5_inflateIfNeededFor_a7421_10 rfl 1 rfl ?_
  refine H_callV (as := []) (st := [Value.int 0]) (mc' := 0) (ms' := 0) hE hcv_J5_inflateIfNeededFor_a7421_J0_coder_7d493_40 rfl ht.2.2 rfl rfl (zle rfl) dJ5_inflateIfNeededFor_a7421_11 ⟨by omega, by omega⟩ (hJ_coder (K := fun r H1 => r = some (.int 0) ∧ H = H1) ht ⟨rfl, rfl⟩) (fun r1 H1 q1 => ?_)
  obtain ⟨rfl, rfl⟩ := q1
  refine H_icmp_eq (tgt := 21) dJ5_inflateIfNeededFor_a7421_14 rfl (fun _ => ?_) (fun q9 => absurd rfl q9)
  exact H_vret rfl dJ5_inflateIfNeededFor_a7421_21 (by omega) (by omega) hp
theorem hJ_getBytes {a v v2 n m k : Nat} {f g : Nat → Int32} {K : hK} (ht : hStr G H a v2) (hb : hB G H v2 k g) (hg : ∀ j, j < k → fits .byte (.int (g j)) = true) (ha : hA G H v 4 m (.inl f)) (hvz : zfr G v) (hm : m ≤ 65536) (hn : n + k ≤ m) (hp : ∀ H1 : Heap, H1.size = H.size → (∀ q, q ≠ v → H1[q]? = H[q]?) → hA G H1 v 4 m (.inl (va_cpy g f 0 n k)) → K none H1) : hCal l G Y_J0_getBytes_840e7 0 0 [Value.ref a, Value.ref v, Value.int (nI n), Value.int 0] H K := by
  refine hCal_of (by decide) rfl (zle rfl) rfl ?_
  have hE : ∀ {mc ms : Nat} {K : hK}, zRm Y_J0_getBytes_840e7 (hEM G Y_J0_getBytes_840e7 mc ms K).1 := zRm_M
  refine H_aload_n dJ0_getBytes_840e7_0 rfl 0 rfl ?_
  refine H_callV (as := []) (st := []) (mc' := 0) (ms' := 0) hE hcv_J0_getBytes_840e7_J0_coder_7d493_335 rfl ht.2.2 rfl rfl (zle rfl) dJ0_getBytes_840e7_1 ⟨by omega, by omega⟩ (hJ_coder (K := fun r H1 => r = some (.int 0) ∧ H = H1) ht ⟨rfl, rfl⟩) (fun r1 H1 q1 => ?_)
  obtain ⟨rfl, rfl⟩ := q1
  refine H_iload_n dJ0_getBytes_840e7_4 rfl 3 rfl ?_
  refine H_icmp_ne (tgt := 28) dJ0_getBytes_840e7_5 rfl (fun q9 => absurd q9 (fun z => z rfl)) (fun _ => ?_)
  refine H_aload_n dJ0_getBytes_840e7_8 rfl 0 rfl ?_
  refine H_get (v := Value.ref v2) hfl_J0_J0_9 ht.1 dJ0_getBytes_840e7_9 ?_
  refine H_iconst (v := 0) rfl dJ0_getBytes_840e7_12 ?_
  refine H_aload_n dJ0_getBytes_840e7_13 rfl 1 rfl ?_
  refine H_iload_n dJ0_getBytes_840e7_14 rfl 2 rfl ?_
  refine H_iload_n dJ0_getBytes_840e7_15 rfl 3 rfl ?_
  refine H_ishl dJ0_getBytes_840e7_16 ?_
  rw [sb_shl0]
  refine H_aload_n dJ0_getBytes_840e7_17 rfl 0 rfl ?_
  refine H_get (v := Value.ref v2) hfl_J0_J0_9 ht.1 dJ0_getBytes_840e7_18 ?_
  refine H_alenB hb dJ0_getBytes_840e7_21 ?_
  refine H_copyB (n0 := k) (n1 := m) (f := g) (g := f) zw_1087 zw_727 zw_726 zw_128 hb ha hvz hg ⟨by decide, nI_pos (by omega), nI_pos (by omega), by rw [sb_cl0, nI_clamp (by omega)]; omega, by rw [nI_clamp (by omega), nI_clamp (by omega)]; omega⟩ hE (by decide) (zle rfl) dJ0_getBytes_840e7_22 (fun H1 z1 o1 n1 => ?_)
  rw [sb_cl0, nI_clamp (n := n) (by omega), nI_clamp (n := k) (by omega)] at n1
  refine H_goto (tgt := 43) dJ0_getBytes_840e7_25 rfl ?_
  exact H_vret rfl dJ0_getBytes_840e7_43 (by omega) (by omega) (hp H1 z1 o1 n1)
theorem hJ_putStringAt {b v n m a v2 k : Nat} {ml : Int32} {f g : Nat → Int32} {K : hK} (hs : hSB G H b v ml n m f) (ht : hStr G H a v2) (hb : hB G H v2 k g) (hg : ∀ j, j < k → fits .byte (.int (g j)) = true) (hn : n + k ≤ m) (hp : ∀ H1 : Heap, H1.size = H.size → (∀ q, q ≠ v → H1[q]? = H[q]?) → hA G H1 v 4 m (.inl (va_cpy g f 0 n k)) → K none H1) : hCal l G Y_J5_putStringAt_47b60 0 0 [Value.ref b, Value.int (nI n), Value.ref a] H K := by
  refine hCal_of (by decide) rfl (zle rfl) rfl ?_
  have hE : ∀ {mc ms : Nat} {K : hK}, zRm Y_J5_putStringAt_47b60 (hEM G Y_J5_putStringAt_47b60 mc ms K).1 := zRm_M
  refine H_aload_n dJ5_putStringAt_47b60_0 rfl 0 rfl ?_
  refine H_aload_n dJ5_putStringAt_47b60_1 rfl 2 rfl ?_
  refine H_callP (as := [Value.ref a]) (st := []) (mc' := 0) (ms' := 0) hE hcp_J5_putStringAt_47b60_J5_inflateIfNeededFor_a7421_397 rfl hs.1.rc rfl rfl (zle rfl) dJ5_putStringAt_47b60_2 ⟨by omega, by omega⟩ (hJ_inflateIf (K := fun r H1 => r = none ∧ H = H1) hs ht ⟨rfl, rfl⟩) (fun r1 H1 q1 => ?_)
  obtain ⟨rfl, rfl⟩ := q1
  refine H_aload_n dJ5_putStringAt_47b60_5 rfl 2 rfl ?_
  refine H_aload_n dJ5_putStringAt_47b60_6 rfl 0 rfl ?_
  refine H_getV hfl_J5_J4_15 hs.1 rfl dJ5_putStringAt_47b60_7 ?_
  refine H_iload_n dJ5_putStringAt_47b60_10 rfl 1 rfl ?_
  refine H_aload_n dJ5_putStringAt_47b60_11 rfl 0 rfl ?_
  refine H_getV hfl_J5_J4_22 hs.1 rfl dJ5_putStringAt_47b60_12 ?_
  refine H_callV (as := [Value.ref v, Value.int (nI n), Value.int 0]) (st := []) (mc' := 0) (ms' := 0) hE hcv_J5_putStringAt_47b60_J0_getBytes_840e7_399 rfl ht.2.2 rfl rfl (zle rfl) dJ5_putStringAt_47b60_15 ⟨by omega, by omega⟩ (hJ_getBytes (K := fun r H1 => r = none ∧ H1.size = H.size ∧ (∀ q, q ≠ v → H1[q]? = H[q]?) ∧ hA G H1 v 4 m (.inl (va_cpy g f 0 n k))) ht hb hg hs.2.1 hs.2.2.2.1 hs.2.2.2.2.2.2.1 hn (fun H1 e1 e2 e3 => ⟨rfl, e1, e2, e3⟩)) (fun r1 H1 q1 => ?_)
  obtain ⟨rfl, z1, o1, n1⟩ := q1
  exact H_vret rfl dJ5_putStringAt_47b60_18 (by omega) (by omega) (hp H1 z1 o1 n1)
theorem hStr.kept {H1 : Heap} {a v : Nat} (h : hStr G H a v) (e : H1[a]? = H[a]?) : hStr G H1 a v := by
  obtain ⟨⟨c1, a1, a2⟩, ⟨c2, b1, b2⟩, ⟨c3, d1, d2⟩⟩ := h
  exact ⟨⟨c1, e.trans a1, a2⟩, ⟨c2, e.trans b1, b2⟩, ⟨c3, e.trans d1, d2⟩⟩
theorem hStr.lt {a v : Nat} (h : hStr G H a v) : a < H.size := by
  obtain ⟨⟨c1, a1, a2⟩, -⟩ := h
  exact (Array.getElem?_eq_some_iff.mp a1).1
theorem hJ_appendS5 {b v n m a v2 k mc ms : Nat} {ml : Int32} {f g : Nat → Int32} {K : hK} (hs : hSB G H b v ml n m f) (ht : hStr G H a v2) (hb : hB G H v2 k g) (hg : sb_Fit g) (hab : a ≠ b) (hvb : v2 ≠ b) (hk : k ≤ 65536) (hr : sb_Room (n + k) m mc ms)
    (hp : ∀ (H1 : Heap) (v' : Nat) (f' : Nat → Int32), H.size ≤ H1.size → (∀ q, q < H.size → q ≠ b → q ≠ v → H1[q]? = H[q]?) → (v' = v ∨ H.size ≤ v') → hSB G H1 b v' ml (n + k) (sb_cap (n + k) m) f' → (∀ j, j < n → f' j = f j) → (∀ i, i < k → f' (n + i) = g i) → K (some (.ref b)) H1) : hCal l G Y_J5_append_cf1ce mc ms [Value.ref b, Value.ref a] H K := by
  refine hCal_of (by decide) rfl (zle rfl) rfl ?_
  have hE : ∀ {mc ms : Nat} {K : hK}, zRm Y_J5_append_cf1ce (hEM G Y_J5_append_cf1ce mc ms K).1 := zRm_M
  have hg0 := hg
  have hcp : ∀ {f' : Nat → Int32}, sb_Fit f' → sb_Fit (va_cpy g f' 0 n k) := fun h => sb_fitC hg0 h
  replace hg : ∀ j, j < k → fits .byte (.int (g j)) = true := fun j _ => hg0 j
  have hs0 := hs
  obtain ⟨ho, ha, hbz, hvz, hbv, hnm, hm, hf⟩ := hs
  have hcg := sb_cap_ge (n + k) m
  have hcl := sb_cap_le hm hr
  refine H_aload_n dJ5_append_cf1ce_0 rfl 1 rfl ?_
  refine H_ifnonnull (tgt := 9) dJ5_append_cf1ce_1 rfl ?_
  refine H_aload_n dJ5_append_cf1ce_9 rfl 1 rfl ?_
  refine H_callV (as := []) (st := []) (mc' := 0) (ms' := 0) hE hcv_J5_append_cf1ce_J0_length_8abf5_32 rfl ht.2.2 rfl rfl (zle rfl) dJ5_append_cf1ce_10 ⟨by show 0 + 0 ≤ mc; omega, by show 0 + 0 ≤ ms; omega⟩ (hJ_length (K := fun r H1 => r = some (.int (nI k)) ∧ H = H1) ht hb ⟨rfl, rfl⟩) (fun r1 H1 q1 => ?_)
  obtain ⟨rfl, rfl⟩ := q1
  refine H_istore_n (lv2 := [(2, Value.int (nI k)), (0, Value.ref b), (1, Value.ref a)]) dJ5_append_cf1ce_13 rfl (by decide) rfl ?_
  refine H_aload_n dJ5_append_cf1ce_14 rfl 1 rfl ?_
  refine H_aload_n dJ5_append_cf1ce_15 rfl 1 rfl ?_
  refine H_getV hfl_J5_J4_79 ho rfl dJ5_append_cf1ce_16 ?_
  refine H_iload_n dJ5_append_cf1ce_19 rfl 0 rfl ?_
  refine H_iadd dJ5_append_cf1ce_20 ?_
  rw [nI_add n k]
  refine H_callP (as := [Value.int (nI (n + k))]) (st := []) (mc' := mc) (ms' := ms) hE hcp_J5_append_cf1ce_J5_ensureCapacityInternal_d00df_100 rfl ho.rc rfl rfl (zle rfl) dJ5_append_cf1ce_21 ⟨by show 0 + 0 + mc ≤ mc; omega, by show 0 + 0 + ms ≤ ms; omega⟩ (hJ_ensure (K := fun r H1 => r = none ∧ ∃ (v' : Nat) (f' : Nat → Int32), H.size ≤ H1.size ∧ (∀ q, q < H.size → q ≠ b → H1[q]? = H[q]?) ∧ (v' = v ∨ H.size ≤ v') ∧ (∀ j, j < m → f' j = f j) ∧ hSB G H1 b v' ml n (sb_cap (n + k) m) f') hs0 hr (by omega) (fun H1 v' f' e1 e2 e3 e4 e5 => ⟨rfl, v', f', e1, e2, e3, e4, e5⟩)) (fun r1 H1 q1 => ?_)
  obtain ⟨rfl, v', f', z1, o1, hv1, k1, s1⟩ := q1
  obtain ⟨ho1, ha1, -, hvz1, hbv1, hnm1, hm1, hf1⟩ := s1
  have s1' : hSB G H1 b v' ml n (sb_cap (n + k) m) f' := ⟨ho1, ha1, hbz, hvz1, hbv1, hnm1, hm1, hf1⟩
  have ht1 : hStr G H1 a v2 := ht.kept (o1 a ht.lt hab)
  have hb1 : hB G H1 v2 k g := hb.kept (o1 v2 hb.lt hvb)
  refine H_aload_n dJ5_append_cf1ce_24 rfl 1 rfl ?_
  refine H_aload_n dJ5_append_cf1ce_25 rfl 1 rfl ?_
  refine H_getV hfl_J5_J4_79 ho1 rfl dJ5_append_cf1ce_26 ?_
  refine H_aload_n dJ5_append_cf1ce_29 rfl 2 rfl ?_
  refine H_callP (as := [Value.int (nI n), Value.ref a]) (st := []) (mc' := 0) (ms' := 0) hE hcp_J5_append_cf1ce_J5_putStringAt_47b60_208 rfl ho1.rc rfl rfl (zle rfl) dJ5_append_cf1ce_30 ⟨by show 0 + 0 + mc + 0 ≤ mc; omega, by show 0 + 0 + ms + 0 ≤ ms; omega⟩ (hJ_putStringAt (K := fun r H2 => r = none ∧ H2.size = H1.size ∧ (∀ q, q ≠ v' → H2[q]? = H1[q]?) ∧ hA G H2 v' 4 (sb_cap (n + k) m) (.inl (va_cpy g f' 0 n k))) s1' ht1 hb1 hg hcg (fun H2 e1 e2 e3 => ⟨rfl, e1, e2, e3⟩)) (fun r2 H2 q2 => ?_)
  obtain ⟨rfl, z2, o2, n2⟩ := q2
  have ho2 := ho1.kept (o2 b hbv1)
  refine H_aload_n dJ5_append_cf1ce_33 rfl 1 rfl ?_
  refine H_dup rfl dJ5_append_cf1ce_34 ?_
  refine H_getV hfl_J5_J4_79 ho2 rfl dJ5_append_cf1ce_35 ?_
  refine H_iload_n dJ5_append_cf1ce_38 rfl 0 rfl ?_
  refine H_iadd dJ5_append_cf1ce_39 ?_
  rw [nI_add n k]
  refine H_putV (fs2 := [Value.ref v', Value.int 0, Value.int ml, Value.int (nI (n + k))]) hfp_J5_J4_79 (fun h => by cases h) ho2 rfl (zle rfl) rfl rfl hbz dJ5_append_cf1ce_40 (fun H3 zH3 oH3 h3 => ?_)
  refine H_aload_n dJ5_append_cf1ce_43 rfl 1 rfl ?_
  exact H_aret rfl (Or.inl ⟨_, rfl⟩) dJ5_append_cf1ce_44 (by show 0 + 0 + mc + 0 ≤ mc; omega) (by show 0 + 0 + ms + 0 ≤ ms; omega) (hp H3 v' _ (by omega) (fun q q1 q2 q3 => by rw [oH3 q q2, o2 q (by omega), o1 q q1 q2]) hv1 ⟨h3, (oH3 v' hbv1.symm).trans n2, hbz, hvz1, hbv1, hcg, hm1, hcp hf1⟩ (fun j hj => by rw [show va_cpy g f' 0 n k j = f' j from if_neg (by omega)]; exact k1 j (by omega)) (fun i hi => by rw [show va_cpy g f' 0 n k (n + i) = g (0 + (n + i - n)) from if_pos (by omega)]; exact congrArg g (by omega)))
theorem hJ_appendS {b v n m a v2 k mc ms : Nat} {ml : Int32} {f g : Nat → Int32} {K : hK} (hs : hSB G H b v ml n m f) (ht : hStr G H a v2) (hb : hB G H v2 k g) (hg : sb_Fit g) (hab : a ≠ b) (hvb : v2 ≠ b) (hk : k ≤ 65536) (hr : sb_Room (n + k) m mc ms)
    (hp : ∀ (H1 : Heap) (v' : Nat) (f' : Nat → Int32), H.size ≤ H1.size → (∀ q, q < H.size → q ≠ b → q ≠ v → H1[q]? = H[q]?) → (v' = v ∨ H.size ≤ v') → hSB G H1 b v' ml (n + k) (sb_cap (n + k) m) f' → (∀ j, j < n → f' j = f j) → (∀ i, i < k → f' (n + i) = g i) → K (some (.ref b)) H1) : hCal l G Y_J4_append_15ec4 mc ms [Value.ref b, Value.ref a] H K := by
  refine hCal_of (by decide) rfl (zle rfl) rfl ?_
  have hE : ∀ {mc ms : Nat} {K : hK}, zRm Y_J4_append_15ec4 (hEM G Y_J4_append_15ec4 mc ms K).1 := zRm_M
  refine H_aload_n dJ4_append_15ec4_0 rfl 0 rfl ?_
  refine H_aload_n dJ4_append_15ec4_1 rfl 1 rfl ?_
  refine H_callU (as := [Value.ref a]) (st := []) (mc' := mc) (ms' := ms) hE hcu_J4_append_15ec4_J5_append_cf1ce_29 rfl hs.1.rc rfl rfl (zle rfl) dJ4_append_15ec4_2 ⟨by show 0 + mc ≤ mc; omega, by show 0 + ms ≤ ms; omega⟩ (hJ_appendS5 (K := fun r H1 => r = some (.ref b) ∧ K r H1) hs ht hb hg hab hvb hk hr (fun H1 v' f' e1 e2 e3 e4 e5 e6 => ⟨rfl, hp H1 v' f' e1 e2 e3 e4 e5 e6⟩)) (fun r1 H1 q1 => ?_)
  obtain ⟨rfl, q2⟩ := q1
  refine H_pop rfl dJ4_append_15ec4_5 ?_
  refine H_aload_n dJ4_append_15ec4_6 rfl 0 rfl ?_
  exact H_aret rfl (Or.inl ⟨_, rfl⟩) dJ4_append_15ec4_7 (by show 0 + mc ≤ mc; omega) (by show 0 + ms ≤ ms; omega) q2
end HJ5
