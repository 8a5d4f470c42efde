/-! printed by wip/whole/h_*.py -/
abbrev Y_J5_isLatin1_aae02 : zY := (yJ5_isLatin1_aae02, cJ5_isLatin1_aae02, 1, (some .boolean), 2, [])
theorem zw_457 : Cond.fieldLink RJ5 18 "java/lang/String" "COMPACT_STRINGS" "Z" ∈ zAll := zin 457 (by decide +kernel) (by decide +kernel)
abbrev Y_J5_length_8abf5 : zY := (yJ5_length_8abf5, cJ5_length_8abf5, 1, (some .int), 15, [])
theorem zw_470 : Cond.fieldLink RJ5 79 "java/lang/AbstractStringBuilder" "count" "I" ∈ zAll := zin 470 (by decide +kernel) (by decide +kernel)
theorem hfl_J5_J4_79 : hFL RJ5 79 1 3 := ⟨RJ4, TJ4, 4, rfl, by decide, zw_470, zws_J4⟩
theorem zw_1136 : Cond.methodLink RJ4 343 yJ5_length_8abf5 ∈ zAll := zin 1136 (by decide +kernel) (by decide +kernel)
theorem zw_1137 : Cond.code yJ5_length_8abf5 cJ5_length_8abf5 1 (some .int) ∈ zAll := zin 1137 (by decide +kernel) (by decide +kernel)
theorem zw_1131 : Cond.instanceMethod yJ5_length_8abf5 ∈ zAll := zin 1131 (by decide +kernel) (by decide +kernel)
theorem zw_1132 : Cond.sameMethod "java/lang/AbstractStringBuilder" "java/lang/AbstractStringBuilder" "length" "()I" ∈ zAll := zin 1132 (by decide +kernel) (by decide +kernel)
theorem zw_479 : Cond.superclass RJ4 RJ5 ∈ zAll := zin 479 (by decide +kernel) (by decide +kernel)
theorem hcu_J4_length_8abf5_J5_length_8abf5_343 : hLU Y_J4_length_8abf5 343 Y_J5_length_8abf5 0 := ⟨zw_1136, zw_1132, zw_479, zw_1131, zw_120, zw_1137, by decide +kernel, by decide +kernel, by decide, by decide⟩
abbrev Y_J5_charAt_5068e : zY := (yJ5_charAt_5068e, cJ5_charAt_5068e, 5, (some .char), 15, [])
theorem zw_1307 : Cond.methodLink RJ5 138 Lib.Math.min.name ∈ zAll := zin 1307 (by decide +kernel) (by decide +kernel)
theorem zw_1308 : Cond.methodLink RJ5 144 yJ0_checkIndex_df160 ∈ zAll := zin 1308 (by decide +kernel) (by decide +kernel)
theorem hcs_J5_charAt_5068e_J0_checkIndex_df160_144 : zLS Y_J5_charAt_5068e 144 Y_J0_checkIndex_df160 2 := ⟨zw_1308, zw_574, zw_122, zw_575, by decide +kernel, by decide, by decide⟩
theorem zw_1304 : Cond.methodLink RJ4 329 yJ5_charAt_5068e ∈ zAll := zin 1304 (by decide +kernel) (by decide +kernel)
theorem zw_1306 : Cond.code yJ5_charAt_5068e cJ5_charAt_5068e 5 (some .char) ∈ zAll := zin 1306 (by decide +kernel) (by decide +kernel)
theorem zw_1305 : Cond.instanceMethod yJ5_charAt_5068e ∈ zAll := zin 1305 (by decide +kernel) (by decide +kernel)
theorem zw_2246 : Cond.sameMethod "java/lang/AbstractStringBuilder" "java/lang/AbstractStringBuilder" "charAt" "(I)C" ∈ zAll := zin 2246 (by decide +kernel) (by decide +kernel)
theorem hcu_J4_charAt_5068e_J5_charAt_5068e_329 : hLU Y_J4_charAt_5068e 329 Y_J5_charAt_5068e 1 := ⟨zw_1304, zw_2246, zw_479, zw_1305, zw_120, zw_1306, by decide +kernel, by decide +kernel, by decide, by decide⟩
abbrev Y_J1_canEncode_fc78d : zY := (yJ1_canEncode_fc78d, cJ1_canEncode_fc78d, 1, (some .boolean), 2, [])
abbrev Y_J5_append_3fe6f : zY := (yJ5_append_3fe6f, cJ5_append_3fe6f, 2, (some (.object "java/lang/AbstractStringBuilder")), 15, [])
theorem zw_1017 : Cond.methodLink RJ5 100 yJ5_ensureCapacityInternal_d00df ∈ zAll := zin 1017 (by decide +kernel) (by decide +kernel)
theorem zw_1020 : Cond.code yJ5_ensureCapacityInternal_d00df cJ5_ensureCapacityInternal_d00df 3 none ∈ zAll := zin 1020 (by decide +kernel) (by decide +kernel)
theorem zw_1019 : Cond.instanceMethod yJ5_ensureCapacityInternal_d00df ∈ zAll := zin 1019 (by decide +kernel) (by decide +kernel)
theorem zw_2237 : Cond.sameMethod "java/lang/AbstractStringBuilder" "java/lang/AbstractStringBuilder" "ensureCapacityInternal" "(I)V" ∈ zAll := zin 2237 (by decide +kernel) (by decide +kernel)
theorem hcp_J5_append_3fe6f_J5_ensureCapacityInternal_d00df_100 : hLP Y_J5_append_3fe6f 100 Y_J5_ensureCapacityInternal_d00df 1 := ⟨zw_1017, zw_2237, (by decide +kernel), zw_1019, zw_120, zw_1020, by decide +kernel, by decide, by decide⟩
theorem zw_1046 : Cond.methodLink RJ5 83 yJ5_isLatin1_aae02 ∈ zAll := zin 1046 (by decide +kernel) (by decide +kernel)
theorem zw_1050 : Cond.code yJ5_isLatin1_aae02 cJ5_isLatin1_aae02 1 (some .boolean) ∈ zAll := zin 1050 (by decide +kernel) (by decide +kernel)
theorem zw_1047 : Cond.instanceMethod yJ5_isLatin1_aae02 ∈ zAll := zin 1047 (by decide +kernel) (by decide +kernel)
theorem zw_1048 : Cond.sameMethod "java/lang/AbstractStringBuilder" "java/lang/AbstractStringBuilder" "isLatin1" "()Z" ∈ zAll := zin 1048 (by decide +kernel) (by decide +kernel)
theorem zw_1049 : Cond.selects RJ4 yJ5_isLatin1_aae02 yJ5_isLatin1_aae02 ∈ zAll := zin 1049 (by decide +kernel) (by decide +kernel)
theorem hcn_J5_append_3fe6f_J5_isLatin1_aae02_83 : hLN Y_J5_append_3fe6f 83 Y_J5_isLatin1_aae02 0 RJ4 := ⟨zw_1046, zw_1048, zw_1049, zw_1047, zw_120, zw_1050, by decide +kernel, by decide, by decide⟩
theorem zw_1287 : Cond.methodLink RJ5 191 yJ1_canEncode_fc78d ∈ zAll := zin 1287 (by decide +kernel) (by decide +kernel)
theorem zw_1289 : Cond.code yJ1_canEncode_fc78d cJ1_canEncode_fc78d 1 (some .boolean) ∈ zAll := zin 1289 (by decide +kernel) (by decide +kernel)
theorem zw_1288 : Cond.static yJ1_canEncode_fc78d ∈ zAll := zin 1288 (by decide +kernel) (by decide +kernel)
theorem hcs_J5_append_3fe6f_J1_canEncode_fc78d_191 : zLS Y_J5_append_3fe6f 191 Y_J1_canEncode_fc78d 1 := ⟨zw_1287, zw_1288, zw_125, zw_1289, by decide +kernel, by decide, by decide⟩
theorem hfp_J5_J4_79 : hFP RJ5 79 1 3 false .int := ⟨RJ4, TJ4, 4, tyJ4, ⟨rfl, by decide, zw_470, zws_J4⟩, tyJ4_ok, nmJ4, rfl, by decide +kernel, (fun h => by cases h)⟩
theorem zw_1284 : Cond.methodLink RJ4 50 yJ5_append_3fe6f ∈ zAll := zin 1284 (by decide +kernel) (by decide +kernel)
theorem zw_1286 : Cond.code yJ5_append_3fe6f cJ5_append_3fe6f 2 (some (.object "java/lang/AbstractStringBuilder")) ∈ zAll := zin 1286 (by decide +kernel) (by decide +kernel)
theorem zw_1285 : Cond.instanceMethod yJ5_append_3fe6f ∈ zAll := zin 1285 (by decide +kernel) (by decide +kernel)
theorem zw_2244 : Cond.sameMethod "java/lang/AbstractStringBuilder" "java/lang/AbstractStringBuilder" "append" "(C)Ljava/lang/AbstractStringBuilder;" ∈ zAll := zin 2244 (by decide +kernel) (by decide +kernel)
theorem hcu_J4_append_cf468_J5_append_3fe6f_50 : hLU Y_J4_append_cf468 50 Y_J5_append_3fe6f 1 := ⟨zw_1284, zw_2244, zw_479, zw_1285, zw_120, zw_1286, by decide +kernel, by decide +kernel, by decide, by decide⟩
abbrev Y_J5_setLength_d00df : zY := (yJ5_setLength_d00df, cJ5_setLength_d00df, 2, none, 15, [])
theorem hcp_J5_setLength_d00df_J5_ensureCapacityInternal_d00df_100 : hLP Y_J5_setLength_d00df 100 Y_J5_ensureCapacityInternal_d00df 1 := ⟨zw_1017, zw_2237, (by decide +kernel), zw_1019, zw_120, zw_1020, by decide +kernel, by decide, by decide⟩
theorem zw_468 : Cond.fieldLink RJ5 73 "java/lang/AbstractStringBuilder" "maybeLatin1" "Z" ∈ zAll := zin 468 (by decide +kernel) (by decide +kernel)
theorem hfp_J5_J4_73 : hFP RJ5 73 1 2 false .boolean := ⟨RJ4, TJ4, 4, tyJ4, ⟨rfl, by decide, zw_468, zws_J4⟩, tyJ4_ok, nmJ4, rfl, by decide +kernel, (fun h => by cases h)⟩
theorem zw_995 : Cond.methodLink RJ4 333 yJ5_setLength_d00df ∈ zAll := zin 995 (by decide +kernel) (by decide +kernel)
theorem zw_997 : Cond.code yJ5_setLength_d00df cJ5_setLength_d00df 2 none ∈ zAll := zin 997 (by decide +kernel) (by decide +kernel)
theorem zw_996 : Cond.instanceMethod yJ5_setLength_d00df ∈ zAll := zin 996 (by decide +kernel) (by decide +kernel)
theorem zw_2234 : Cond.sameMethod "java/lang/AbstractStringBuilder" "java/lang/AbstractStringBuilder" "setLength" "(I)V" ∈ zAll := zin 2234 (by decide +kernel) (by decide +kernel)
theorem hcu_J4_setLength_d00df_J5_setLength_d00df_333 : hLU Y_J4_setLength_d00df 333 Y_J5_setLength_d00df 1 := ⟨zw_995, zw_2234, zw_479, zw_996, zw_120, zw_997, by decide +kernel, by decide +kernel, by decide, by decide⟩
theorem dJ5_length_8abf5_0 : decode cJ5_length_8abf5 0 = .ok (.aload_n 0, 1) := by decide +kernel
theorem dJ5_length_8abf5_1 : decode cJ5_length_8abf5 1 = .ok (.getfield 79, 3) := by decide +kernel
theorem dJ5_length_8abf5_4 : decode cJ5_length_8abf5 4 = .ok (.ireturn, 1) := by decide +kernel
theorem dJ5_setLength_d00df_0 : decode cJ5_setLength_d00df 0 = .ok (.iload_n 1, 1) := by decide +kernel
theorem dJ5_setLength_d00df_1 : decode cJ5_setLength_d00df 1 = .ok (.ifCond .ge 12, 3) := by decide +kernel
theorem dJ5_setLength_d00df_4 : decode cJ5_setLength_d00df 4 = .ok (.new 129, 3) := by decide +kernel
theorem dJ5_setLength_d00df_7 : decode cJ5_setLength_d00df 7 = .ok (.dup, 1) := by decide +kernel
theorem dJ5_setLength_d00df_8 : decode cJ5_setLength_d00df 8 = .ok (.iload_n 1, 1) := by decide +kernel
theorem dJ5_setLength_d00df_9 : decode cJ5_setLength_d00df 9 = .ok (.invokespecial 131, 3) := by decide +kernel
theorem dJ5_setLength_d00df_12 : decode cJ5_setLength_d00df 12 = .ok (.athrow, 1) := by decide +kernel
theorem dJ5_setLength_d00df_13 : decode cJ5_setLength_d00df 13 = .ok (.aload_n 0, 1) := by decide +kernel
theorem dJ5_setLength_d00df_14 : decode cJ5_setLength_d00df 14 = .ok (.iload_n 1, 1) := by decide +kernel
theorem dJ5_setLength_d00df_15 : decode cJ5_setLength_d00df 15 = .ok (.invokevirtual 100, 3) := by decide +kernel
theorem dJ5_setLength_d00df_18 : decode cJ5_setLength_d00df 18 = .ok (.aload_n 0, 1) := by decide +kernel
theorem dJ5_setLength_d00df_19 : decode cJ5_setLength_d00df 19 = .ok (.getfield 79, 3) := by decide +kernel
theorem dJ5_setLength_d00df_22 : decode cJ5_setLength_d00df 22 = .ok (.iload_n 1, 1) := by decide +kernel
theorem dJ5_setLength_d00df_23 : decode cJ5_setLength_d00df 23 = .ok (.if_icmp .ge 40, 3) := by decide +kernel
theorem dJ5_setLength_d00df_26 : decode cJ5_setLength_d00df 26 = .ok (.aload_n 0, 1) := by decide +kernel
theorem dJ5_setLength_d00df_27 : decode cJ5_setLength_d00df 27 = .ok (.invokevirtual 83, 3) := by decide +kernel
theorem dJ5_setLength_d00df_30 : decode cJ5_setLength_d00df 30 = .ok (.ifCond .eq 18, 3) := by decide +kernel
theorem dJ5_setLength_d00df_33 : decode cJ5_setLength_d00df 33 = .ok (.aload_n 0, 1) := by decide +kernel
theorem dJ5_setLength_d00df_34 : decode cJ5_setLength_d00df 34 = .ok (.getfield 15, 3) := by decide +kernel
theorem dJ5_setLength_d00df_37 : decode cJ5_setLength_d00df 37 = .ok (.aload_n 0, 1) := by decide +kernel
theorem dJ5_setLength_d00df_38 : decode cJ5_setLength_d00df 38 = .ok (.getfield 79, 3) := by decide +kernel
theorem dJ5_setLength_d00df_41 : decode cJ5_setLength_d00df 41 = .ok (.iload_n 1, 1) := by decide +kernel
theorem dJ5_setLength_d00df_42 : decode cJ5_setLength_d00df 42 = .ok (.invokestatic 133, 3) := by decide +kernel
theorem dJ5_setLength_d00df_45 : decode cJ5_setLength_d00df 45 = .ok (.goto 31, 3) := by decide +kernel
theorem dJ5_setLength_d00df_48 : decode cJ5_setLength_d00df 48 = .ok (.aload_n 0, 1) := by decide +kernel
theorem dJ5_setLength_d00df_49 : decode cJ5_setLength_d00df 49 = .ok (.getfield 15, 3) := by decide +kernel
theorem dJ5_setLength_d00df_52 : decode cJ5_setLength_d00df 52 = .ok (.aload_n 0, 1) := by decide +kernel
theorem dJ5_setLength_d00df_53 : decode cJ5_setLength_d00df 53 = .ok (.getfield 79, 3) := by decide +kernel
theorem dJ5_setLength_d00df_56 : decode cJ5_setLength_d00df 56 = .ok (.iload_n 1, 1) := by decide +kernel
theorem dJ5_setLength_d00df_57 : decode cJ5_setLength_d00df 57 = .ok (.invokestatic 137, 3) := by decide +kernel
theorem dJ5_setLength_d00df_60 : decode cJ5_setLength_d00df 60 = .ok (.goto 16, 3) := by decide +kernel
theorem dJ5_setLength_d00df_63 : decode cJ5_setLength_d00df 63 = .ok (.aload_n 0, 1) := by decide +kernel
theorem dJ5_setLength_d00df_64 : decode cJ5_setLength_d00df 64 = .ok (.getfield 79, 3) := by decide +kernel
theorem dJ5_setLength_d00df_67 : decode cJ5_setLength_d00df 67 = .ok (.iload_n 1, 1) := by decide +kernel
theorem dJ5_setLength_d00df_68 : decode cJ5_setLength_d00df 68 = .ok (.if_icmp .le 8, 3) := by decide +kernel
theorem dJ5_setLength_d00df_71 : decode cJ5_setLength_d00df 71 = .ok (.aload_n 0, 1) := by decide +kernel
theorem dJ5_setLength_d00df_72 : decode cJ5_setLength_d00df 72 = .ok (.iconst 1, 1) := by decide +kernel
theorem dJ5_setLength_d00df_73 : decode cJ5_setLength_d00df 73 = .ok (.putfield 73, 3) := by decide +kernel
theorem dJ5_setLength_d00df_76 : decode cJ5_setLength_d00df 76 = .ok (.aload_n 0, 1) := by decide +kernel
theorem dJ5_setLength_d00df_77 : decode cJ5_setLength_d00df 77 = .ok (.iload_n 1, 1) := by decide +kernel
theorem dJ5_setLength_d00df_78 : decode cJ5_setLength_d00df 78 = .ok (.putfield 79, 3) := by decide +kernel
theorem dJ5_setLength_d00df_81 : decode cJ5_setLength_d00df 81 = .ok (.return_, 1) := by decide +kernel
theorem dJ5_charAt_5068e_0 : decode cJ5_charAt_5068e 0 = .ok (.aload_n 0, 1) := by decide +kernel
theorem dJ5_charAt_5068e_1 : decode cJ5_charAt_5068e 1 = .ok (.getfield 22, 3) := by decide +kernel
theorem dJ5_charAt_5068e_4 : decode cJ5_charAt_5068e 4 = .ok (.istore_n 2, 1) := by decide +kernel
theorem dJ5_charAt_5068e_5 : decode cJ5_charAt_5068e 5 = .ok (.aload_n 0, 1) := by decide +kernel
theorem dJ5_charAt_5068e_6 : decode cJ5_charAt_5068e 6 = .ok (.getfield 15, 3) := by decide +kernel
theorem dJ5_charAt_5068e_9 : decode cJ5_charAt_5068e 9 = .ok (.astore_n 3, 1) := by decide +kernel
theorem dJ5_charAt_5068e_10 : decode cJ5_charAt_5068e 10 = .ok (.aload_n 0, 1) := by decide +kernel
theorem dJ5_charAt_5068e_11 : decode cJ5_charAt_5068e 11 = .ok (.getfield 79, 3) := by decide +kernel
theorem dJ5_charAt_5068e_14 : decode cJ5_charAt_5068e 14 = .ok (.aload_n 3, 1) := by decide +kernel
theorem dJ5_charAt_5068e_15 : decode cJ5_charAt_5068e 15 = .ok (.arraylength, 1) := by decide +kernel
theorem dJ5_charAt_5068e_16 : decode cJ5_charAt_5068e 16 = .ok (.iload_n 2, 1) := by decide +kernel
theorem dJ5_charAt_5068e_17 : decode cJ5_charAt_5068e 17 = .ok (.ishr, 1) := by decide +kernel
theorem dJ5_charAt_5068e_18 : decode cJ5_charAt_5068e 18 = .ok (.invokestatic 138, 3) := by decide +kernel
theorem dJ5_charAt_5068e_21 : decode cJ5_charAt_5068e 21 = .ok (.istore 4, 2) := by decide +kernel
theorem dJ5_charAt_5068e_23 : decode cJ5_charAt_5068e 23 = .ok (.iload_n 1, 1) := by decide +kernel
theorem dJ5_charAt_5068e_24 : decode cJ5_charAt_5068e 24 = .ok (.iload 4, 2) := by decide +kernel
theorem dJ5_charAt_5068e_26 : decode cJ5_charAt_5068e 26 = .ok (.invokestatic 144, 3) := by decide +kernel
theorem dJ5_charAt_5068e_29 : decode cJ5_charAt_5068e 29 = .ok (.iload_n 2, 1) := by decide +kernel
theorem dJ5_charAt_5068e_30 : decode cJ5_charAt_5068e 30 = .ok (.ifCond .ne 12, 3) := by decide +kernel
theorem dJ5_charAt_5068e_33 : decode cJ5_charAt_5068e 33 = .ok (.aload_n 3, 1) := by decide +kernel
theorem dJ5_charAt_5068e_34 : decode cJ5_charAt_5068e 34 = .ok (.iload_n 1, 1) := by decide +kernel
theorem dJ5_charAt_5068e_35 : decode cJ5_charAt_5068e 35 = .ok (.baload, 1) := by decide +kernel
theorem dJ5_charAt_5068e_36 : decode cJ5_charAt_5068e 36 = .ok (.sipush 255, 3) := by decide +kernel
theorem dJ5_charAt_5068e_39 : decode cJ5_charAt_5068e 39 = .ok (.iand, 1) := by decide +kernel
theorem dJ5_charAt_5068e_40 : decode cJ5_charAt_5068e 40 = .ok (.i2c, 1) := by decide +kernel
theorem dJ5_charAt_5068e_41 : decode cJ5_charAt_5068e 41 = .ok (.ireturn, 1) := by decide +kernel
theorem dJ5_charAt_5068e_42 : decode cJ5_charAt_5068e 42 = .ok (.aload_n 3, 1) := by decide +kernel
theorem dJ5_charAt_5068e_43 : decode cJ5_charAt_5068e 43 = .ok (.iload_n 1, 1) := by decide +kernel
theorem dJ5_charAt_5068e_44 : decode cJ5_charAt_5068e 44 = .ok (.invokestatic 148, 3) := by decide +kernel
theorem dJ5_charAt_5068e_47 : decode cJ5_charAt_5068e 47 = .ok (.ireturn, 1) := by decide +kernel
theorem dJ5_append_3fe6f_0 : decode cJ5_append_3fe6f 0 = .ok (.aload_n 0, 1) := by decide +kernel
theorem dJ5_append_3fe6f_1 : decode cJ5_append_3fe6f 1 = .ok (.aload_n 0, 1) := by decide +kernel
theorem dJ5_append_3fe6f_2 : decode cJ5_append_3fe6f 2 = .ok (.getfield 79, 3) := by decide +kernel
theorem dJ5_append_3fe6f_5 : decode cJ5_append_3fe6f 5 = .ok (.iconst 1, 1) := by decide +kernel
theorem dJ5_append_3fe6f_6 : decode cJ5_append_3fe6f 6 = .ok (.iadd, 1) := by decide +kernel
theorem dJ5_append_3fe6f_7 : decode cJ5_append_3fe6f 7 = .ok (.invokevirtual 100, 3) := by decide +kernel
theorem dJ5_append_3fe6f_10 : decode cJ5_append_3fe6f 10 = .ok (.aload_n 0, 1) := by decide +kernel
theorem dJ5_append_3fe6f_11 : decode cJ5_append_3fe6f 11 = .ok (.invokevirtual 83, 3) := by decide +kernel
theorem dJ5_append_3fe6f_14 : decode cJ5_append_3fe6f 14 = .ok (.ifCond .eq 31, 3) := by decide +kernel
theorem dJ5_append_3fe6f_17 : decode cJ5_append_3fe6f 17 = .ok (.iload_n 1, 1) := by decide +kernel
theorem dJ5_append_3fe6f_18 : decode cJ5_append_3fe6f 18 = .ok (.invokestatic 191, 3) := by decide +kernel
theorem dJ5_append_3fe6f_21 : decode cJ5_append_3fe6f 21 = .ok (.ifCond .eq 24, 3) := by decide +kernel
theorem dJ5_append_3fe6f_24 : decode cJ5_append_3fe6f 24 = .ok (.aload_n 0, 1) := by decide +kernel
theorem dJ5_append_3fe6f_25 : decode cJ5_append_3fe6f 25 = .ok (.getfield 15, 3) := by decide +kernel
theorem dJ5_append_3fe6f_28 : decode cJ5_append_3fe6f 28 = .ok (.aload_n 0, 1) := by decide +kernel
theorem dJ5_append_3fe6f_29 : decode cJ5_append_3fe6f 29 = .ok (.dup, 1) := by decide +kernel
theorem dJ5_append_3fe6f_30 : decode cJ5_append_3fe6f 30 = .ok (.getfield 79, 3) := by decide +kernel
theorem dJ5_append_3fe6f_33 : decode cJ5_append_3fe6f 33 = .ok (.dup_x1, 1) := by decide +kernel
theorem dJ5_append_3fe6f_34 : decode cJ5_append_3fe6f 34 = .ok (.iconst 1, 1) := by decide +kernel
theorem dJ5_append_3fe6f_35 : decode cJ5_append_3fe6f 35 = .ok (.iadd, 1) := by decide +kernel
theorem dJ5_append_3fe6f_36 : decode cJ5_append_3fe6f 36 = .ok (.putfield 79, 3) := by decide +kernel
theorem dJ5_append_3fe6f_39 : decode cJ5_append_3fe6f 39 = .ok (.iload_n 1, 1) := by decide +kernel
theorem dJ5_append_3fe6f_40 : decode cJ5_append_3fe6f 40 = .ok (.i2b, 1) := by decide +kernel
theorem dJ5_append_3fe6f_41 : decode cJ5_append_3fe6f 41 = .ok (.bastore, 1) := by decide +kernel
theorem dJ5_append_3fe6f_42 : decode cJ5_append_3fe6f 42 = .ok (.goto 33, 3) := by decide +kernel
theorem dJ5_append_3fe6f_45 : decode cJ5_append_3fe6f 45 = .ok (.aload_n 0, 1) := by decide +kernel
theorem dJ5_append_3fe6f_46 : decode cJ5_append_3fe6f 46 = .ok (.invokevirtual 83, 3) := by decide +kernel
theorem dJ5_append_3fe6f_49 : decode cJ5_append_3fe6f 49 = .ok (.ifCond .eq 7, 3) := by decide +kernel
theorem dJ5_append_3fe6f_52 : decode cJ5_append_3fe6f 52 = .ok (.aload_n 0, 1) := by decide +kernel
theorem dJ5_append_3fe6f_53 : decode cJ5_append_3fe6f 53 = .ok (.invokevirtual 195, 3) := by decide +kernel
theorem dJ5_append_3fe6f_56 : decode cJ5_append_3fe6f 56 = .ok (.aload_n 0, 1) := by decide +kernel
theorem dJ5_append_3fe6f_57 : decode cJ5_append_3fe6f 57 = .ok (.getfield 15, 3) := by decide +kernel
theorem dJ5_append_3fe6f_60 : decode cJ5_append_3fe6f 60 = .ok (.aload_n 0, 1) := by decide +kernel
theorem dJ5_append_3fe6f_61 : decode cJ5_append_3fe6f 61 = .ok (.dup, 1) := by decide +kernel
theorem dJ5_append_3fe6f_62 : decode cJ5_append_3fe6f 62 = .ok (.getfield 79, 3) := by decide +kernel
theorem dJ5_append_3fe6f_65 : decode cJ5_append_3fe6f 65 = .ok (.dup_x1, 1) := by decide +kernel
theorem dJ5_append_3fe6f_66 : decode cJ5_append_3fe6f 66 = .ok (.iconst 1, 1) := by decide +kernel
theorem dJ5_append_3fe6f_67 : decode cJ5_append_3fe6f 67 = .ok (.iadd, 1) := by decide +kernel
theorem dJ5_append_3fe6f_68 : decode cJ5_append_3fe6f 68 = .ok (.putfield 79, 3) := by decide +kernel
theorem dJ5_append_3fe6f_71 : decode cJ5_append_3fe6f 71 = .ok (.iload_n 1, 1) := by decide +kernel
theorem dJ5_append_3fe6f_72 : decode cJ5_append_3fe6f 72 = .ok (.invokestatic 197, 3) := by decide +kernel
theorem dJ5_append_3fe6f_75 : decode cJ5_append_3fe6f 75 = .ok (.aload_n 0, 1) := by decide +kernel
theorem dJ5_append_3fe6f_76 : decode cJ5_append_3fe6f 76 = .ok (.areturn, 1) := by decide +kernel
theorem dJ5_isLatin1_aae02_0 : decode cJ5_isLatin1_aae02 0 = .ok (.getstatic 18, 3) := by decide +kernel
theorem dJ5_isLatin1_aae02_3 : decode cJ5_isLatin1_aae02 3 = .ok (.ifCond .eq 14, 3) := by decide +kernel
theorem dJ5_isLatin1_aae02_6 : decode cJ5_isLatin1_aae02 6 = .ok (.aload_n 0, 1) := by decide +kernel
theorem dJ5_isLatin1_aae02_7 : decode cJ5_isLatin1_aae02 7 = .ok (.getfield 22, 3) := by decide +kernel
theorem dJ5_isLatin1_aae02_10 : decode cJ5_isLatin1_aae02 10 = .ok (.ifCond .ne 7, 3) := by decide +kernel
theorem dJ5_isLatin1_aae02_13 : decode cJ5_isLatin1_aae02 13 = .ok (.iconst 1, 1) := by decide +kernel
theorem dJ5_isLatin1_aae02_14 : decode cJ5_isLatin1_aae02 14 = .ok (.goto 4, 3) := by decide +kernel
theorem dJ5_isLatin1_aae02_17 : decode cJ5_isLatin1_aae02 17 = .ok (.iconst 0, 1) := by decide +kernel
theorem dJ5_isLatin1_aae02_18 : decode cJ5_isLatin1_aae02 18 = .ok (.ireturn, 1) := by decide +kernel
theorem dJ4_append_cf468_0 : decode cJ4_append_cf468 0 = .ok (.aload_n 0, 1) := by decide +kernel
theorem dJ4_append_cf468_1 : decode cJ4_append_cf468 1 = .ok (.iload_n 1, 1) := by decide +kernel
theorem dJ4_append_cf468_2 : decode cJ4_append_cf468 2 = .ok (.invokespecial 50, 3) := by decide +kernel
theorem dJ4_append_cf468_5 : decode cJ4_append_cf468 5 = .ok (.pop, 1) := by decide +kernel
theorem dJ4_append_cf468_6 : decode cJ4_append_cf468 6 = .ok (.aload_n 0, 1) := by decide +kernel
theorem dJ4_append_cf468_7 : decode cJ4_append_cf468 7 = .ok (.areturn, 1) := by decide +kernel
theorem dJ4_charAt_5068e_0 : decode cJ4_charAt_5068e 0 = .ok (.aload_n 0, 1) := by decide +kernel
theorem dJ4_charAt_5068e_1 : decode cJ4_charAt_5068e 1 = .ok (.iload_n 1, 1) := by decide +kernel
theorem dJ4_charAt_5068e_2 : decode cJ4_charAt_5068e 2 = .ok (.invokespecial 329, 3) := by decide +kernel
theorem dJ4_charAt_5068e_5 : decode cJ4_charAt_5068e 5 = .ok (.ireturn, 1) := by decide +kernel
theorem dJ4_setLength_d00df_0 : decode cJ4_setLength_d00df 0 = .ok (.aload_n 0, 1) := by decide +kernel
theorem dJ4_setLength_d00df_1 : decode cJ4_setLength_d00df 1 = .ok (.iload_n 1, 1) := by decide +kernel
theorem dJ4_setLength_d00df_2 : decode cJ4_setLength_d00df 2 = .ok (.invokespecial 333, 3) := by decide +kernel
theorem dJ4_setLength_d00df_5 : decode cJ4_setLength_d00df 5 = .ok (.return_, 1) := by decide +kernel
theorem dJ4_length_8abf5_0 : decode cJ4_length_8abf5 0 = .ok (.aload_n 0, 1) := by decide +kernel
theorem dJ4_length_8abf5_1 : decode cJ4_length_8abf5 1 = .ok (.invokespecial 343, 3) := by decide +kernel
theorem dJ4_length_8abf5_4 : decode cJ4_length_8abf5 4 = .ok (.ireturn, 1) := by decide +kernel
theorem dJ1_canEncode_fc78d_0 : decode cJ1_canEncode_fc78d 0 = .ok (.iload_n 0, 1) := by decide +kernel
theorem dJ1_canEncode_fc78d_1 : decode cJ1_canEncode_fc78d 1 = .ok (.sipush 255, 3) := by decide +kernel
theorem dJ1_canEncode_fc78d_4 : decode cJ1_canEncode_fc78d 4 = .ok (.if_icmp .gt 7, 3) := by decide +kernel
theorem dJ1_canEncode_fc78d_7 : decode cJ1_canEncode_fc78d 7 = .ok (.iconst 1, 1) := by decide +kernel
theorem dJ1_canEncode_fc78d_8 : decode cJ1_canEncode_fc78d 8 = .ok (.goto 4, 3) := by decide +kernel
theorem dJ1_canEncode_fc78d_11 : decode cJ1_canEncode_fc78d 11 = .ok (.iconst 0, 1) := by decide +kernel
theorem dJ1_canEncode_fc78d_12 : decode cJ1_canEncode_fc78d 12 = .ok (.ireturn, 1) := by decide +kernel
theorem i8_i8 (x : Int32) : x.toInt8.toInt32.toInt8.toInt32 = x.toInt8.toInt32 := by simp
section HJ3
variable {l : Launch} {G : zG} {H : Heap}
theorem hJ_isLatinB {b v n m : Nat} {ml : Int32} {f : Nat → Int32} {K : hK} (hs : hSB G H b v ml n m f) (hp : K (some (.int 1)) H) : hCal l G Y_J5_isLatin1_aae02 0 0 [Value.ref b] H K := by
  refine hCal_of (by decide) rfl (zle rfl) rfl ?_
  have hE : ∀ {mc ms : Nat} {K : hK}, zRm Y_J5_isLatin1_aae02 (hEM G Y_J5_isLatin1_aae02 mc ms K).1 := zRm_M
  obtain ⟨ho, ha, hbz, hvz, hbv, hnm, hm, hf⟩ := hs
  refine H_gets (own := RJ5) zw_457 (fun U h => h.1) dJ5_isLatin1_aae02_0 ?_
  refine H_if_eq (tgt := 17) dJ5_isLatin1_aae02_3 rfl (fun q9 => absurd q9 (by decide)) (fun _ => ?_)
  refine H_aload_n dJ5_isLatin1_aae02_6 rfl 0 rfl ?_
  refine H_getV hfl_J5_J4_22 ho rfl dJ5_isLatin1_aae02_7 ?_
  refine H_if_ne (tgt := 17) dJ5_isLatin1_aae02_10 rfl (fun q9 => absurd q9 (by decide)) (fun _ => ?_)
  refine H_iconst (v := 1) rfl dJ5_isLatin1_aae02_13 ?_
  refine H_goto (tgt := 18) dJ5_isLatin1_aae02_14 rfl ?_
  exact H_iret rfl rfl dJ5_isLatin1_aae02_18 (by omega) (by omega) hp
theorem hJ_length5 {b v n m : Nat} {ml : Int32} {f : Nat → Int32} {K : hK} (hs : hSB G H b v ml n m f) (hp : K (some (.int (nI n))) H) : hCal l G Y_J5_length_8abf5 0 0 [Value.ref b] H K := by
  refine hCal_of (by decide) rfl (zle rfl) rfl ?_
  have hE : ∀ {mc ms : Nat} {K : hK}, zRm Y_J5_length_8abf5 (hEM G Y_J5_length_8abf5 mc ms K).1 := zRm_M
  obtain ⟨ho, ha, hbz, hvz, hbv, hnm, hm, hf⟩ := hs
  refine H_aload_n dJ5_length_8abf5_0 rfl 0 rfl ?_
  refine H_getV hfl_J5_J4_79 ho rfl dJ5_length_8abf5_1 ?_
  exact H_iret rfl rfl dJ5_length_8abf5_4 (by omega) (by omega) hp
theorem hJ_lengthB {b v n m : Nat} {ml : Int32} {f : Nat → Int32} {K : hK} (hs : hSB G H b v ml n m f) (hp : K (some (.int (nI n))) H) : hCal l G Y_J4_length_8abf5 0 0 [Value.ref b] H K := by
  refine hCal_of (by decide) rfl (zle rfl) rfl ?_
  have hE : ∀ {mc ms : Nat} {K : hK}, zRm Y_J4_length_8abf5 (hEM G Y_J4_length_8abf5 mc ms K).1 := zRm_M
  refine H_aload_n dJ4_length_8abf5_0 rfl 0 rfl ?_
  refine H_callU (as := []) (st := []) (mc' := 0) (ms' := 0) hE hcu_J4_length_8abf5_J5_length_8abf5_343 rfl hs.1.rc rfl rfl (zle rfl) dJ4_length_8abf5_1 ⟨by omega, by omega⟩ (hJ_length5 (K := fun r H1 => r = some (.int (nI n)) ∧ H = H1) hs ⟨rfl, rfl⟩) (fun r1 H1 q1 => ?_)
  obtain ⟨rfl, rfl⟩ := q1
  exact H_iret rfl rfl dJ4_length_8abf5_4 (by omega) (by omega) hp
theorem hJ_charAt5 {b v n m i c : Nat} {ml : Int32} {f : Nat → Int32} {K : hK} (hs : hSB G H b v ml n m f) (hi : i < n) (hc : narrow .char (.int (nI c)) = .int (nI c) ∧ ((f i &&& 255).toUInt32 % 65536).toInt32 = nI c) (hp : K (some (.int (nI c))) H) : hCal l G Y_J5_charAt_5068e 0 0 [Value.ref b, Value.int (nI i)] H K := by
  refine hCal_of (by decide) rfl (zle rfl) rfl ?_
  have hE : ∀ {mc ms : Nat} {K : hK}, zRm Y_J5_charAt_5068e (hEM G Y_J5_charAt_5068e mc ms K).1 := zRm_M
  obtain ⟨ho, ha, hbz, hvz, hbv, hnm, hm, hf⟩ := hs
  refine H_aload_n dJ5_charAt_5068e_0 rfl 0 rfl ?_
  refine H_getV hfl_J5_J4_22 ho rfl dJ5_charAt_5068e_1 ?_
  refine H_istore_n (lv2 := [(2, Value.int 0), (0, Value.ref b), (1, Value.int (nI i))]) dJ5_charAt_5068e_4 rfl (by decide) rfl ?_
  refine H_aload_n dJ5_charAt_5068e_5 rfl 1 rfl ?_
  refine H_getV hfl_J5_J4_15 ho rfl dJ5_charAt_5068e_6 ?_
  refine H_astore_n (lv2 := [(3, Value.ref v), (2, Value.int 0), (0, Value.ref b), (1, Value.int (nI i))]) dJ5_charAt_5068e_9 rfl (by decide) rfl ?_
  refine H_aload_n dJ5_charAt_5068e_10 rfl 2 rfl ?_
  refine H_getV hfl_J5_J4_79 ho rfl dJ5_charAt_5068e_11 ?_
  refine H_aload_n dJ5_charAt_5068e_14 rfl 0 rfl ?_
  refine H_alenI ha (by decide) dJ5_charAt_5068e_15 ?_
  refine H_iload_n dJ5_charAt_5068e_16 rfl 1 rfl ?_
  refine H_ishr dJ5_charAt_5068e_17 ?_
  rw [sb_shr0]
  refine H_mmin zw_1307 zw_797 zw_129 zw_798 hE (by decide) (zle rfl) (by show _ ≤ _; omega) (by show _ ≤ _; omega) dJ5_charAt_5068e_18 ?_
  rw [if_neg (nI_nlt hnm (by omega))]
  refine H_istore (lv2 := [(4, Value.int (nI n)), (3, Value.ref v), (2, Value.int 0), (0, Value.ref b), (1, Value.int (nI i))]) dJ5_charAt_5068e_21 (by decide) rfl ?_
  refine H_iload_n dJ5_charAt_5068e_23 rfl 4 rfl ?_
  refine H_iload dJ5_charAt_5068e_24 0 rfl ?_
  refine H_callS (as := [Value.int (nI i), Value.int (nI n)]) (st := []) (mc' := 0) (ms' := 0) hE hcs_J5_charAt_5068e_J0_checkIndex_df160_144 rfl rfl (zle rfl) dJ5_charAt_5068e_26 ⟨by omega, by omega⟩ (hJ_checkIndex (K := fun r H1 => r = none ∧ H = H1) (nI_pos (by omega)) (nI_lt hi (by omega)) ⟨rfl, rfl⟩) (fun r1 H1 q1 => ?_)
  obtain ⟨rfl, rfl⟩ := q1
  refine H_iload_n dJ5_charAt_5068e_29 rfl 2 rfl ?_
  refine H_if_ne (tgt := 42) dJ5_charAt_5068e_30 rfl (fun q9 => absurd q9 (by decide)) (fun _ => ?_)
  refine H_aload_n dJ5_charAt_5068e_33 rfl 1 rfl ?_
  refine H_iload_n dJ5_charAt_5068e_34 rfl 4 rfl ?_
  refine H_bs (fun hB0 hg4 => ?_)
  refine H_bald (ha.b hg4) (vp_in_nI (by omega) (by omega)) dJ5_charAt_5068e_35 ?_
  rw [nI_clamp (by omega)]
  refine H_sipush (v := 255) rfl dJ5_charAt_5068e_36 ?_
  refine H_iand dJ5_charAt_5068e_39 ?_
  refine H_i2c dJ5_charAt_5068e_40 ?_
  rw [show (((f i) &&& 255).toUInt32 % 65536).toInt32 = nI c from hc.2]
  exact H_iret rfl hc.1 dJ5_charAt_5068e_41 (by omega) (by omega) hp
theorem hJ_charAtB {b v n m i c : Nat} {ml : Int32} {f : Nat → Int32} {K : hK} (hs : hSB G H b v ml n m f) (hi : i < n) (hc : narrow .char (.int (nI c)) = .int (nI c) ∧ ((f i &&& 255).toUInt32 % 65536).toInt32 = nI c) (hp : K (some (.int (nI c))) H) : hCal l G Y_J4_charAt_5068e 0 0 [Value.ref b, Value.int (nI i)] H K := by
  refine hCal_of (by decide) rfl (zle rfl) rfl ?_
  have hE : ∀ {mc ms : Nat} {K : hK}, zRm Y_J4_charAt_5068e (hEM G Y_J4_charAt_5068e mc ms K).1 := zRm_M
  refine H_aload_n dJ4_charAt_5068e_0 rfl 0 rfl ?_
  refine H_iload_n dJ4_charAt_5068e_1 rfl 1 rfl ?_
  refine H_callU (as := [Value.int (nI i)]) (st := []) (mc' := 0) (ms' := 0) hE hcu_J4_charAt_5068e_J5_charAt_5068e_329 rfl hs.1.rc rfl rfl (zle rfl) dJ4_charAt_5068e_2 ⟨by omega, by omega⟩ (hJ_charAt5 (K := fun r H1 => r = some (.int (nI c)) ∧ H = H1) hs hi hc ⟨rfl, rfl⟩) (fun r1 H1 q1 => ?_)
  obtain ⟨rfl, rfl⟩ := q1
  exact H_iret rfl hc.1 dJ4_charAt_5068e_5 (by omega) (by omega) hp
theorem hJ_canEncode {c : Nat} {K : hK} (hc : c < 256) (hp : K (some (.int 1)) H) : hCal l G Y_J1_canEncode_fc78d 0 0 [Value.int (nI c)] H K := by
  refine hCal_of (by decide) rfl (zle rfl) rfl ?_
  have hE : ∀ {mc ms : Nat} {K : hK}, zRm Y_J1_canEncode_fc78d (hEM G Y_J1_canEncode_fc78d mc ms K).1 := zRm_M
  refine H_iload_n dJ1_canEncode_fc78d_0 rfl 0 rfl ?_
  refine H_sipush (v := 255) rfl dJ1_canEncode_fc78d_1 ?_
  refine H_icmp_gt (tgt := 11) dJ1_canEncode_fc78d_4 rfl (fun q9 => absurd q9 (nI_nlt (show c ≤ 255 by omega) (by decide))) (fun _ => ?_)
  refine H_iconst (v := 1) rfl dJ1_canEncode_fc78d_7 ?_
  refine H_goto (tgt := 12) dJ1_canEncode_fc78d_8 rfl ?_
  exact H_iret rfl rfl dJ1_canEncode_fc78d_12 (by omega) (by omega) hp
theorem hJ_appendC5 {b v n m c mc ms : Nat} {ml : Int32} {f : Nat → Int32} {K : hK} (hs : hSB G H b v ml n m f) (hc : c < 256) (hr : sb_Room (n + 1) m mc ms)
    (hp : ∀ (H1 : Heap) (v' : Nat) (f' : Nat → Int32), H.size ≤ H1.size → (∀ q, q < H.size → q ≠ b → q ≠ v → H1[q]? = H[q]?) → (v' = v ∨ H.size ≤ v') → hSB G H1 b v' ml (n + 1) (sb_cap (n + 1) m) f' → (∀ j, j < n → f' j = f j) → f' n = sb_b c → K (some (.ref b)) H1) : hCal l G Y_J5_append_3fe6f mc ms [Value.ref b, Value.int (nI c)] H K := by
  refine hCal_of (by decide) rfl (zle rfl) rfl ?_
  have hE : ∀ {mc ms : Nat} {K : hK}, zRm Y_J5_append_3fe6f (hEM G Y_J5_append_3fe6f mc ms K).1 := zRm_M
  have hs0 := hs
  obtain ⟨ho, ha, hbz, hvz, hbv, hnm, hm, hf⟩ := hs
  have hcg := sb_cap_ge (n + 1) m
  have hcl := sb_cap_le hm hr
  refine H_aload_n dJ5_append_3fe6f_0 rfl 0 rfl ?_
  refine H_aload_n dJ5_append_3fe6f_1 rfl 0 rfl ?_
  refine H_getV hfl_J5_J4_79 ho rfl dJ5_append_3fe6f_2 ?_
  refine H_iconst (v := 1) rfl dJ5_append_3fe6f_5 ?_
  refine H_iadd dJ5_append_3fe6f_6 ?_
  rw [show (nI n + 1 : Int32) = nI (n + 1) from nI_1 n]
  refine H_callP (as := [Value.int (nI (n + 1))]) (st := []) (mc' := mc) (ms' := ms) hE hcp_J5_append_3fe6f_J5_ensureCapacityInternal_d00df_100 rfl ho.rc rfl rfl (zle rfl) dJ5_append_3fe6f_7 ⟨by show 0 + mc ≤ mc; omega, by show 0 + ms ≤ ms; omega⟩ (hJ_ensure (K := fun r H1 => r = none ∧ ∃ (v' : Nat) (f' : Nat → Int32), H.size ≤ H1.size ∧ (∀ q, q < H.size → q ≠ b → H1[q]? = H[q]?) ∧ (v' = v ∨ H.size ≤ v') ∧ (∀ j, j < m → f' j = f j) ∧ hSB G H1 b v' ml n (sb_cap (n + 1) m) f') hs0 hr (by omega) (fun H1 v' f' e1 e2 e3 e4 e5 => ⟨rfl, v', f', e1, e2, e3, e4, e5⟩)) (fun r1 H1 q1 => ?_)
  obtain ⟨rfl, v', f', z1, o1, hv1, k1, s1⟩ := q1
  obtain ⟨ho1, ha1, -, hvz1, hbv1, hnm1, hm1, hf1⟩ := s1
  have s1' : hSB G H1 b v' ml n (sb_cap (n + 1) m) f' := ⟨ho1, ha1, hbz, hvz1, hbv1, hnm1, hm1, hf1⟩
  refine H_aload_n dJ5_append_3fe6f_10 rfl 0 rfl ?_
  refine H_callN (as := []) (st := []) (mc' := 0) (ms' := 0) hE hcn_J5_append_3fe6f_J5_isLatin1_aae02_83 rfl ho1.rc rfl rfl (zle rfl) dJ5_append_3fe6f_11 ⟨by show 0 + mc + 0 ≤ mc; omega, by show 0 + ms + 0 ≤ ms; omega⟩ (hJ_isLatinB (K := fun r H2 => r = some (.int 1) ∧ H1 = H2) s1' ⟨rfl, rfl⟩) (fun r2 H2 q2 => ?_)
  obtain ⟨rfl, rfl⟩ := q2
  refine H_if_eq (tgt := 45) dJ5_append_3fe6f_14 rfl (fun q9 => absurd q9 (by decide)) (fun _ => ?_)
  refine H_iload_n dJ5_append_3fe6f_17 rfl 1 rfl ?_
  refine H_callS (as := [Value.int (nI c)]) (st := []) (mc' := 0) (ms' := 0) hE hcs_J5_append_3fe6f_J1_canEncode_fc78d_191 rfl rfl (zle rfl) dJ5_append_3fe6f_18 ⟨by show 0 + mc + 0 + 0 ≤ mc; omega, by show 0 + ms + 0 + 0 ≤ ms; omega⟩ (hJ_canEncode (K := fun r H2 => r = some (.int 1) ∧ H1 = H2) hc ⟨rfl, rfl⟩) (fun r2 H2 q2 => ?_)
  obtain ⟨rfl, rfl⟩ := q2
  refine H_if_eq (tgt := 45) dJ5_append_3fe6f_21 rfl (fun q9 => absurd q9 (by decide)) (fun _ => ?_)
  refine H_aload_n dJ5_append_3fe6f_24 rfl 0 rfl ?_
  refine H_getV hfl_J5_J4_15 ho1 rfl dJ5_append_3fe6f_25 ?_
  refine H_aload_n dJ5_append_3fe6f_28 rfl 0 rfl ?_
  refine H_dup rfl dJ5_append_3fe6f_29 ?_
  refine H_getV hfl_J5_J4_79 ho1 rfl dJ5_append_3fe6f_30 ?_
  refine H_dup_x1 rfl rfl dJ5_append_3fe6f_33 ?_
  refine H_iconst (v := 1) rfl dJ5_append_3fe6f_34 ?_
  refine H_iadd dJ5_append_3fe6f_35 ?_
  rw [show (nI n + 1 : Int32) = nI (n + 1) from nI_1 n]
  refine H_putV (fs2 := [Value.ref v', Value.int 0, Value.int ml, Value.int (nI (n + 1))]) hfp_J5_J4_79 (fun h => by cases h) ho1 rfl (zle rfl) rfl rfl hbz dJ5_append_3fe6f_36 (fun H2 zH2 oH2 h2 => ?_)
  refine H_iload_n dJ5_append_3fe6f_39 rfl 1 rfl ?_
  refine H_i2b dJ5_append_3fe6f_40 ?_
  refine H_bast ((oH2 v' (fun e => hbv1 e.symm)).trans ha1) (vp_in_nI (show n < sb_cap (n + 1) m by omega) (by omega)) hvz1 dJ5_append_3fe6f_41 (fun H3 z3 o3 h3 => ?_)
  refine H_goto (tgt := 75) dJ5_append_3fe6f_42 rfl ?_
  refine H_aload_n dJ5_append_3fe6f_75 rfl 0 rfl ?_
  rw [nI_clamp (show n < 2 ^ 31 by omega), i8_i8] at h3
  have fin : hSB G H3 b v' ml (n + 1) (sb_cap (n + 1) m) (upd f' n (sb_b c)) := ⟨h2.kept (o3 b hbv1), h3, hbz, hvz1, hbv1, hcg, hm1, sb_fitU hf1 (sb_fitB c)⟩
  exact H_aret rfl (Or.inl ⟨_, rfl⟩) dJ5_append_3fe6f_76 (by omega) (by omega) (hp H3 v' _ (by omega) (fun q q1 q2 q3 => by rw [o3 q (by omega), oH2 q q2, o1 q q1 q2]) hv1 fin (fun j hj => by rw [pk_un (by omega)]; exact k1 j (by omega)) pk_us)
theorem hJ_appendC {b v n m c mc ms : Nat} {ml : Int32} {f : Nat → Int32} {K : hK} (hs : hSB G H b v ml n m f) (hc : c < 256) (hr : sb_Room (n + 1) m mc ms)
    (hp : ∀ (H1 : Heap) (v' : Nat) (f' : Nat → Int32), H.size ≤ H1.size → (∀ q, q < H.size → q ≠ b → q ≠ v → H1[q]? = H[q]?) → (v' = v ∨ H.size ≤ v') → hSB G H1 b v' ml (n + 1) (sb_cap (n + 1) m) f' → (∀ j, j < n → f' j = f j) → f' n = sb_b c → K (some (.ref b)) H1) : hCal l G Y_J4_append_cf468 mc ms [Value.ref b, Value.int (nI c)] H K := by
  refine hCal_of (by decide) rfl (zle rfl) rfl ?_
  have hE : ∀ {mc ms : Nat} {K : hK}, zRm Y_J4_append_cf468 (hEM G Y_J4_append_cf468 mc ms K).1 := zRm_M
  refine H_aload_n dJ4_append_cf468_0 rfl 0 rfl ?_
  refine H_iload_n dJ4_append_cf468_1 rfl 1 rfl ?_
  refine H_callU (as := [Value.int (nI c)]) (st := []) (mc' := mc) (ms' := ms) hE hcu_J4_append_cf468_J5_append_3fe6f_50 rfl hs.1.rc rfl rfl (zle rfl) dJ4_append_cf468_2 ⟨by show 0 + mc ≤ mc; omega, by show 0 + ms ≤ ms; omega⟩ (hJ_appendC5 (K := fun r H1 => r = some (.ref b) ∧ K r H1) hs hc hr (fun H1 v' f' e1 e2 e3 e4 e5 e6 => ⟨rfl, hp H1 v' f' e1 e2 e3 e4 e5 e6⟩)) (fun r1 H1 q1 => ?_)
  obtain ⟨rfl, q2⟩ := q1
  refine H_pop rfl dJ4_append_cf468_5 ?_
  refine H_aload_n dJ4_append_cf468_6 rfl 0 rfl ?_
  exact H_aret rfl (Or.inl ⟨_, rfl⟩) dJ4_append_cf468_7 (by omega) (by omega) q2
theorem hJ_setl1 {b v n m : Nat} {ml : Int32} {f : Nat → Int32} {K : hK} (hs : hSB G H b v ml n m f) (hp : ∀ (H1 : Heap) (ml' : Int32), H1.size = H.size → (∀ q, q ≠ b → H1[q]? = H[q]?) → hSB G H1 b v ml' 0 m f → K none H1) (h0 : 0 < n) : hCal l G Y_J5_setLength_d00df 0 0 [Value.ref b, Value.int 0] H K := by
  refine hCal_of (by decide) rfl (zle rfl) rfl ?_
  have hE : ∀ {mc ms : Nat} {K : hK}, zRm Y_J5_setLength_d00df (hEM G Y_J5_setLength_d00df mc ms K).1 := zRm_M
  have hs0 := hs
  obtain ⟨ho, ha, hbz, hvz, hbv, hnm, hm, hf⟩ := hs
  refine H_iload_n dJ5_setLength_d00df_0 rfl 1 rfl ?_
  refine H_if_ge (tgt := 13) dJ5_setLength_d00df_1 rfl (fun _ => ?_) (fun q9 => absurd (show (0 : Int32) ≤ 0 from by decide) q9)
  refine H_aload_n dJ5_setLength_d00df_13 rfl 0 rfl ?_
  refine H_iload_n dJ5_setLength_d00df_14 rfl 1 rfl ?_
  refine H_callP (as := [Value.int 0]) (st := []) (mc' := 0) (ms' := 0) hE hcp_J5_setLength_d00df_J5_ensureCapacityInternal_d00df_100 rfl ho.rc rfl rfl (zle rfl) dJ5_setLength_d00df_15 ⟨by omega, by omega⟩ (hJ_ensure0 (q := 0) (K := fun r H1 => r = none ∧ H = H1) hs0 (by omega) ⟨rfl, rfl⟩) (fun r1 H1 q1 => ?_)
  obtain ⟨rfl, rfl⟩ := q1
  refine H_aload_n dJ5_setLength_d00df_18 rfl 0 rfl ?_
  refine H_getV hfl_J5_J4_79 ho rfl dJ5_setLength_d00df_19 ?_
  refine H_iload_n dJ5_setLength_d00df_22 rfl 1 rfl ?_
  refine H_icmp_ge (tgt := 63) dJ5_setLength_d00df_23 rfl (fun _ => ?_) (fun q9 => absurd (show (0 : Int32) ≤ nI n from nI_pos' (by omega)) q9)
  refine H_aload_n dJ5_setLength_d00df_63 rfl 0 rfl ?_
  refine H_getV hfl_J5_J4_79 ho rfl dJ5_setLength_d00df_64 ?_
  refine H_iload_n dJ5_setLength_d00df_67 rfl 1 rfl ?_
  refine H_icmp_le (tgt := 76) dJ5_setLength_d00df_68 rfl (fun q9 => absurd q9 (show ¬ nI n ≤ 0 from nI_nle h0 (by omega))) (fun _ => ?_)
  refine H_aload_n dJ5_setLength_d00df_71 rfl 0 rfl ?_
  refine H_iconst (v := 1) rfl dJ5_setLength_d00df_72 ?_
  refine H_putV (fs2 := [Value.ref v, Value.int 0, Value.int 1, Value.int (nI n)]) hfp_J5_J4_73 (fun h => by cases h) ho rfl (zle rfl) rfl rfl hbz dJ5_setLength_d00df_73 (fun H1 zH1 oH1 h1 => ?_)
  refine H_aload_n dJ5_setLength_d00df_76 rfl 0 rfl ?_
  refine H_iload_n dJ5_setLength_d00df_77 rfl 1 rfl ?_
  refine H_putV (fs2 := [Value.ref v, Value.int 0, Value.int 1, Value.int 0]) hfp_J5_J4_79 (fun h => by cases h) h1 rfl (zle rfl) rfl rfl hbz dJ5_setLength_d00df_78 (fun H2 zH2 oH2 h2 => ?_)
  exact H_vret rfl dJ5_setLength_d00df_81 (by omega) (by omega) (hp H2 1 (by omega) (fun q q1 => by rw [oH2 q q1, oH1 q q1]) ⟨h2, by rw [hA, oH2 v hbv.symm, oH1 v hbv.symm]; exact ha, hbz, hvz, hbv, by omega, hm, hf⟩)
theorem hJ_setl0 {b v n m : Nat} {ml : Int32} {f : Nat → Int32} {K : hK} (hs : hSB G H b v ml n m f) (hp : ∀ (H1 : Heap) (ml' : Int32), H1.size = H.size → (∀ q, q ≠ b → H1[q]? = H[q]?) → hSB G H1 b v ml' 0 m f → K none H1) (h0 : n = 0) : hCal l G Y_J5_setLength_d00df 0 0 [Value.ref b, Value.int 0] H K := by
  refine hCal_of (by decide) rfl (zle rfl) rfl ?_
  have hE : ∀ {mc ms : Nat} {K : hK}, zRm Y_J5_setLength_d00df (hEM G Y_J5_setLength_d00df mc ms K).1 := zRm_M
  have hs0 := hs
  obtain ⟨ho, ha, hbz, hvz, hbv, hnm, hm, hf⟩ := hs
  refine H_iload_n dJ5_setLength_d00df_0 rfl 1 rfl ?_
  refine H_if_ge (tgt := 13) dJ5_setLength_d00df_1 rfl (fun _ => ?_) (fun q9 => absurd (show (0 : Int32) ≤ 0 from by decide) q9)
  refine H_aload_n dJ5_setLength_d00df_13 rfl 0 rfl ?_
  refine H_iload_n dJ5_setLength_d00df_14 rfl 1 rfl ?_
  refine H_callP (as := [Value.int 0]) (st := []) (mc' := 0) (ms' := 0) hE hcp_J5_setLength_d00df_J5_ensureCapacityInternal_d00df_100 rfl ho.rc rfl rfl (zle rfl) dJ5_setLength_d00df_15 ⟨by omega, by omega⟩ (hJ_ensure0 (q := 0) (K := fun r H1 => r = none ∧ H = H1) hs0 (by omega) ⟨rfl, rfl⟩) (fun r1 H1 q1 => ?_)
  obtain ⟨rfl, rfl⟩ := q1
  refine H_aload_n dJ5_setLength_d00df_18 rfl 0 rfl ?_
  refine H_getV hfl_J5_J4_79 ho rfl dJ5_setLength_d00df_19 ?_
  refine H_iload_n dJ5_setLength_d00df_22 rfl 1 rfl ?_
  refine H_icmp_ge (tgt := 63) dJ5_setLength_d00df_23 rfl (fun _ => ?_) (fun q9 => absurd (show (0 : Int32) ≤ nI n from nI_pos' (by omega)) q9)
  refine H_aload_n dJ5_setLength_d00df_63 rfl 0 rfl ?_
  refine H_getV hfl_J5_J4_79 ho rfl dJ5_setLength_d00df_64 ?_
  refine H_iload_n dJ5_setLength_d00df_67 rfl 1 rfl ?_
  refine H_icmp_le (tgt := 76) dJ5_setLength_d00df_68 rfl (fun _ => ?_) (fun q9 => absurd (show nI n ≤ 0 from by rw [h0]; decide) q9)
  refine H_aload_n dJ5_setLength_d00df_76 rfl 0 rfl ?_
  refine H_iload_n dJ5_setLength_d00df_77 rfl 1 rfl ?_
  refine H_putV (fs2 := [Value.ref v, Value.int 0, Value.int ml, Value.int 0]) hfp_J5_J4_79 (fun h => by cases h) ho rfl (zle rfl) rfl rfl hbz dJ5_setLength_d00df_78 (fun H2 zH2 oH2 h2 => ?_)
  exact H_vret rfl dJ5_setLength_d00df_81 (by omega) (by omega) (hp H2 ml (by omega) (fun q q1 => oH2 q q1) ⟨h2, by rw [hA, oH2 v hbv.symm]; exact ha, hbz, hvz, hbv, by omega, hm, hf⟩)
theorem hJ_setLength {b v n m : Nat} {ml : Int32} {f : Nat → Int32} {K : hK} (hs : hSB G H b v ml n m f) (hp : ∀ (H1 : Heap) (ml' : Int32), H1.size = H.size → (∀ q, q ≠ b → H1[q]? = H[q]?) → hSB G H1 b v ml' 0 m f → K none H1) : hCal l G Y_J4_setLength_d00df 0 0 [Value.ref b, Value.int 0] H K := by
  refine hCal_of (by decide) rfl (zle rfl) rfl ?_
  have hE : ∀ {mc ms : Nat} {K : hK}, zRm Y_J4_setLength_d00df (hEM G Y_J4_setLength_d00df mc ms K).1 := zRm_M
  refine H_aload_n dJ4_setLength_d00df_0 rfl 0 rfl ?_
  refine H_iload_n dJ4_setLength_d00df_1 rfl 1 rfl ?_
  refine H_callU (as := [Value.int 0]) (st := []) (mc' := 0) (ms' := 0) hE hcu_J4_setLength_d00df_J5_setLength_d00df_333 rfl hs.1.rc rfl rfl (zle rfl) dJ4_setLength_d00df_2 ⟨by omega, by omega⟩ (show hCal l G Y_J5_setLength_d00df 0 0 [Value.ref b, Value.int 0] H (fun r H1 => r = none ∧ K r H1) from if h0 : n = 0 then hJ_setl0 hs (fun H1 ml' e1 e2 e3 => ⟨rfl, hp H1 ml' e1 e2 e3⟩) h0 else hJ_setl1 hs (fun H1 ml' e1 e2 e3 => ⟨rfl, hp H1 ml' e1 e2 e3⟩) (by omega)) (fun r1 H1 q1 => ?_)
  obtain ⟨rfl, q2⟩ := q1
  exact H_vret rfl dJ4_setLength_d00df_5 (by omega) (by omega) q2
end HJ3
