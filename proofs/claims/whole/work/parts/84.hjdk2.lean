/-! printed by wip/whole/h_*.py -/
theorem selects_priv {C : String} {c : ClassId} {y : MethodName} {s : State} {args : Array Value} (hsame : (Cond.sameMethod y.cls y.cls y.name y.desc).before args s = true) (hpriv : (Cond.privateMethod y).before args s = true) (hinst : (Cond.instanceMethod y).before args s = true) (hc : s.vm.findClass C = some c) : (Cond.selects C y y).before args s = true := by
  obtain ⟨cn, ck, r1, hcn, hck, hni, hf, hn1⟩ := Cond.sameMethod_found hsame
  obtain ⟨mq, methM, hnamed, hmethM, -, -⟩ := Cond.instanceMethod_spec hinst
  have e9 : mq = r1 := Option.some.inj (hnamed.symm.trans hn1)
  subst e9
  have hcls : mq.cls = cn := Option.some.inj ((findClass_of_methodNamed hnamed).symm.trans hcn)
  have hsel : selectMethod {} s.vm c mq = (.method mq) := selectMethod_private hmethM (Cond.privateMethod_at hpriv mq methM hnamed hmethM)
  simp only [Cond.before, Cond.holds, Cond.value, hc, hf, hnamed, hsel, hcls, hck]
  simp; exact hni
/-- a private method of a class above -/
def hLP (Y : zY) (idx : Nat) (Y' : zY) (n : Nat) : Prop := Cond.methodLink (zyO Y) idx (zyN Y') ∈ zAll ∧ Cond.sameMethod (zyN Y').cls (zyN Y').cls (zyN Y').name (zyN Y').desc ∈ zAll ∧ Cond.privateMethod (zyN Y') ∈ zFace ∧ Cond.instanceMethod (zyN Y') ∈ zAll ∧ Cond.initialized (zyN Y').cls ∈ zAll ∧ Cond.code (zyN Y') (zyC Y') (zyL Y') (zyR Y') ∈ zAll ∧
  ((zyN Y').cls ≠ "java/lang/invoke/MethodHandle" ∧ (zyN Y').cls ≠ "java/lang/invoke/VarHandle" ∧ (parseMethodDescriptor (zyN Y').desc).map (fun d => d.parameters.length) = some n) ∧ zyd Y' + 1 ≤ zyd Y ∧ 8 + (zyL Y' + 11) + 60 * zyd Y' ≤ 60 * zyd Y
theorem H_callP {l : Launch} {G : zG} {Y : zY} {E : zE} {pc : Nat} {lv : List (Nat × Value)} {st : List Value} {H : Heap} {c k : Nat} {Y' : zY} {idx n a ci N mc' ms' : Nat} {Cn : String} {T : u_T} {as st0 : List Value} {Kf : hK} (hE : zRm Y E.1) (L : hLP Y idx Y' n) (hc : vwCl[ci]? = some (Cn, T, N)) (hv : hRc G H a ci) (hn : as.length = n) (hs : st0 = as.reverse ++ .ref a :: st) (hw : (st.map fun v => v.category).sum ≤ 8) (d : decode (zyC Y) pc = .ok (.invokevirtual idx, 3)) (hf : c + mc' ≤ E.1.cells ∧ k + ms' ≤ E.1.slots) (h : hCal l G Y' mc' ms' (.ref a :: as) H Kf) (kk : ∀ (r : Option Value) (H1 : Heap), Kf r H1 → hAt l G Y E (pc + 3) lv (r.toList ++ st) H1 (c + mc') (k + ms')) : hAt l G Y E pc lv st0 H c k := by
  intro p e s m args below meth cd locs ls C hN hR hlo hl
  subst hs
  obtain ⟨h1, h2, h3, h4, h5, h6, h7, h8, h9⟩ := L
  have hts := C.2.2.2.2.2.1
  have hfc := ((zctK C).1 ci _ hc).2.1
  have hG : GoodIn zAll (zws Y') := zgood (ws := []) (fun w hw => by cases hw) h6
  have cw : va_CU E.1 s args (zyO Y) Cn (zyN Y').cls idx (zyN Y') (zyN Y') (zyC Y') (zyL Y') (zyR Y') (zws Y') (zRoom (zyd Y') mc' ms') mc' ms' n := by
    refine ⟨⟨rfl, rfl, Nat.le_trans h8 hE.1, Nat.le_trans h9 hE.2, pay_in hts hG, List.mem_cons_self⟩, hts _ h6, hts _ h5, ⟨h7.1, h7.2.1⟩, fun sig h => ?_, hts _ h1, hts _ h2, va_Decl.of (hts _ h4) (hts _ h6), selects_priv (hts _ h2) (C.2.2.2.2.2.2.2.2.1.1.2.2 _ h3 _) (hts _ h4) hfc, hts _ h4⟩
    have h2 := h7.2.2
    rw [h] at h2
    exact (Option.some.inj h2).symm
  exact hgo (mc' := mc') (ms' := ms') (va_runU (As := as) ⟨C.1, C.2.1, C.2.2.2.1, C.2.2.2.2.1, hts⟩ h cw ⟨hPre_blind, hrecv C hv hc, fun U hU hW => ⟨rfl, hPre_at C hR hU hW⟩⟩ rfl hn hl.1 rfl (by show 2 * 0 + _ ≤ 8; omega) d hf) C hN hlo hl kk
abbrev Y_J8_newLength_cabcc : zY := (yJ8_newLength_cabcc, cJ8_newLength_cabcc, 4, (some .int), 4, [])
theorem zw_1028 : Cond.methodLink RJ8 194 Lib.Math.max.name ∈ zAll := zin 1028 (by decide +kernel) (by decide +kernel)
theorem zw_1029 : Cond.constant RJ8 200 2147483639 ∈ zAll := zin 1029 (by decide +kernel) (by decide +kernel)
abbrev Y_J5_newCapacity_0f7a4 : zY := (yJ5_newCapacity_0f7a4, cJ5_newCapacity_0f7a4, 6, (some .int), 8, [])
theorem zw_466 : Cond.fieldLink RJ5 15 "java/lang/AbstractStringBuilder" "value" "[B" ∈ zAll := zin 466 (by decide +kernel) (by decide +kernel)
theorem zws_J4 : ∀ w ∈ u_ws RJ4 TJ4 4, w ∈ zAll := fun w hw => List.mem_filter.mpr (goodIn_r (big := lw_tbl) _ [471, 473, 475, 477] (by decide +kernel) (by decide +kernel) w hw |>.imp_right (fun _ => List.all_eq_true.mp (show (u_ws RJ4 TJ4 4).all goodWord = true by decide +kernel) w hw))
theorem hfl_J5_J4_15 : hFL RJ5 15 1 0 := ⟨RJ4, TJ4, 4, rfl, by decide, zw_466, zws_J4⟩
theorem zw_467 : Cond.fieldLink RJ5 22 "java/lang/AbstractStringBuilder" "coder" "B" ∈ zAll := zin 467 (by decide +kernel) (by decide +kernel)
theorem hfl_J5_J4_22 : hFL RJ5 22 1 1 := ⟨RJ4, TJ4, 4, rfl, by decide, zw_467, zws_J4⟩
theorem zw_1025 : Cond.methodLink RJ5 114 yJ8_newLength_cabcc ∈ zAll := zin 1025 (by decide +kernel) (by decide +kernel)
theorem zw_1027 : Cond.code yJ8_newLength_cabcc cJ8_newLength_cabcc 4 (some .int) ∈ zAll := zin 1027 (by decide +kernel) (by decide +kernel)
theorem zw_1026 : Cond.static yJ8_newLength_cabcc ∈ zAll := zin 1026 (by decide +kernel) (by decide +kernel)
theorem zw_136 : Cond.initialized RJ8 ∈ zAll := zin 136 (by decide +kernel) (by decide +kernel)
theorem hcs_J5_newCapacity_0f7a4_J8_newLength_cabcc_114 : zLS Y_J5_newCapacity_0f7a4 114 Y_J8_newLength_cabcc 3 := ⟨zw_1025, zw_1026, zw_136, zw_1027, by decide +kernel, by decide, by decide⟩
theorem zw_1033 : Cond.constant RJ5 39 2147483647 ∈ zAll := zin 1033 (by decide +kernel) (by decide +kernel)
abbrev Y_J7_copyOf_9075b : zY := (yJ7_copyOf_9075b, cJ7_copyOf_9075b, 3, (some (.array .byte)), 6, [])
theorem zw_292 : Cond.arrayClass .byte ∈ zAll := zin 292 (by decide +kernel) (by decide +kernel)
theorem zw_1044 : Cond.methodLink RJ7 304 Lib.Math.min.name ∈ zAll := zin 1044 (by decide +kernel) (by decide +kernel)
theorem zw_1045 : Cond.methodLink RJ7 150 arraycopyName ∈ zAll := zin 1045 (by decide +kernel) (by decide +kernel)
abbrev Y_J5_ensureCapacityInternal_d00df : zY := (yJ5_ensureCapacityInternal_d00df, cJ5_ensureCapacityInternal_d00df, 3, none, 12, [])
theorem zw_1021 : Cond.methodLink RJ5 104 yJ5_newCapacity_0f7a4 ∈ zAll := zin 1021 (by decide +kernel) (by decide +kernel)
theorem zw_1024 : Cond.code yJ5_newCapacity_0f7a4 cJ5_newCapacity_0f7a4 6 (some .int) ∈ zAll := zin 1024 (by decide +kernel) (by decide +kernel)
theorem zw_1023 : Cond.instanceMethod yJ5_newCapacity_0f7a4 ∈ zAll := zin 1023 (by decide +kernel) (by decide +kernel)
theorem zw_120 : Cond.initialized RJ5 ∈ zAll := zin 120 (by decide +kernel) (by decide +kernel)
theorem zw_2238 : Cond.sameMethod "java/lang/AbstractStringBuilder" "java/lang/AbstractStringBuilder" "newCapacity" "(I)I" ∈ zAll := zin 2238 (by decide +kernel) (by decide +kernel)
theorem hcp_J5_ensureCapacityInternal_d00df_J5_newCapacity_0f7a4_104 : hLP Y_J5_ensureCapacityInternal_d00df 104 Y_J5_newCapacity_0f7a4 1 := ⟨zw_1021, zw_2238, (by decide +kernel), zw_1023, zw_120, zw_1024, by decide +kernel, by decide, by decide⟩
theorem zw_1034 : Cond.methodLink RJ5 108 yJ7_copyOf_9075b ∈ zAll := zin 1034 (by decide +kernel) (by decide +kernel)
theorem zw_1036 : Cond.code yJ7_copyOf_9075b cJ7_copyOf_9075b 3 (some (.array .byte)) ∈ zAll := zin 1036 (by decide +kernel) (by decide +kernel)
theorem zw_1035 : Cond.static yJ7_copyOf_9075b ∈ zAll := zin 1035 (by decide +kernel) (by decide +kernel)
theorem hcs_J5_ensureCapacityInternal_d00df_J7_copyOf_9075b_108 : zLS Y_J5_ensureCapacityInternal_d00df 108 Y_J7_copyOf_9075b 2 := ⟨zw_1034, zw_1035, zw_127, zw_1036, by decide +kernel, by decide, by decide⟩
theorem hfp_J5_J4_15 : hFP RJ5 15 1 0 false (.array .byte) := ⟨RJ4, TJ4, 4, tyJ4, ⟨rfl, by decide, zw_466, zws_J4⟩, tyJ4_ok, nmJ4, rfl, by decide +kernel, (fun h => by cases h)⟩
theorem dJ5_ensureCapacityInternal_d00df_0 : decode cJ5_ensureCapacityInternal_d00df 0 = .ok (.aload_n 0, 1) := by decide +kernel
theorem dJ5_ensureCapacityInternal_d00df_1 : decode cJ5_ensureCapacityInternal_d00df 1 = .ok (.getfield 15, 3) := by decide +kernel
theorem dJ5_ensureCapacityInternal_d00df_4 : decode cJ5_ensureCapacityInternal_d00df 4 = .ok (.arraylength, 1) := by decide +kernel
theorem dJ5_ensureCapacityInternal_d00df_5 : decode cJ5_ensureCapacityInternal_d00df 5 = .ok (.aload_n 0, 1) := by decide +kernel
theorem dJ5_ensureCapacityInternal_d00df_6 : decode cJ5_ensureCapacityInternal_d00df 6 = .ok (.getfield 22, 3) := by decide +kernel
theorem dJ5_ensureCapacityInternal_d00df_9 : decode cJ5_ensureCapacityInternal_d00df 9 = .ok (.ishr, 1) := by decide +kernel
theorem dJ5_ensureCapacityInternal_d00df_10 : decode cJ5_ensureCapacityInternal_d00df 10 = .ok (.istore_n 2, 1) := by decide +kernel
theorem dJ5_ensureCapacityInternal_d00df_11 : decode cJ5_ensureCapacityInternal_d00df 11 = .ok (.iload_n 1, 1) := by decide +kernel
theorem dJ5_ensureCapacityInternal_d00df_12 : decode cJ5_ensureCapacityInternal_d00df 12 = .ok (.iload_n 2, 1) := by decide +kernel
theorem dJ5_ensureCapacityInternal_d00df_13 : decode cJ5_ensureCapacityInternal_d00df 13 = .ok (.isub, 1) := by decide +kernel
theorem dJ5_ensureCapacityInternal_d00df_14 : decode cJ5_ensureCapacityInternal_d00df 14 = .ok (.ifCond .le 24, 3) := by decide +kernel
theorem dJ5_ensureCapacityInternal_d00df_17 : decode cJ5_ensureCapacityInternal_d00df 17 = .ok (.aload_n 0, 1) := by decide +kernel
theorem dJ5_ensureCapacityInternal_d00df_18 : decode cJ5_ensureCapacityInternal_d00df 18 = .ok (.aload_n 0, 1) := by decide +kernel
theorem dJ5_ensureCapacityInternal_d00df_19 : decode cJ5_ensureCapacityInternal_d00df 19 = .ok (.getfield 15, 3) := by decide +kernel
theorem dJ5_ensureCapacityInternal_d00df_22 : decode cJ5_ensureCapacityInternal_d00df 22 = .ok (.aload_n 0, 1) := by decide +kernel
theorem dJ5_ensureCapacityInternal_d00df_23 : decode cJ5_ensureCapacityInternal_d00df 23 = .ok (.iload_n 1, 1) := by decide +kernel
theorem dJ5_ensureCapacityInternal_d00df_24 : decode cJ5_ensureCapacityInternal_d00df 24 = .ok (.invokevirtual 104, 3) := by decide +kernel
theorem dJ5_ensureCapacityInternal_d00df_27 : decode cJ5_ensureCapacityInternal_d00df 27 = .ok (.aload_n 0, 1) := by decide +kernel
theorem dJ5_ensureCapacityInternal_d00df_28 : decode cJ5_ensureCapacityInternal_d00df 28 = .ok (.getfield 22, 3) := by decide +kernel
theorem dJ5_ensureCapacityInternal_d00df_31 : decode cJ5_ensureCapacityInternal_d00df 31 = .ok (.ishl, 1) := by decide +kernel
theorem dJ5_ensureCapacityInternal_d00df_32 : decode cJ5_ensureCapacityInternal_d00df 32 = .ok (.invokestatic 108, 3) := by decide +kernel
theorem dJ5_ensureCapacityInternal_d00df_35 : decode cJ5_ensureCapacityInternal_d00df 35 = .ok (.putfield 15, 3) := by decide +kernel
theorem dJ5_ensureCapacityInternal_d00df_38 : decode cJ5_ensureCapacityInternal_d00df 38 = .ok (.return_, 1) := by decide +kernel
theorem dJ5_newCapacity_0f7a4_0 : decode cJ5_newCapacity_0f7a4 0 = .ok (.aload_n 0, 1) := by decide +kernel
theorem dJ5_newCapacity_0f7a4_1 : decode cJ5_newCapacity_0f7a4 1 = .ok (.getfield 15, 3) := by decide +kernel
theorem dJ5_newCapacity_0f7a4_4 : decode cJ5_newCapacity_0f7a4 4 = .ok (.arraylength, 1) := by decide +kernel
theorem dJ5_newCapacity_0f7a4_5 : decode cJ5_newCapacity_0f7a4 5 = .ok (.istore_n 2, 1) := by decide +kernel
theorem dJ5_newCapacity_0f7a4_6 : decode cJ5_newCapacity_0f7a4 6 = .ok (.iload_n 1, 1) := by decide +kernel
theorem dJ5_newCapacity_0f7a4_7 : decode cJ5_newCapacity_0f7a4 7 = .ok (.aload_n 0, 1) := by decide +kernel
theorem dJ5_newCapacity_0f7a4_8 : decode cJ5_newCapacity_0f7a4 8 = .ok (.getfield 22, 3) := by decide +kernel
theorem dJ5_newCapacity_0f7a4_11 : decode cJ5_newCapacity_0f7a4 11 = .ok (.ishl, 1) := by decide +kernel
theorem dJ5_newCapacity_0f7a4_12 : decode cJ5_newCapacity_0f7a4 12 = .ok (.istore_n 3, 1) := by decide +kernel
theorem dJ5_newCapacity_0f7a4_13 : decode cJ5_newCapacity_0f7a4 13 = .ok (.iload_n 3, 1) := by decide +kernel
theorem dJ5_newCapacity_0f7a4_14 : decode cJ5_newCapacity_0f7a4 14 = .ok (.iload_n 2, 1) := by decide +kernel
theorem dJ5_newCapacity_0f7a4_15 : decode cJ5_newCapacity_0f7a4 15 = .ok (.isub, 1) := by decide +kernel
theorem dJ5_newCapacity_0f7a4_16 : decode cJ5_newCapacity_0f7a4 16 = .ok (.istore 4, 2) := by decide +kernel
theorem dJ5_newCapacity_0f7a4_18 : decode cJ5_newCapacity_0f7a4 18 = .ok (.iload_n 2, 1) := by decide +kernel
theorem dJ5_newCapacity_0f7a4_19 : decode cJ5_newCapacity_0f7a4 19 = .ok (.iload 4, 2) := by decide +kernel
theorem dJ5_newCapacity_0f7a4_21 : decode cJ5_newCapacity_0f7a4 21 = .ok (.iload_n 2, 1) := by decide +kernel
theorem dJ5_newCapacity_0f7a4_22 : decode cJ5_newCapacity_0f7a4 22 = .ok (.iconst 2, 1) := by decide +kernel
theorem dJ5_newCapacity_0f7a4_23 : decode cJ5_newCapacity_0f7a4 23 = .ok (.aload_n 0, 1) := by decide +kernel
theorem dJ5_newCapacity_0f7a4_24 : decode cJ5_newCapacity_0f7a4 24 = .ok (.getfield 22, 3) := by decide +kernel
theorem dJ5_newCapacity_0f7a4_27 : decode cJ5_newCapacity_0f7a4 27 = .ok (.ishl, 1) := by decide +kernel
theorem dJ5_newCapacity_0f7a4_28 : decode cJ5_newCapacity_0f7a4 28 = .ok (.iadd, 1) := by decide +kernel
theorem dJ5_newCapacity_0f7a4_29 : decode cJ5_newCapacity_0f7a4 29 = .ok (.invokestatic 114, 3) := by decide +kernel
theorem dJ5_newCapacity_0f7a4_32 : decode cJ5_newCapacity_0f7a4 32 = .ok (.istore 5, 2) := by decide +kernel
theorem dJ5_newCapacity_0f7a4_34 : decode cJ5_newCapacity_0f7a4 34 = .ok (.iload 5, 2) := by decide +kernel
theorem dJ5_newCapacity_0f7a4_36 : decode cJ5_newCapacity_0f7a4 36 = .ok (.ldc 39, 2) := by decide +kernel
theorem dJ5_newCapacity_0f7a4_38 : decode cJ5_newCapacity_0f7a4 38 = .ok (.if_icmp .ne 13, 3) := by decide +kernel
theorem dJ5_newCapacity_0f7a4_41 : decode cJ5_newCapacity_0f7a4 41 = .ok (.new 120, 3) := by decide +kernel
theorem dJ5_newCapacity_0f7a4_44 : decode cJ5_newCapacity_0f7a4 44 = .ok (.dup, 1) := by decide +kernel
theorem dJ5_newCapacity_0f7a4_45 : decode cJ5_newCapacity_0f7a4 45 = .ok (.ldc 122, 2) := by decide +kernel
theorem dJ5_newCapacity_0f7a4_47 : decode cJ5_newCapacity_0f7a4 47 = .ok (.invokespecial 124, 3) := by decide +kernel
theorem dJ5_newCapacity_0f7a4_50 : decode cJ5_newCapacity_0f7a4 50 = .ok (.athrow, 1) := by decide +kernel
theorem dJ5_newCapacity_0f7a4_51 : decode cJ5_newCapacity_0f7a4 51 = .ok (.iload 5, 2) := by decide +kernel
theorem dJ5_newCapacity_0f7a4_53 : decode cJ5_newCapacity_0f7a4 53 = .ok (.aload_n 0, 1) := by decide +kernel
theorem dJ5_newCapacity_0f7a4_54 : decode cJ5_newCapacity_0f7a4 54 = .ok (.getfield 22, 3) := by decide +kernel
theorem dJ5_newCapacity_0f7a4_57 : decode cJ5_newCapacity_0f7a4 57 = .ok (.ishr, 1) := by decide +kernel
theorem dJ5_newCapacity_0f7a4_58 : decode cJ5_newCapacity_0f7a4 58 = .ok (.ireturn, 1) := by decide +kernel
theorem dJ7_copyOf_9075b_0 : decode cJ7_copyOf_9075b 0 = .ok (.iload_n 1, 1) := by decide +kernel
theorem dJ7_copyOf_9075b_1 : decode cJ7_copyOf_9075b 1 = .ok (.aload_n 0, 1) := by decide +kernel
theorem dJ7_copyOf_9075b_2 : decode cJ7_copyOf_9075b 2 = .ok (.arraylength, 1) := by decide +kernel
theorem dJ7_copyOf_9075b_3 : decode cJ7_copyOf_9075b 3 = .ok (.if_icmp .ne 11, 3) := by decide +kernel
theorem dJ7_copyOf_9075b_6 : decode cJ7_copyOf_9075b 6 = .ok (.aload_n 0, 1) := by decide +kernel
theorem dJ7_copyOf_9075b_7 : decode cJ7_copyOf_9075b 7 = .ok (.invokevirtual 310, 3) := by decide +kernel
theorem dJ7_copyOf_9075b_10 : decode cJ7_copyOf_9075b 10 = .ok (.checkcast 311, 3) := by decide +kernel
theorem dJ7_copyOf_9075b_13 : decode cJ7_copyOf_9075b 13 = .ok (.areturn, 1) := by decide +kernel
theorem dJ7_copyOf_9075b_14 : decode cJ7_copyOf_9075b 14 = .ok (.iload_n 1, 1) := by decide +kernel
theorem dJ7_copyOf_9075b_15 : decode cJ7_copyOf_9075b 15 = .ok (.newarray .byte, 2) := by decide +kernel
theorem dJ7_copyOf_9075b_17 : decode cJ7_copyOf_9075b 17 = .ok (.astore_n 2, 1) := by decide +kernel
theorem dJ7_copyOf_9075b_18 : decode cJ7_copyOf_9075b 18 = .ok (.aload_n 0, 1) := by decide +kernel
theorem dJ7_copyOf_9075b_19 : decode cJ7_copyOf_9075b 19 = .ok (.iconst 0, 1) := by decide +kernel
theorem dJ7_copyOf_9075b_20 : decode cJ7_copyOf_9075b 20 = .ok (.aload_n 2, 1) := by decide +kernel
theorem dJ7_copyOf_9075b_21 : decode cJ7_copyOf_9075b 21 = .ok (.iconst 0, 1) := by decide +kernel
theorem dJ7_copyOf_9075b_22 : decode cJ7_copyOf_9075b 22 = .ok (.aload_n 0, 1) := by decide +kernel
theorem dJ7_copyOf_9075b_23 : decode cJ7_copyOf_9075b 23 = .ok (.arraylength, 1) := by decide +kernel
theorem dJ7_copyOf_9075b_24 : decode cJ7_copyOf_9075b 24 = .ok (.iload_n 1, 1) := by decide +kernel
theorem dJ7_copyOf_9075b_25 : decode cJ7_copyOf_9075b 25 = .ok (.invokestatic 304, 3) := by decide +kernel
theorem dJ7_copyOf_9075b_28 : decode cJ7_copyOf_9075b 28 = .ok (.invokestatic 150, 3) := by decide +kernel
theorem dJ7_copyOf_9075b_31 : decode cJ7_copyOf_9075b 31 = .ok (.aload_n 2, 1) := by decide +kernel
theorem dJ7_copyOf_9075b_32 : decode cJ7_copyOf_9075b 32 = .ok (.areturn, 1) := by decide +kernel
theorem dJ8_newLength_cabcc_0 : decode cJ8_newLength_cabcc 0 = .ok (.iload_n 0, 1) := by decide +kernel
theorem dJ8_newLength_cabcc_1 : decode cJ8_newLength_cabcc 1 = .ok (.iload_n 1, 1) := by decide +kernel
theorem dJ8_newLength_cabcc_2 : decode cJ8_newLength_cabcc 2 = .ok (.iload_n 2, 1) := by decide +kernel
theorem dJ8_newLength_cabcc_3 : decode cJ8_newLength_cabcc 3 = .ok (.invokestatic 194, 3) := by decide +kernel
theorem dJ8_newLength_cabcc_6 : decode cJ8_newLength_cabcc 6 = .ok (.iadd, 1) := by decide +kernel
theorem dJ8_newLength_cabcc_7 : decode cJ8_newLength_cabcc 7 = .ok (.istore_n 3, 1) := by decide +kernel
theorem dJ8_newLength_cabcc_8 : decode cJ8_newLength_cabcc 8 = .ok (.iconst 0, 1) := by decide +kernel
theorem dJ8_newLength_cabcc_9 : decode cJ8_newLength_cabcc 9 = .ok (.iload_n 3, 1) := by decide +kernel
theorem dJ8_newLength_cabcc_10 : decode cJ8_newLength_cabcc 10 = .ok (.if_icmp .ge 11, 3) := by decide +kernel
theorem dJ8_newLength_cabcc_13 : decode cJ8_newLength_cabcc 13 = .ok (.iload_n 3, 1) := by decide +kernel
theorem dJ8_newLength_cabcc_14 : decode cJ8_newLength_cabcc 14 = .ok (.ldc 200, 2) := by decide +kernel
theorem dJ8_newLength_cabcc_16 : decode cJ8_newLength_cabcc 16 = .ok (.if_icmp .gt 5, 3) := by decide +kernel
theorem dJ8_newLength_cabcc_19 : decode cJ8_newLength_cabcc 19 = .ok (.iload_n 3, 1) := by decide +kernel
theorem dJ8_newLength_cabcc_20 : decode cJ8_newLength_cabcc 20 = .ok (.ireturn, 1) := by decide +kernel
theorem dJ8_newLength_cabcc_21 : decode cJ8_newLength_cabcc 21 = .ok (.iload_n 0, 1) := by decide +kernel
theorem dJ8_newLength_cabcc_22 : decode cJ8_newLength_cabcc 22 = .ok (.iload_n 1, 1) := by decide +kernel
theorem dJ8_newLength_cabcc_23 : decode cJ8_newLength_cabcc 23 = .ok (.invokestatic 201, 3) := by decide +kernel
theorem dJ8_newLength_cabcc_26 : decode cJ8_newLength_cabcc 26 = .ok (.ireturn, 1) := by decide +kernel
theorem H_bs {l : Launch} {G : zG} {Y : zY} {E : zE} {pc : Nat} {lv : List (Nat × Value)} {st : List Value} {H : Heap} {c k : Nat} (h : hBase G H → gy G (gA G 4) → hAt l G Y E pc lv st H c k) : hAt l G Y E pc lv st H c k := by
  intro p e s m args below meth cd locs ls C hN hR hlo hl
  exact h hR C.2.2.2.2.2.2.2.1.2.2.2.2.2.2.2.1 p e s m args below meth cd locs ls C hN hR hlo hl
/-- the builder on the heap -/
def hSB (G : zG) (H : Heap) (b v : Nat) (ml : Int32) (n m : Nat) (f : Nat → Int32) : Prop := hO G H b 1 (vp_V [.ref v, .int 0, .int ml, .int (nI n)]) ∧ hA G H v 4 m (.inl f) ∧ zfr G b ∧ zfr G v ∧ b ≠ v ∧ n ≤ m ∧ m ≤ 65536 ∧ sb_Fit f
section HJ2
variable {l : Launch} {G : zG} {H : Heap}
theorem hJ_newLength {a g p : Nat} {K : hK} (h : a + g + p < 268435456) (h0 : 0 < a + (if g < p then p else g)) (hp : K (some (.int (nI (a + (if g < p then p else g))))) H) : hCal l G Y_J8_newLength_cabcc 0 0 [Value.int (nI a), Value.int (nI g), Value.int (nI p)] H K := by
  refine hCal_of (by decide) rfl (zle rfl) rfl ?_
  have hE : ∀ {mc ms : Nat} {K : hK}, zRm Y_J8_newLength_cabcc (hEM G Y_J8_newLength_cabcc mc ms K).1 := zRm_M
  refine H_iload_n dJ8_newLength_cabcc_0 rfl 0 rfl ?_
  refine H_iload_n dJ8_newLength_cabcc_1 rfl 1 rfl ?_
  refine H_iload_n dJ8_newLength_cabcc_2 rfl 2 rfl ?_
  refine H_mmax zw_1028 zw_829 zw_129 zw_830 hE (by decide) (zle rfl) (by show _ ≤ _; omega) (by show _ ≤ _; omega) dJ8_newLength_cabcc_3 ?_
  rw [show (if nI g < nI p then nI p else nI g) = nI (if g < p then p else g) by by_cases c : g < p; rw [if_pos c, if_pos (nI_lt c (by omega))]; rw [if_neg c, if_neg (nI_nlt (by omega) (by omega))]]
  obtain ⟨mx, hmx⟩ : ∃ mx, (if g < p then p else g) = mx := ⟨_, rfl⟩
  have hmx2 : mx ≤ g + p := by rw [← hmx]; split <;> omega
  rw [hmx] at h0 hp ⊢
  refine H_iadd dJ8_newLength_cabcc_6 ?_
  rw [nI_add a mx]
  refine H_istore_n (lv2 := [(3, Value.int (nI (a + mx))), (0, Value.int (nI a)), (1, Value.int (nI g)), (2, Value.int (nI p))]) dJ8_newLength_cabcc_7 rfl (by decide) rfl ?_
  refine H_iconst (v := 0) rfl dJ8_newLength_cabcc_8 ?_
  refine H_iload_n dJ8_newLength_cabcc_9 rfl 0 rfl ?_
  refine H_icmp_ge (tgt := 21) dJ8_newLength_cabcc_10 rfl (fun q9 => absurd q9 (fun z => absurd (ti_le.mp z) (by rw [ti_0, ti_nI (by omega)]; omega))) (fun _ => ?_)
  refine H_iload_n dJ8_newLength_cabcc_13 rfl 0 rfl ?_
  refine H_ldc zw_1029 dJ8_newLength_cabcc_14 ?_
  refine H_icmp_gt (tgt := 21) dJ8_newLength_cabcc_16 rfl (fun q9 => absurd q9 (fun z => absurd (ti_lt.mp z) (by rw [ti_nI (by omega), show (2147483639 : Int32).toInt = 2147483639 from rfl]; omega))) (fun _ => ?_)
  refine H_iload_n dJ8_newLength_cabcc_19 rfl 0 rfl ?_
  exact H_iret rfl rfl dJ8_newLength_cabcc_20 (by omega) (by omega) hp
theorem hJ_newCapacity {b v n m q : Nat} {ml : Int32} {f : Nat → Int32} {K : hK} (hs : hSB G H b v ml n m f) (hq : m < q) (hc : sb_cap q m ≤ 65536) (hp : K (some (.int (nI (sb_cap q m)))) H) : hCal l G Y_J5_newCapacity_0f7a4 0 0 [Value.ref b, Value.int (nI q)] H K := by
  refine hCal_of (by decide) rfl (zle rfl) rfl ?_
  have hE : ∀ {mc ms : Nat} {K : hK}, zRm Y_J5_newCapacity_0f7a4 (hEM G Y_J5_newCapacity_0f7a4 mc ms K).1 := zRm_M
  have ecap : m + (if q - m < m + 2 then m + 2 else q - m) = sb_cap q m := by
    unfold sb_cap
    rw [if_neg (show ¬ q ≤ m by omega)]
    by_cases c1 : 2 * m + 2 < q
    · rw [if_pos c1, if_neg (show ¬ q - m < m + 2 by omega)]
      omega
    · rw [if_neg c1]
      split <;> omega
  have hcg := sb_cap_ge q m
  obtain ⟨ho, ha, hbz, hvz, hbv, hnm, hm, hf⟩ := hs
  refine H_aload_n dJ5_newCapacity_0f7a4_0 rfl 0 rfl ?_
  refine H_getV hfl_J5_J4_15 ho rfl dJ5_newCapacity_0f7a4_1 ?_
  refine H_alenI ha (by decide) dJ5_newCapacity_0f7a4_4 ?_
  refine H_istore_n (lv2 := [(2, Value.int (nI m)), (0, Value.ref b), (1, Value.int (nI q))]) dJ5_newCapacity_0f7a4_5 rfl (by decide) rfl ?_
  refine H_iload_n dJ5_newCapacity_0f7a4_6 rfl 2 rfl ?_
  refine H_aload_n dJ5_newCapacity_0f7a4_7 rfl 1 rfl ?_
  refine H_getV hfl_J5_J4_22 ho rfl dJ5_newCapacity_0f7a4_8 ?_
  refine H_ishl dJ5_newCapacity_0f7a4_11 ?_
  rw [sb_shl0]
  refine H_istore_n (lv2 := [(3, Value.int (nI q)), (2, Value.int (nI m)), (0, Value.ref b), (1, Value.int (nI q))]) dJ5_newCapacity_0f7a4_12 rfl (by decide) rfl ?_
  refine H_iload_n dJ5_newCapacity_0f7a4_13 rfl 0 rfl ?_
  refine H_iload_n dJ5_newCapacity_0f7a4_14 rfl 1 rfl ?_
  refine H_isub dJ5_newCapacity_0f7a4_15 ?_
  refine H_istore (lv2 := [(4, Value.int ((nI q) - (nI m))), (3, Value.int (nI q)), (2, Value.int (nI m)), (0, Value.ref b), (1, Value.int (nI q))]) dJ5_newCapacity_0f7a4_16 (by decide) rfl ?_
  refine H_iload_n dJ5_newCapacity_0f7a4_18 rfl 2 rfl ?_
  refine H_iload dJ5_newCapacity_0f7a4_19 0 rfl ?_
  refine H_iload_n dJ5_newCapacity_0f7a4_21 rfl 2 rfl ?_
  refine H_iconst (v := 2) rfl dJ5_newCapacity_0f7a4_22 ?_
  refine H_aload_n dJ5_newCapacity_0f7a4_23 rfl 3 rfl ?_
  refine H_getV hfl_J5_J4_22 ho rfl dJ5_newCapacity_0f7a4_24 ?_
  refine H_ishl dJ5_newCapacity_0f7a4_27 ?_
  rw [sb_shl0]
  refine H_iadd dJ5_newCapacity_0f7a4_28 ?_
  rw [show (nI m + 2 : Int32) = nI (m + 2) from nI_add m 2, show nI q - nI m = nI (q - m) from pk_sub (by omega)]
  refine H_callS (as := [Value.int (nI m), Value.int (nI (q - m)), Value.int (nI (m + 2))]) (st := []) (mc' := 0) (ms' := 0) hE hcs_J5_newCapacity_0f7a4_J8_newLength_cabcc_114 rfl rfl (zle rfl) dJ5_newCapacity_0f7a4_29 ⟨by omega, by omega⟩ (hJ_newLength (K := fun r H1 => r = some (.int (nI (sb_cap q m))) ∧ H = H1) (by omega) (by rw [ecap]; omega) ⟨by rw [ecap], rfl⟩) (fun r1 H1 q1 => ?_)
  obtain ⟨rfl, rfl⟩ := q1
  refine H_istore (lv2 := [(5, Value.int (nI (sb_cap q m))), (4, Value.int (nI (q - m))), (3, Value.int (nI q)), (2, Value.int (nI m)), (0, Value.ref b), (1, Value.int (nI q))]) dJ5_newCapacity_0f7a4_32 (by decide) rfl ?_
  refine H_iload dJ5_newCapacity_0f7a4_34 0 rfl ?_
  refine H_ldc zw_1033 dJ5_newCapacity_0f7a4_36 ?_
  refine H_icmp_ne (tgt := 51) dJ5_newCapacity_0f7a4_38 rfl (fun _ => ?_) (fun q9 => absurd q9 (fun z => absurd (ti_eq.mp z) (by rw [ti_nI (by omega), show (2147483647 : Int32).toInt = 2147483647 from rfl]; omega)))
  refine H_iload dJ5_newCapacity_0f7a4_51 0 rfl ?_
  refine H_aload_n dJ5_newCapacity_0f7a4_53 rfl 4 rfl ?_
  refine H_getV hfl_J5_J4_22 ho rfl dJ5_newCapacity_0f7a4_54 ?_
  refine H_ishr dJ5_newCapacity_0f7a4_57 ?_
  rw [sb_shr0]
  exact H_iret rfl rfl dJ5_newCapacity_0f7a4_58 (by omega) (by omega) hp
theorem hJ_copyOf {v m c mc ms : Nat} {f : Nat → Int32} {K : hK} (ha : hA G H v 4 m (.inl f)) (hc : m < c) (h6 : c ≤ 65536) (hf : sb_Fit f) (hmc : 1 ≤ mc) (hms : c ≤ ms) (hp : ∀ H1 : Heap, H1.size = H.size + 1 → (∀ q, q < H.size → H1[q]? = H[q]?) → hA G H1 H.size 4 c (.inl (va_cpy f (fun _ => 0) 0 0 m)) → K (some (.ref H.size)) H1) : hCal l G Y_J7_copyOf_9075b mc ms [Value.ref v, Value.int (nI c)] H K := by
  refine hCal_of (by decide) rfl (zle rfl) rfl ?_
  have hE : ∀ {mc ms : Nat} {K : hK}, zRm Y_J7_copyOf_9075b (hEM G Y_J7_copyOf_9075b mc ms K).1 := zRm_M
  refine H_iload_n dJ7_copyOf_9075b_0 rfl 1 rfl ?_
  refine H_aload_n dJ7_copyOf_9075b_1 rfl 0 rfl ?_
  refine H_alenI ha (by decide) dJ7_copyOf_9075b_2 ?_
  refine H_icmp_ne (tgt := 14) dJ7_copyOf_9075b_3 rfl (fun _ => ?_) (fun q9 => absurd q9 (fun z => absurd ((nI_eq (by omega) (by omega)).mp z) (by omega)))
  refine H_iload_n dJ7_copyOf_9075b_14 rfl 1 rfl ?_
  refine H_bs (fun hB0 hg4 => ?_)
  refine H_newa (at_ := .byte) (t := 4) (n := c) (z := .inl (fun _ => 0)) (by decide) rfl zw_292 (ti_nI (by omega)) (fun _ => rfl) (by show c * 1 ≤ _; omega) (by show 0 + 1 ≤ mc; omega) (by show 0 + c ≤ ms; omega) dJ7_copyOf_9075b_15 (fun H1 z1 o1 n1 => ?_)
  have ha1 : hA G H1 v 4 m (.inl f) := (o1 v ha.lt).trans ha
  refine H_astore_n (lv2 := [(2, Value.ref H.size), (0, Value.ref v), (1, Value.int (nI c))]) dJ7_copyOf_9075b_17 rfl (by decide) rfl ?_
  refine H_aload_n dJ7_copyOf_9075b_18 rfl 1 rfl ?_
  refine H_iconst (v := 0) rfl dJ7_copyOf_9075b_19 ?_
  refine H_aload_n dJ7_copyOf_9075b_20 rfl 0 rfl ?_
  refine H_iconst (v := 0) rfl dJ7_copyOf_9075b_21 ?_
  refine H_aload_n dJ7_copyOf_9075b_22 rfl 1 rfl ?_
  refine H_alenI ha1 (by decide) dJ7_copyOf_9075b_23 ?_
  refine H_iload_n dJ7_copyOf_9075b_24 rfl 2 rfl ?_
  refine H_mmin zw_1044 zw_797 zw_129 zw_798 hE (by decide) (zle rfl) (by show 0 + 1 ≤ mc; omega) (by show 0 + c ≤ ms; omega) dJ7_copyOf_9075b_25 ?_
  rw [if_neg (nI_nlt (show m ≤ c by omega) (by omega))]
  refine H_copyB (n0 := m) (n1 := c) (f := f) (g := fun _ => 0) zw_1045 zw_727 zw_726 zw_128 (ha1.b hg4) n1 hB0.fr (fun j _ => hf j) ⟨by decide, by decide, nI_pos (by omega), by rw [sb_cl0, nI_clamp (by omega)]; omega, by rw [sb_cl0, nI_clamp (by omega)]; omega⟩ hE (by decide) (zle rfl) dJ7_copyOf_9075b_28 (fun H2 z2 o2 n2 => ?_)
  rw [sb_cl0, nI_clamp (n := m) (by omega)] at n2
  refine H_aload_n dJ7_copyOf_9075b_31 rfl 0 rfl ?_
  exact H_aret rfl (Or.inr ⟨_, rfl⟩) dJ7_copyOf_9075b_32 (by omega) (by omega) (hp H2 (by omega) (fun q hq => (o2 q (by omega)).trans (o1 q hq)) n2)
theorem hJ_ensure0 {b v n m q mc ms : Nat} {ml : Int32} {f : Nat → Int32} {K : hK} (hs : hSB G H b v ml n m f) (hq : q ≤ m) (hp : K none H) : hCal l G Y_J5_ensureCapacityInternal_d00df mc ms [Value.ref b, Value.int (nI q)] H K := by
  refine hCal_of (by decide) rfl (zle rfl) rfl ?_
  have hE : ∀ {mc ms : Nat} {K : hK}, zRm Y_J5_ensureCapacityInternal_d00df (hEM G Y_J5_ensureCapacityInternal_d00df mc ms K).1 := zRm_M
  have hs0 := hs
  obtain ⟨ho, ha, hbz, hvz, hbv, hnm, hm, hf⟩ := hs
  refine H_aload_n dJ5_ensureCapacityInternal_d00df_0 rfl 0 rfl ?_
  refine H_getV hfl_J5_J4_15 ho rfl dJ5_ensureCapacityInternal_d00df_1 ?_
  refine H_alenI ha (by decide) dJ5_ensureCapacityInternal_d00df_4 ?_
  refine H_aload_n dJ5_ensureCapacityInternal_d00df_5 rfl 0 rfl ?_
  refine H_getV hfl_J5_J4_22 ho rfl dJ5_ensureCapacityInternal_d00df_6 ?_
  refine H_ishr dJ5_ensureCapacityInternal_d00df_9 ?_
  rw [sb_shr0]
  refine H_istore_n (lv2 := [(2, Value.int (nI m)), (0, Value.ref b), (1, Value.int (nI q))]) dJ5_ensureCapacityInternal_d00df_10 rfl (by decide) rfl ?_
  refine H_iload_n dJ5_ensureCapacityInternal_d00df_11 rfl 2 rfl ?_
  refine H_iload_n dJ5_ensureCapacityInternal_d00df_12 rfl 0 rfl ?_
  refine H_isub dJ5_ensureCapacityInternal_d00df_13 ?_
  refine H_if_le (tgt := 38) dJ5_ensureCapacityInternal_d00df_14 rfl (fun _ => ?_) (fun q9 => absurd (show nI q - nI m ≤ 0 from ti_le.mpr (by rw [pk_sub_toInt (by omega) (by omega), ti_0]; omega)) q9)
  exact H_vret rfl dJ5_ensureCapacityInternal_d00df_38 (by omega) (by omega) hp
theorem hJ_ensure1 {b v n m q mc ms : Nat} {ml : Int32} {f : Nat → Int32} {K : hK} (hs : hSB G H b v ml n m f) (hq : m < q) (hc : sb_cap q m ≤ 65536) (hmc : 1 ≤ mc) (hms : sb_cap q m ≤ ms)
    (hp : ∀ (H1 : Heap) (v' : Nat) (f' : Nat → Int32), H.size ≤ H1.size → (∀ q, q < H.size → q ≠ b → H1[q]? = H[q]?) → (v' = v ∨ H.size ≤ v') → (∀ j, j < m → f' j = f j) → hSB G H1 b v' ml n (sb_cap q m) f' → K none H1) : hCal l G Y_J5_ensureCapacityInternal_d00df mc ms [Value.ref b, Value.int (nI q)] H K := by
  refine hCal_of (by decide) rfl (zle rfl) rfl ?_
  have hE : ∀ {mc ms : Nat} {K : hK}, zRm Y_J5_ensureCapacityInternal_d00df (hEM G Y_J5_ensureCapacityInternal_d00df mc ms K).1 := zRm_M
  have hcg := sb_cap_ge q m
  refine H_bs (fun hB1 hg5 => ?_)
  have hs0 := hs
  obtain ⟨ho, ha, hbz, hvz, hbv, hnm, hm, hf⟩ := hs
  refine H_aload_n dJ5_ensureCapacityInternal_d00df_0 rfl 0 rfl ?_
  refine H_getV hfl_J5_J4_15 ho rfl dJ5_ensureCapacityInternal_d00df_1 ?_
  refine H_alenI ha (by decide) dJ5_ensureCapacityInternal_d00df_4 ?_
  refine H_aload_n dJ5_ensureCapacityInternal_d00df_5 rfl 0 rfl ?_
  refine H_getV hfl_J5_J4_22 ho rfl dJ5_ensureCapacityInternal_d00df_6 ?_
  refine H_ishr dJ5_ensureCapacityInternal_d00df_9 ?_
  rw [sb_shr0]
  refine H_istore_n (lv2 := [(2, Value.int (nI m)), (0, Value.ref b), (1, Value.int (nI q))]) dJ5_ensureCapacityInternal_d00df_10 rfl (by decide) rfl ?_
  refine H_iload_n dJ5_ensureCapacityInternal_d00df_11 rfl 2 rfl ?_
  refine H_iload_n dJ5_ensureCapacityInternal_d00df_12 rfl 0 rfl ?_
  refine H_isub dJ5_ensureCapacityInternal_d00df_13 ?_
  refine H_if_le (tgt := 38) dJ5_ensureCapacityInternal_d00df_14 rfl (fun q9 => absurd q9 (show ¬ nI q - nI m ≤ 0 from fun z => absurd (ti_le.mp z) (by rw [pk_sub_toInt (by omega) (by omega), ti_0]; omega))) (fun _ => ?_)
  refine H_aload_n dJ5_ensureCapacityInternal_d00df_17 rfl 1 rfl ?_
  refine H_aload_n dJ5_ensureCapacityInternal_d00df_18 rfl 1 rfl ?_
  refine H_getV hfl_J5_J4_15 ho rfl dJ5_ensureCapacityInternal_d00df_19 ?_
  refine H_aload_n dJ5_ensureCapacityInternal_d00df_22 rfl 1 rfl ?_
  refine H_iload_n dJ5_ensureCapacityInternal_d00df_23 rfl 2 rfl ?_
  refine H_callP (as := [Value.int (nI q)]) (st := [Value.ref v, Value.ref b]) (mc' := 0) (ms' := 0) hE hcp_J5_ensureCapacityInternal_d00df_J5_newCapacity_0f7a4_104 rfl ho.rc rfl rfl (zle rfl) dJ5_ensureCapacityInternal_d00df_24 ⟨by omega, by omega⟩ (hJ_newCapacity (K := fun r H1 => r = some (.int (nI (sb_cap q m))) ∧ H = H1) hs0 hq hc ⟨rfl, rfl⟩) (fun r1 H1 q1 => ?_)
  obtain ⟨rfl, rfl⟩ := q1
  refine H_aload_n dJ5_ensureCapacityInternal_d00df_27 rfl 1 rfl ?_
  refine H_getV hfl_J5_J4_22 ho rfl dJ5_ensureCapacityInternal_d00df_28 ?_
  refine H_ishl dJ5_ensureCapacityInternal_d00df_31 ?_
  rw [sb_shl0]
  refine H_callS (as := [Value.ref v, Value.int (nI (sb_cap q m))]) (st := [Value.ref b]) (mc' := 1) (ms' := (sb_cap q m)) hE hcs_J5_ensureCapacityInternal_d00df_J7_copyOf_9075b_108 rfl rfl (zle rfl) dJ5_ensureCapacityInternal_d00df_32 ⟨by show 0 + 0 + 1 ≤ mc; omega, by show 0 + 0 + sb_cap q m ≤ ms; omega⟩ (hJ_copyOf (K := fun r H1 => r = some (.ref H.size) ∧ H1.size = H.size + 1 ∧ (∀ q, q < H.size → H1[q]? = H[q]?) ∧ hA G H1 H.size 4 (sb_cap q m) (.inl (va_cpy f (fun _ => 0) 0 0 m))) ha (by omega) hc hf (Nat.le_refl 1) (Nat.le_refl _) (fun H1 z1 o1 n1 => ⟨rfl, z1, o1, n1⟩)) (fun r1 H1 q1 => ?_)
  obtain ⟨rfl, z1, o1, n1⟩ := q1
  refine H_bs (fun hB0 hg4 => ?_)
  have hlt := ho.lt
  refine H_putV (fs2 := [Value.ref H.size, Value.int 0, Value.int ml, Value.int (nI n)]) hfp_J5_J4_15 (fun h => by cases h) (ho.kept (o1 b ho.lt)) rfl (zle rfl) rfl rfl hbz dJ5_ensureCapacityInternal_d00df_35 (fun H2 zH2 oH2 h2 => ?_)
  have hb1 : H.size ≠ b := by omega
  exact H_vret rfl dJ5_ensureCapacityInternal_d00df_38 (by omega) (by omega) (hp H2 H.size (va_cpy f (fun _ => 0) 0 0 m) (by omega) (fun q h1 h3 => (oH2 q h3).trans (o1 q h1)) (Or.inr (Nat.le_refl _)) (fun j hj => sb_cpy0 hj) ⟨h2, (oH2 _ hb1).trans n1, hbz, hB1.fr, by omega, by omega, hc, sb_fitC hf sb_fit0⟩)
/-- room for q letters -/
theorem hJ_ensure {b v n m q mc ms : Nat} {ml : Int32} {f : Nat → Int32} {K : hK} (hs : hSB G H b v ml n m f) (hr : sb_Room q m mc ms) (hq : q < 2 ^ 28)
    (hp : ∀ (H1 : Heap) (v' : Nat) (f' : Nat → Int32), H.size ≤ H1.size → (∀ q, q < H.size → q ≠ b → H1[q]? = H[q]?) → (v' = v ∨ H.size ≤ v') → (∀ j, j < m → f' j = f j) → hSB G H1 b v' ml n (sb_cap q m) f' → K none H1) : hCal l G Y_J5_ensureCapacityInternal_d00df mc ms [Value.ref b, Value.int (nI q)] H K := by
  by_cases h : q ≤ m
  · refine hJ_ensure0 hs h ?_
    have e : sb_cap q m = m := by
      unfold sb_cap
      rw [if_pos h]
    refine hp H v f (Nat.le_refl _) (fun _ _ _ => rfl) (Or.inl rfl) (fun _ _ => rfl) ?_
    rw [e]
    exact hs
  · have hr2 := hr.resolve_left h
    exact hJ_ensure1 hs (by omega) hr2.2.2 hr2.1 hr2.2.1 hp
end HJ2
