/-! printed by wip/whole/h_jdk1.py -/
abbrev Y_J0_coder_7d493 : zY := (yJ0_coder_7d493, cJ0_coder_7d493, 1, (some .byte), 2, [])
theorem zw_561 : Cond.fieldLink RJ0 38 "java/lang/String" "COMPACT_STRINGS" "Z" ∈ zAll := zin 561 (by decide +kernel) (by decide +kernel)
theorem zw_694 : Cond.fieldLink RJ0 15 "java/lang/String" "coder" "B" ∈ zAll := zin 694 (by decide +kernel) (by decide +kernel)
theorem zws_J0 : ∀ w ∈ u_ws RJ0 TJ0 4, w ∈ zAll := fun w hw => List.mem_filter.mpr (goodIn_r (big := lw_tbl) _ [695, 697, 699, 701] (by decide +kernel) (by decide +kernel) w hw |>.imp_right (fun _ => List.all_eq_true.mp (show (u_ws RJ0 TJ0 4).all goodWord = true by decide +kernel) w hw))
theorem hfl_J0_J0_15 : hFL RJ0 15 0 1 := ⟨RJ0, TJ0, 4, rfl, by decide, zw_694, zws_J0⟩
abbrev Y_J0_isLatin1_aae02 : zY := (yJ0_isLatin1_aae02, cJ0_isLatin1_aae02, 1, (some .boolean), 2, [])
theorem zw_693 : Cond.fieldLink RJ0 9 "java/lang/String" "value" "[B" ∈ zAll := zin 693 (by decide +kernel) (by decide +kernel)
theorem hfl_J0_J0_9 : hFL RJ0 9 0 0 := ⟨RJ0, TJ0, 4, rfl, by decide, zw_693, zws_J0⟩
theorem zw_557 : Cond.methodLink RJ0 335 yJ0_coder_7d493 ∈ zAll := zin 557 (by decide +kernel) (by decide +kernel)
theorem zw_560 : Cond.code yJ0_coder_7d493 cJ0_coder_7d493 1 (some .byte) ∈ zAll := zin 560 (by decide +kernel) (by decide +kernel)
theorem zw_558 : Cond.instanceMethod yJ0_coder_7d493 ∈ zAll := zin 558 (by decide +kernel) (by decide +kernel)
theorem zw_559 : Cond.selects RJ0 yJ0_coder_7d493 yJ0_coder_7d493 ∈ zAll := zin 559 (by decide +kernel) (by decide +kernel)
theorem hcv_J0_length_8abf5_J0_coder_7d493_335 : zLV Y_J0_length_8abf5 335 Y_J0_coder_7d493 0 RJ0 := ⟨zw_557, zw_558, zw_559, zw_122, zw_560, by decide +kernel, by decide, by decide⟩
abbrev Y_J3_checkIndex_8e157 : zY := (yJ3_checkIndex_8e157, cJ3_checkIndex_8e157, 3, (some .int), 5, [])
abbrev Y_J0_checkIndex_df160 : zY := (yJ0_checkIndex_df160, cJ0_checkIndex_df160, 2, none, 6, [])
theorem zw_576 : Cond.fieldLink RJ0 1053 "jdk/internal/util/Preconditions" "SIOOBE_FORMATTER" "Ljava/util/function/BiFunction;" ∈ zAll := zin 576 (by decide +kernel) (by decide +kernel)
theorem zw_578 : Cond.methodLink RJ0 1059 yJ3_checkIndex_8e157 ∈ zAll := zin 578 (by decide +kernel) (by decide +kernel)
theorem zw_580 : Cond.code yJ3_checkIndex_8e157 cJ3_checkIndex_8e157 3 (some .int) ∈ zAll := zin 580 (by decide +kernel) (by decide +kernel)
theorem zw_579 : Cond.static yJ3_checkIndex_8e157 ∈ zAll := zin 579 (by decide +kernel) (by decide +kernel)
theorem zw_126 : Cond.initialized RJ3 ∈ zAll := zin 126 (by decide +kernel) (by decide +kernel)
theorem hcs_J0_checkIndex_df160_J3_checkIndex_8e157_1059 : zLS Y_J0_checkIndex_df160 1059 Y_J3_checkIndex_8e157 3 := ⟨zw_578, zw_579, zw_126, zw_580, by decide +kernel, by decide, by decide⟩
abbrev Y_J1_charAt_3b067 : zY := (yJ1_charAt_3b067, cJ1_charAt_3b067, 2, (some .char), 7, [])
theorem zw_573 : Cond.methodLink RJ1 9 yJ0_checkIndex_df160 ∈ zAll := zin 573 (by decide +kernel) (by decide +kernel)
theorem zw_575 : Cond.code yJ0_checkIndex_df160 cJ0_checkIndex_df160 2 none ∈ zAll := zin 575 (by decide +kernel) (by decide +kernel)
theorem zw_574 : Cond.static yJ0_checkIndex_df160 ∈ zAll := zin 574 (by decide +kernel) (by decide +kernel)
theorem hcs_J1_charAt_3b067_J0_checkIndex_df160_9 : zLS Y_J1_charAt_3b067 9 Y_J0_checkIndex_df160 2 := ⟨zw_573, zw_574, zw_122, zw_575, by decide +kernel, by decide, by decide⟩
theorem zw_566 : Cond.methodLink RJ0 492 yJ0_isLatin1_aae02 ∈ zAll := zin 566 (by decide +kernel) (by decide +kernel)
theorem zw_569 : Cond.code yJ0_isLatin1_aae02 cJ0_isLatin1_aae02 1 (some .boolean) ∈ zAll := zin 569 (by decide +kernel) (by decide +kernel)
theorem zw_567 : Cond.instanceMethod yJ0_isLatin1_aae02 ∈ zAll := zin 567 (by decide +kernel) (by decide +kernel)
theorem zw_568 : Cond.selects RJ0 yJ0_isLatin1_aae02 yJ0_isLatin1_aae02 ∈ zAll := zin 568 (by decide +kernel) (by decide +kernel)
theorem hcv_J0_charAt_5068e_J0_isLatin1_aae02_492 : zLV Y_J0_charAt_5068e 492 Y_J0_isLatin1_aae02 0 RJ0 := ⟨zw_566, zw_567, zw_568, zw_122, zw_569, by decide +kernel, by decide, by decide⟩
theorem zw_570 : Cond.methodLink RJ0 495 yJ1_charAt_3b067 ∈ zAll := zin 570 (by decide +kernel) (by decide +kernel)
theorem zw_572 : Cond.code yJ1_charAt_3b067 cJ1_charAt_3b067 2 (some .char) ∈ zAll := zin 572 (by decide +kernel) (by decide +kernel)
theorem zw_571 : Cond.static yJ1_charAt_3b067 ∈ zAll := zin 571 (by decide +kernel) (by decide +kernel)
theorem zw_125 : Cond.initialized RJ1 ∈ zAll := zin 125 (by decide +kernel) (by decide +kernel)
theorem hcs_J0_charAt_5068e_J1_charAt_3b067_495 : zLS Y_J0_charAt_5068e 495 Y_J1_charAt_3b067 2 := ⟨zw_570, zw_571, zw_125, zw_572, by decide +kernel, by decide, by decide⟩
theorem dJ0_length_8abf5_0 : decode cJ0_length_8abf5 0 = .ok (.aload_n 0, 1) := by decide +kernel
theorem dJ0_length_8abf5_1 : decode cJ0_length_8abf5 1 = .ok (.getfield 9, 3) := by decide +kernel
theorem dJ0_length_8abf5_4 : decode cJ0_length_8abf5 4 = .ok (.arraylength, 1) := by decide +kernel
theorem dJ0_length_8abf5_5 : decode cJ0_length_8abf5 5 = .ok (.aload_n 0, 1) := by decide +kernel
theorem dJ0_length_8abf5_6 : decode cJ0_length_8abf5 6 = .ok (.invokevirtual 335, 3) := by decide +kernel
theorem dJ0_length_8abf5_9 : decode cJ0_length_8abf5 9 = .ok (.ishr, 1) := by decide +kernel
theorem dJ0_length_8abf5_10 : decode cJ0_length_8abf5 10 = .ok (.ireturn, 1) := by decide +kernel
theorem dJ0_charAt_5068e_0 : decode cJ0_charAt_5068e 0 = .ok (.aload_n 0, 1) := by decide +kernel
theorem dJ0_charAt_5068e_1 : decode cJ0_charAt_5068e 1 = .ok (.invokevirtual 492, 3) := by decide +kernel
theorem dJ0_charAt_5068e_4 : decode cJ0_charAt_5068e 4 = .ok (.ifCond .eq 12, 3) := by decide +kernel
theorem dJ0_charAt_5068e_7 : decode cJ0_charAt_5068e 7 = .ok (.aload_n 0, 1) := by decide +kernel
theorem dJ0_charAt_5068e_8 : decode cJ0_charAt_5068e 8 = .ok (.getfield 9, 3) := by decide +kernel
theorem dJ0_charAt_5068e_11 : decode cJ0_charAt_5068e 11 = .ok (.iload_n 1, 1) := by decide +kernel
theorem dJ0_charAt_5068e_12 : decode cJ0_charAt_5068e 12 = .ok (.invokestatic 495, 3) := by decide +kernel
theorem dJ0_charAt_5068e_15 : decode cJ0_charAt_5068e 15 = .ok (.ireturn, 1) := by decide +kernel
theorem dJ0_charAt_5068e_16 : decode cJ0_charAt_5068e 16 = .ok (.aload_n 0, 1) := by decide +kernel
theorem dJ0_charAt_5068e_17 : decode cJ0_charAt_5068e 17 = .ok (.getfield 9, 3) := by decide +kernel
theorem dJ0_charAt_5068e_20 : decode cJ0_charAt_5068e 20 = .ok (.iload_n 1, 1) := by decide +kernel
theorem dJ0_charAt_5068e_21 : decode cJ0_charAt_5068e 21 = .ok (.invokestatic 498, 3) := by decide +kernel
theorem dJ0_charAt_5068e_24 : decode cJ0_charAt_5068e 24 = .ok (.ireturn, 1) := by decide +kernel
theorem dJ0_coder_7d493_0 : decode cJ0_coder_7d493 0 = .ok (.getstatic 38, 3) := by decide +kernel
theorem dJ0_coder_7d493_3 : decode cJ0_coder_7d493 3 = .ok (.ifCond .eq 10, 3) := by decide +kernel
theorem dJ0_coder_7d493_6 : decode cJ0_coder_7d493 6 = .ok (.aload_n 0, 1) := by decide +kernel
theorem dJ0_coder_7d493_7 : decode cJ0_coder_7d493 7 = .ok (.getfield 15, 3) := by decide +kernel
theorem dJ0_coder_7d493_10 : decode cJ0_coder_7d493 10 = .ok (.goto 4, 3) := by decide +kernel
theorem dJ0_coder_7d493_13 : decode cJ0_coder_7d493 13 = .ok (.iconst 1, 1) := by decide +kernel
theorem dJ0_coder_7d493_14 : decode cJ0_coder_7d493 14 = .ok (.ireturn, 1) := by decide +kernel
theorem dJ0_isLatin1_aae02_0 : decode cJ0_isLatin1_aae02 0 = .ok (.getstatic 38, 3) := by decide +kernel
theorem dJ0_isLatin1_aae02_3 : decode cJ0_isLatin1_aae02 3 = .ok (.ifCond .eq 14, 3) := by decide +kernel
theorem dJ0_isLatin1_aae02_6 : decode cJ0_isLatin1_aae02 6 = .ok (.aload_n 0, 1) := by decide +kernel
theorem dJ0_isLatin1_aae02_7 : decode cJ0_isLatin1_aae02 7 = .ok (.getfield 15, 3) := by decide +kernel
theorem dJ0_isLatin1_aae02_10 : decode cJ0_isLatin1_aae02 10 = .ok (.ifCond .ne 7, 3) := by decide +kernel
theorem dJ0_isLatin1_aae02_13 : decode cJ0_isLatin1_aae02 13 = .ok (.iconst 1, 1) := by decide +kernel
theorem dJ0_isLatin1_aae02_14 : decode cJ0_isLatin1_aae02 14 = .ok (.goto 4, 3) := by decide +kernel
theorem dJ0_isLatin1_aae02_17 : decode cJ0_isLatin1_aae02 17 = .ok (.iconst 0, 1) := by decide +kernel
theorem dJ0_isLatin1_aae02_18 : decode cJ0_isLatin1_aae02 18 = .ok (.ireturn, 1) := by decide +kernel
theorem dJ0_checkIndex_df160_0 : decode cJ0_checkIndex_df160 0 = .ok (.iload_n 0, 1) := by decide +kernel
theorem dJ0_checkIndex_df160_1 : decode cJ0_checkIndex_df160 1 = .ok (.iload_n 1, 1) := by decide +kernel
theorem dJ0_checkIndex_df160_2 : decode cJ0_checkIndex_df160 2 = .ok (.getstatic 1053, 3) := by decide +kernel
theorem dJ0_checkIndex_df160_5 : decode cJ0_checkIndex_df160 5 = .ok (.invokestatic 1059, 3) := by decide +kernel
theorem dJ0_checkIndex_df160_8 : decode cJ0_checkIndex_df160 8 = .ok (.pop, 1) := by decide +kernel
theorem dJ0_checkIndex_df160_9 : decode cJ0_checkIndex_df160 9 = .ok (.return_, 1) := by decide +kernel
theorem dJ1_charAt_3b067_0 : decode cJ1_charAt_3b067 0 = .ok (.iload_n 1, 1) := by decide +kernel
theorem dJ1_charAt_3b067_1 : decode cJ1_charAt_3b067 1 = .ok (.aload_n 0, 1) := by decide +kernel
theorem dJ1_charAt_3b067_2 : decode cJ1_charAt_3b067 2 = .ok (.arraylength, 1) := by decide +kernel
theorem dJ1_charAt_3b067_3 : decode cJ1_charAt_3b067 3 = .ok (.invokestatic 9, 3) := by decide +kernel
theorem dJ1_charAt_3b067_6 : decode cJ1_charAt_3b067 6 = .ok (.aload_n 0, 1) := by decide +kernel
theorem dJ1_charAt_3b067_7 : decode cJ1_charAt_3b067 7 = .ok (.iload_n 1, 1) := by decide +kernel
theorem dJ1_charAt_3b067_8 : decode cJ1_charAt_3b067 8 = .ok (.baload, 1) := by decide +kernel
theorem dJ1_charAt_3b067_9 : decode cJ1_charAt_3b067 9 = .ok (.sipush 255, 3) := by decide +kernel
theorem dJ1_charAt_3b067_12 : decode cJ1_charAt_3b067 12 = .ok (.iand, 1) := by decide +kernel
theorem dJ1_charAt_3b067_13 : decode cJ1_charAt_3b067 13 = .ok (.i2c, 1) := by decide +kernel
theorem dJ1_charAt_3b067_14 : decode cJ1_charAt_3b067 14 = .ok (.ireturn, 1) := by decide +kernel
theorem dJ3_checkIndex_8e157_0 : decode cJ3_checkIndex_8e157 0 = .ok (.iload_n 0, 1) := by decide +kernel
theorem dJ3_checkIndex_8e157_1 : decode cJ3_checkIndex_8e157 1 = .ok (.ifCond .lt 8, 3) := by decide +kernel
theorem dJ3_checkIndex_8e157_4 : decode cJ3_checkIndex_8e157 4 = .ok (.iload_n 0, 1) := by decide +kernel
theorem dJ3_checkIndex_8e157_5 : decode cJ3_checkIndex_8e157 5 = .ok (.iload_n 1, 1) := by decide +kernel
theorem dJ3_checkIndex_8e157_6 : decode cJ3_checkIndex_8e157 6 = .ok (.if_icmp .lt 10, 3) := by decide +kernel
theorem dJ3_checkIndex_8e157_9 : decode cJ3_checkIndex_8e157 9 = .ok (.aload_n 2, 1) := by decide +kernel
theorem dJ3_checkIndex_8e157_10 : decode cJ3_checkIndex_8e157 10 = .ok (.iload_n 0, 1) := by decide +kernel
theorem dJ3_checkIndex_8e157_11 : decode cJ3_checkIndex_8e157 11 = .ok (.iload_n 1, 1) := by decide +kernel
theorem dJ3_checkIndex_8e157_12 : decode cJ3_checkIndex_8e157 12 = .ok (.invokestatic 95, 3) := by decide +kernel
theorem dJ3_checkIndex_8e157_15 : decode cJ3_checkIndex_8e157 15 = .ok (.athrow, 1) := by decide +kernel
theorem dJ3_checkIndex_8e157_16 : decode cJ3_checkIndex_8e157 16 = .ok (.iload_n 0, 1) := by decide +kernel
theorem dJ3_checkIndex_8e157_17 : decode cJ3_checkIndex_8e157 17 = .ok (.ireturn, 1) := by decide +kernel
theorem H_getsN {l : Launch} {G : zG} {Y : zY} {E : zE} {pc : Nat} {lv : List (Nat × Value)} {st : List Value} {H : Heap} {c k : Nat} {own : String} {idx : Nat} (hw : Cond.fieldLink (zyO Y) idx "jdk/internal/util/Preconditions" "SIOOBE_FORMATTER" "Ljava/util/function/BiFunction;" ∈ zAll) (d : decode (zyC Y) pc = .ok (.getstatic idx, 3)) (h : ∀ u : Value, u.category = 1 → hAt l G Y E (pc + 3) lv (u :: st) H c k) : hAt l G Y E pc lv st H c k := by
  intro p e s m args below meth cd locs ls C hN hR hlo hl
  have g : ∃ u : Value, u.category = 1 ∧ zZ G "jdk/internal/util/Preconditions" "SIOOBE_FORMATTER" "Ljava/util/function/BiFunction;" u s := by
    rcases C.2.2.2.2.2.2.2.1.2.2.2.2.2.2.1 with h1 | ⟨t, h1⟩
    · exact ⟨.null, rfl, h1⟩
    · exact ⟨.ref t, rfl, h1⟩
  obtain ⟨u, hu, cf, kf, fi, f, a, cell, h1, h2, h3, h4, h5, h6, h7, h8⟩ := g
  exact W.gets C.1 C.2.1 C.2.2.2.2.1 (C.2.2.2.2.2.1 _ hw) h1 h2 h3 h4 ((hR.1 a h8).trans h5) (fun e => by rw [e] at h6; cases h6) h7 rfl d (h u hu p e s m args below meth cd locs ls C hN hR hlo hl)
section HJ1
variable {l : Launch} {G : zG} {H : Heap}
theorem hJ_coder {a v : Nat} {K : hK} (hs : hStr G H a v) (hp : K (some (.int 0)) H) : hCal l G Y_J0_coder_7d493 0 0 [Value.ref a] H K := by
  refine hCal_of (by decide) rfl (zle rfl) rfl ?_
  have hE : ∀ {mc ms : Nat} {K : hK}, zRm Y_J0_coder_7d493 (hEM G Y_J0_coder_7d493 mc ms K).1 := zRm_M
  refine H_gets (own := RJ0) zw_561 (fun U h => h.1) dJ0_coder_7d493_0 ?_
  refine H_if_eq (tgt := 13) dJ0_coder_7d493_3 rfl (fun q9 => absurd q9 (by decide)) (fun _ => ?_)
  refine H_aload_n dJ0_coder_7d493_6 rfl 0 rfl ?_
  refine H_get (v := Value.int 0) hfl_J0_J0_15 hs.2.1 dJ0_coder_7d493_7 ?_
  refine H_goto (tgt := 14) dJ0_coder_7d493_10 rfl ?_
  exact H_iret rfl rfl dJ0_coder_7d493_14 (by omega) (by omega) hp
theorem hJ_isLatin1 {a v : Nat} {K : hK} (hs : hStr G H a v) (hp : K (some (.int 1)) H) : hCal l G Y_J0_isLatin1_aae02 0 0 [Value.ref a] H K := by
  refine hCal_of (by decide) rfl (zle rfl) rfl ?_
  have hE : ∀ {mc ms : Nat} {K : hK}, zRm Y_J0_isLatin1_aae02 (hEM G Y_J0_isLatin1_aae02 mc ms K).1 := zRm_M
  refine H_gets (own := RJ0) zw_561 (fun U h => h.1) dJ0_isLatin1_aae02_0 ?_
  refine H_if_eq (tgt := 17) dJ0_isLatin1_aae02_3 rfl (fun q9 => absurd q9 (by decide)) (fun _ => ?_)
  refine H_aload_n dJ0_isLatin1_aae02_6 rfl 0 rfl ?_
  refine H_get (v := Value.int 0) hfl_J0_J0_15 hs.2.1 dJ0_isLatin1_aae02_7 ?_
  refine H_if_ne (tgt := 17) dJ0_isLatin1_aae02_10 rfl (fun q9 => absurd q9 (by decide)) (fun _ => ?_)
  refine H_iconst (v := 1) rfl dJ0_isLatin1_aae02_13 ?_
  refine H_goto (tgt := 18) dJ0_isLatin1_aae02_14 rfl ?_
  exact H_iret rfl rfl dJ0_isLatin1_aae02_18 (by omega) (by omega) hp
theorem hJ_length {a v n : Nat} {f : Nat → Int32} {K : hK} (hs : hStr G H a v) (hb : hB G H v n f) (hp : K (some (.int (nI n))) H) : hCal l G Y_J0_length_8abf5 0 0 [Value.ref a] H K := by
  refine hCal_of (by decide) rfl (zle rfl) rfl ?_
  have hE : ∀ {mc ms : Nat} {K : hK}, zRm Y_J0_length_8abf5 (hEM G Y_J0_length_8abf5 mc ms K).1 := zRm_M
  refine H_aload_n dJ0_length_8abf5_0 rfl 0 rfl ?_
  refine H_get (v := Value.ref v) hfl_J0_J0_9 hs.1 dJ0_length_8abf5_1 ?_
  refine H_alenB hb dJ0_length_8abf5_4 ?_
  refine H_aload_n dJ0_length_8abf5_5 rfl 0 rfl ?_
  refine H_callV (as := []) (st := [Value.int (nI n)]) (mc' := 0) (ms' := 0) hE hcv_J0_length_8abf5_J0_coder_7d493_335 rfl hs.2.2 rfl rfl (zle rfl) dJ0_length_8abf5_6 ⟨by omega, by omega⟩ (hJ_coder (K := fun r H1 => r = some (.int 0) ∧ H = H1) hs ⟨rfl, rfl⟩) (fun r1 H1 q1 => ?_)
  obtain ⟨rfl, rfl⟩ := q1
  refine H_ishr dJ0_length_8abf5_9 ?_
  have e : (nI n) >>> ((0 : Int32) &&& 31) = nI n := sb_shr0 _
  rw [e]
  exact H_iret rfl rfl dJ0_length_8abf5_10 (by omega) (by omega) hp
theorem hJ_checkIndex3 {x y : Int32} {u : Value} {K : hK} (hu : u.category = 1) (h0 : ¬ x < 0) (h1 : x < y) (hp : K (some (.int x)) H) : hCal l G Y_J3_checkIndex_8e157 0 0 [Value.int x, Value.int y, u] H K := by
  have hlv : lv_args 0 [Value.int x, Value.int y, u] = [(0, Value.int x), (1, Value.int y), (2, u)] := by
    simp [lv_args, Value.category]
  have hlen : (lg_sl [Value.int x, Value.int y, u]).length ≤ 3 := by
    cases u <;> simp_all [lg_sl, Value.category]
  refine hCal_of (by decide) rfl hlen hlv ?_
  refine H_iload_n dJ3_checkIndex_8e157_0 rfl 0 rfl ?_
  refine H_if_lt (tgt := 9) dJ3_checkIndex_8e157_1 rfl (fun q9 => absurd q9 h0) (fun _ => ?_)
  refine H_iload_n dJ3_checkIndex_8e157_4 rfl 0 rfl ?_
  refine H_iload_n dJ3_checkIndex_8e157_5 rfl 1 rfl ?_
  refine H_icmp_lt (tgt := 16) dJ3_checkIndex_8e157_6 rfl (fun _ => ?_) (fun q9 => absurd h1 q9)
  refine H_iload_n dJ3_checkIndex_8e157_16 rfl 0 rfl ?_
  exact H_iret rfl rfl dJ3_checkIndex_8e157_17 (by omega) (by omega) hp
theorem hJ_checkIndex {x y : Int32} {K : hK} (h0 : ¬ x < 0) (h1 : x < y) (hp : K none H) : hCal l G Y_J0_checkIndex_df160 0 0 [Value.int x, Value.int y] H K := by
  refine hCal_of (by decide) rfl (zle rfl) rfl ?_
  have hE : ∀ {mc ms : Nat} {K : hK}, zRm Y_J0_checkIndex_df160 (hEM G Y_J0_checkIndex_df160 mc ms K).1 := zRm_M
  refine H_iload_n dJ0_checkIndex_df160_0 rfl 0 rfl ?_
  refine H_iload_n dJ0_checkIndex_df160_1 rfl 1 rfl ?_
  refine H_st (fun ⟨U0, hT, _⟩ => ?_)
  refine H_getsN (own := RJ0) zw_576 dJ0_checkIndex_df160_2 (fun u hu => ?_)
  refine H_callS (as := [Value.int x, Value.int y, u]) (st := []) (mc' := 0) (ms' := 0) hE hcs_J0_checkIndex_df160_J3_checkIndex_8e157_1059 rfl rfl (by decide) dJ0_checkIndex_df160_5 ⟨by omega, by omega⟩ (hJ_checkIndex3 (K := fun r H1 => r = some (.int x) ∧ H = H1) hu h0 h1 ⟨rfl, rfl⟩) (fun r1 H1 q1 => ?_)
  obtain ⟨rfl, rfl⟩ := q1
  refine H_pop rfl dJ0_checkIndex_df160_8 ?_
  exact H_vret rfl dJ0_checkIndex_df160_9 (by omega) (by omega) hp
theorem hJ_charAt1 {v n : Nat} {f : Nat → Int32} {x : Int32} {K : hK} (hb : hB G H v n f) (h0 : ¬ x < 0) (h1 : x < nI n) (hin : vp_in x n) (hn : narrow .char (.int ((f x.toNatClampNeg &&& 255).toUInt32 % 65536).toInt32) = .int ((f x.toNatClampNeg &&& 255).toUInt32 % 65536).toInt32) (hp : K (some (.int ((f x.toNatClampNeg &&& 255).toUInt32 % 65536).toInt32)) H) : hCal l G Y_J1_charAt_3b067 0 0 [Value.ref v, Value.int x] H K := by
  refine hCal_of (by decide) rfl (zle rfl) rfl ?_
  have hE : ∀ {mc ms : Nat} {K : hK}, zRm Y_J1_charAt_3b067 (hEM G Y_J1_charAt_3b067 mc ms K).1 := zRm_M
  refine H_iload_n dJ1_charAt_3b067_0 rfl 1 rfl ?_
  refine H_aload_n dJ1_charAt_3b067_1 rfl 0 rfl ?_
  refine H_alenB hb dJ1_charAt_3b067_2 ?_
  refine H_callS (as := [Value.int x, Value.int (nI n)]) (st := []) (mc' := 0) (ms' := 0) hE hcs_J1_charAt_3b067_J0_checkIndex_df160_9 rfl rfl (zle rfl) dJ1_charAt_3b067_3 ⟨by omega, by omega⟩ (hJ_checkIndex (K := fun r H1 => r = none ∧ H = H1) h0 h1 ⟨rfl, rfl⟩) (fun r1 H1 q1 => ?_)
  obtain ⟨rfl, rfl⟩ := q1
  refine H_aload_n dJ1_charAt_3b067_6 rfl 0 rfl ?_
  refine H_iload_n dJ1_charAt_3b067_7 rfl 1 rfl ?_
  refine H_bald hb hin dJ1_charAt_3b067_8 ?_
  refine H_sipush (v := 255) rfl dJ1_charAt_3b067_9 ?_
  refine H_iand dJ1_charAt_3b067_12 ?_
  refine H_i2c dJ1_charAt_3b067_13 ?_
  exact H_iret rfl hn dJ1_charAt_3b067_14 (by omega) (by omega) hp
theorem hJ_charAt {a v n : Nat} {f : Nat → Int32} {x : Int32} {K : hK} (hs : hStr G H a v) (hb : hB G H v n f) (h0 : ¬ x < 0) (h1 : x < nI n) (hin : vp_in x n) (hn : narrow .char (.int ((f x.toNatClampNeg &&& 255).toUInt32 % 65536).toInt32) = .int ((f x.toNatClampNeg &&& 255).toUInt32 % 65536).toInt32) (hp : K (some (.int ((f x.toNatClampNeg &&& 255).toUInt32 % 65536).toInt32)) H) : hCal l G Y_J0_charAt_5068e 0 0 [Value.ref a, Value.int x] H K := by
  refine hCal_of (by decide) rfl (zle rfl) rfl ?_
  have hE : ∀ {mc ms : Nat} {K : hK}, zRm Y_J0_charAt_5068e (hEM G Y_J0_charAt_5068e mc ms K).1 := zRm_M
  refine H_aload_n dJ0_charAt_5068e_0 rfl 0 rfl ?_
  refine H_callV (as := []) (st := []) (mc' := 0) (ms' := 0) hE hcv_J0_charAt_5068e_J0_isLatin1_aae02_492 rfl hs.2.2 rfl rfl (zle rfl) dJ0_charAt_5068e_1 ⟨by omega, by omega⟩ (hJ_isLatin1 (K := fun r H1 => r = some (.int 1) ∧ H = H1) hs ⟨rfl, rfl⟩) (fun r1 H1 q1 => ?_)
  obtain ⟨rfl, rfl⟩ := q1
  refine H_if_eq (tgt := 16) dJ0_charAt_5068e_4 rfl (fun q9 => absurd q9 (by decide)) (fun _ => ?_)
  refine H_aload_n dJ0_charAt_5068e_7 rfl 0 rfl ?_
  refine H_get (v := Value.ref v) hfl_J0_J0_9 hs.1 dJ0_charAt_5068e_8 ?_
  refine H_iload_n dJ0_charAt_5068e_11 rfl 1 rfl ?_
  refine H_callS (as := [Value.ref v, Value.int x]) (st := []) (mc' := 0) (ms' := 0) hE hcs_J0_charAt_5068e_J1_charAt_3b067_495 rfl rfl (zle rfl) dJ0_charAt_5068e_12 ⟨by omega, by omega⟩ (hJ_charAt1 (K := fun r H1 => r = some (.int ((f x.toNatClampNeg &&& 255).toUInt32 % 65536).toInt32) ∧ H = H1) hb h0 h1 hin hn ⟨rfl, rfl⟩) (fun r1 H1 q1 => ?_)
  obtain ⟨rfl, rfl⟩ := q1
  exact H_iret rfl hn dJ0_charAt_5068e_15 (by omega) (by omega) hp
end HJ1
