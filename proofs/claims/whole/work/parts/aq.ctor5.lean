/-! printed by wip/whole/h_ctor4.py: the reference's constructor -/
theorem hfl_X9_X9_9 : hFL RX9 9 13 0 := ⟨RX9, TX9, 30, rfl, by decide, zw_1594, zws_X9⟩
abbrev Y_X9_init : zY := (yX9_init, cX9_init, 1, none, 4, [])
theorem zw_1589 : Cond.methodLink RX9 1 objectInit ∈ zAll := zin 1589 (by decide +kernel) (by decide +kernel)
theorem hfp_X9_X9_9 : hFP RX9 9 13 0 true (.array .int) := ⟨RX9, TX9, 30, tyX9, ⟨rfl, by decide, zw_1594, zws_X9⟩, tyX9_ok, nmX9, rfl, by decide +kernel, fun _ => rfl⟩
theorem hfp_X9_X9_13 : hFP RX9 13 13 1 true (.array .int) := ⟨RX9, TX9, 30, tyX9, ⟨rfl, by decide, zw_1595, zws_X9⟩, tyX9_ok, nmX9, rfl, by decide +kernel, fun _ => rfl⟩
theorem hfp_X9_X9_16 : hFP RX9 16 13 2 true (.array .int) := ⟨RX9, TX9, 30, tyX9, ⟨rfl, by decide, zw_1596, zws_X9⟩, tyX9_ok, nmX9, rfl, by decide +kernel, fun _ => rfl⟩
theorem hfp_X9_X9_19 : hFP RX9 19 13 3 true (.array .int) := ⟨RX9, TX9, 30, tyX9, ⟨rfl, by decide, zw_1597, zws_X9⟩, tyX9_ok, nmX9, rfl, by decide +kernel, fun _ => rfl⟩
theorem hfp_X9_X9_22 : hFP RX9 22 13 4 true (.array .int) := ⟨RX9, TX9, 30, tyX9, ⟨rfl, by decide, zw_1598, zws_X9⟩, tyX9_ok, nmX9, rfl, by decide +kernel, fun _ => rfl⟩
theorem hfp_X9_X9_25 : hFP RX9 25 13 5 true (.array .boolean) := ⟨RX9, TX9, 30, tyX9, ⟨rfl, by decide, zw_1599, zws_X9⟩, tyX9_ok, nmX9, rfl, by decide +kernel, fun _ => rfl⟩
theorem hfp_X9_X9_29 : hFP RX9 29 13 9 true (.array .int) := ⟨RX9, TX9, 30, tyX9, ⟨rfl, by decide, zw_1603, zws_X9⟩, tyX9_ok, nmX9, rfl, by decide +kernel, fun _ => rfl⟩
theorem hfp_X9_X9_32 : hFP RX9 32 13 17 false .int := ⟨RX9, TX9, 30, tyX9, ⟨rfl, by decide, zw_1611, zws_X9⟩, tyX9_ok, nmX9, rfl, by decide +kernel, (fun h => by cases h)⟩
theorem hfp_X9_X9_36 : hFP RX9 36 13 19 true (.array .int) := ⟨RX9, TX9, 30, tyX9, ⟨rfl, by decide, zw_1613, zws_X9⟩, tyX9_ok, nmX9, rfl, by decide +kernel, fun _ => rfl⟩
theorem hfp_X9_X9_39 : hFP RX9 39 13 20 true (.array .int) := ⟨RX9, TX9, 30, tyX9, ⟨rfl, by decide, zw_1614, zws_X9⟩, tyX9_ok, nmX9, rfl, by decide +kernel, fun _ => rfl⟩
theorem hfp_X9_X9_42 : hFP RX9 42 13 21 true (.array .int) := ⟨RX9, TX9, 30, tyX9, ⟨rfl, by decide, zw_1615, zws_X9⟩, tyX9_ok, nmX9, rfl, by decide +kernel, fun _ => rfl⟩
theorem hfp_X9_X9_45 : hFP RX9 45 13 22 true (.array .int) := ⟨RX9, TX9, 30, tyX9, ⟨rfl, by decide, zw_1616, zws_X9⟩, tyX9_ok, nmX9, rfl, by decide +kernel, fun _ => rfl⟩
theorem hfp_X9_X9_48 : hFP RX9 48 13 23 true (.array .int) := ⟨RX9, TX9, 30, tyX9, ⟨rfl, by decide, zw_1617, zws_X9⟩, tyX9_ok, nmX9, rfl, by decide +kernel, fun _ => rfl⟩
theorem hfp_X9_X9_51 : hFP RX9 51 13 24 true (.array .int) := ⟨RX9, TX9, 30, tyX9, ⟨rfl, by decide, zw_1618, zws_X9⟩, tyX9_ok, nmX9, rfl, by decide +kernel, fun _ => rfl⟩
theorem hfp_X9_X9_54 : hFP RX9 54 13 28 true (.array .int) := ⟨RX9, TX9, 30, tyX9, ⟨rfl, by decide, zw_1622, zws_X9⟩, tyX9_ok, nmX9, rfl, by decide +kernel, fun _ => rfl⟩
theorem hcv_X9_init_X9_begins_57 : zLV Y_X9_init 57 Y_X9_begins 0 RX9 := ⟨zw_1590, zw_1592, zw_26, zw_124, zw_1593, by decide +kernel, by decide, by decide⟩
theorem dX9_init_0 : decode cX9_init 0 = .ok (.aload_n 0, 1) := by decide +kernel
theorem dX9_init_1 : decode cX9_init 1 = .ok (.invokespecial 1, 3) := by decide +kernel
theorem dX9_init_4 : decode cX9_init 4 = .ok (.aload_n 0, 1) := by decide +kernel
theorem dX9_init_5 : decode cX9_init 5 = .ok (.sipush 484, 3) := by decide +kernel
theorem dX9_init_8 : decode cX9_init 8 = .ok (.newarray .int, 2) := by decide +kernel
theorem dX9_init_10 : decode cX9_init 10 = .ok (.putfield 9, 3) := by decide +kernel
theorem dX9_init_13 : decode cX9_init 13 = .ok (.aload_n 0, 1) := by decide +kernel
theorem dX9_init_14 : decode cX9_init 14 = .ok (.sipush 484, 3) := by decide +kernel
theorem dX9_init_17 : decode cX9_init 17 = .ok (.newarray .int, 2) := by decide +kernel
theorem dX9_init_19 : decode cX9_init 19 = .ok (.putfield 13, 3) := by decide +kernel
theorem dX9_init_22 : decode cX9_init 22 = .ok (.aload_n 0, 1) := by decide +kernel
theorem dX9_init_23 : decode cX9_init 23 = .ok (.sipush 484, 3) := by decide +kernel
theorem dX9_init_26 : decode cX9_init 26 = .ok (.newarray .int, 2) := by decide +kernel
theorem dX9_init_28 : decode cX9_init 28 = .ok (.putfield 16, 3) := by decide +kernel
theorem dX9_init_31 : decode cX9_init 31 = .ok (.aload_n 0, 1) := by decide +kernel
theorem dX9_init_32 : decode cX9_init 32 = .ok (.sipush 3872, 3) := by decide +kernel
theorem dX9_init_35 : decode cX9_init 35 = .ok (.newarray .int, 2) := by decide +kernel
theorem dX9_init_37 : decode cX9_init 37 = .ok (.putfield 19, 3) := by decide +kernel
theorem dX9_init_40 : decode cX9_init 40 = .ok (.aload_n 0, 1) := by decide +kernel
theorem dX9_init_41 : decode cX9_init 41 = .ok (.sipush 968, 3) := by decide +kernel
theorem dX9_init_44 : decode cX9_init 44 = .ok (.newarray .int, 2) := by decide +kernel
theorem dX9_init_46 : decode cX9_init 46 = .ok (.putfield 22, 3) := by decide +kernel
theorem dX9_init_49 : decode cX9_init 49 = .ok (.aload_n 0, 1) := by decide +kernel
theorem dX9_init_50 : decode cX9_init 50 = .ok (.iconst 2, 1) := by decide +kernel
theorem dX9_init_51 : decode cX9_init 51 = .ok (.newarray .boolean, 2) := by decide +kernel
theorem dX9_init_53 : decode cX9_init 53 = .ok (.putfield 25, 3) := by decide +kernel
theorem dX9_init_56 : decode cX9_init 56 = .ok (.aload_n 0, 1) := by decide +kernel
theorem dX9_init_57 : decode cX9_init 57 = .ok (.sipush 500, 3) := by decide +kernel
theorem dX9_init_60 : decode cX9_init 60 = .ok (.newarray .int, 2) := by decide +kernel
theorem dX9_init_62 : decode cX9_init 62 = .ok (.putfield 29, 3) := by decide +kernel
theorem dX9_init_65 : decode cX9_init 65 = .ok (.aload_n 0, 1) := by decide +kernel
theorem dX9_init_66 : decode cX9_init 66 = .ok (.iconst (-1), 1) := by decide +kernel
theorem dX9_init_67 : decode cX9_init 67 = .ok (.putfield 32, 3) := by decide +kernel
theorem dX9_init_70 : decode cX9_init 70 = .ok (.aload_n 0, 1) := by decide +kernel
theorem dX9_init_71 : decode cX9_init 71 = .ok (.bipush 64, 2) := by decide +kernel
theorem dX9_init_73 : decode cX9_init 73 = .ok (.newarray .int, 2) := by decide +kernel
theorem dX9_init_75 : decode cX9_init 75 = .ok (.putfield 36, 3) := by decide +kernel
theorem dX9_init_78 : decode cX9_init 78 = .ok (.aload_n 0, 1) := by decide +kernel
theorem dX9_init_79 : decode cX9_init 79 = .ok (.bipush 64, 2) := by decide +kernel
theorem dX9_init_81 : decode cX9_init 81 = .ok (.newarray .int, 2) := by decide +kernel
theorem dX9_init_83 : decode cX9_init 83 = .ok (.putfield 39, 3) := by decide +kernel
theorem dX9_init_86 : decode cX9_init 86 = .ok (.aload_n 0, 1) := by decide +kernel
theorem dX9_init_87 : decode cX9_init 87 = .ok (.bipush 64, 2) := by decide +kernel
theorem dX9_init_89 : decode cX9_init 89 = .ok (.newarray .int, 2) := by decide +kernel
theorem dX9_init_91 : decode cX9_init 91 = .ok (.putfield 42, 3) := by decide +kernel
theorem dX9_init_94 : decode cX9_init 94 = .ok (.aload_n 0, 1) := by decide +kernel
theorem dX9_init_95 : decode cX9_init 95 = .ok (.bipush 64, 2) := by decide +kernel
theorem dX9_init_97 : decode cX9_init 97 = .ok (.newarray .int, 2) := by decide +kernel
theorem dX9_init_99 : decode cX9_init 99 = .ok (.putfield 45, 3) := by decide +kernel
theorem dX9_init_102 : decode cX9_init 102 = .ok (.aload_n 0, 1) := by decide +kernel
theorem dX9_init_103 : decode cX9_init 103 = .ok (.iconst 2, 1) := by decide +kernel
theorem dX9_init_104 : decode cX9_init 104 = .ok (.newarray .int, 2) := by decide +kernel
theorem dX9_init_106 : decode cX9_init 106 = .ok (.putfield 48, 3) := by decide +kernel
theorem dX9_init_109 : decode cX9_init 109 = .ok (.aload_n 0, 1) := by decide +kernel
theorem dX9_init_110 : decode cX9_init 110 = .ok (.iconst 2, 1) := by decide +kernel
theorem dX9_init_111 : decode cX9_init 111 = .ok (.newarray .int, 2) := by decide +kernel
theorem dX9_init_113 : decode cX9_init 113 = .ok (.putfield 51, 3) := by decide +kernel
theorem dX9_init_116 : decode cX9_init 116 = .ok (.aload_n 0, 1) := by decide +kernel
theorem dX9_init_117 : decode cX9_init 117 = .ok (.sipush 400, 3) := by decide +kernel
theorem dX9_init_120 : decode cX9_init 120 = .ok (.newarray .int, 2) := by decide +kernel
theorem dX9_init_122 : decode cX9_init 122 = .ok (.putfield 54, 3) := by decide +kernel
theorem dX9_init_125 : decode cX9_init 125 = .ok (.aload_n 0, 1) := by decide +kernel
theorem dX9_init_126 : decode cX9_init 126 = .ok (.invokevirtual 57, 3) := by decide +kernel
theorem dX9_init_129 : decode cX9_init 129 = .ok (.aload_n 0, 1) := by decide +kernel
theorem dX9_init_130 : decode cX9_init 130 = .ok (.getfield 9, 3) := by decide +kernel
theorem dX9_init_133 : decode cX9_init 133 = .ok (.iconst 0, 1) := by decide +kernel
theorem dX9_init_134 : decode cX9_init 134 = .ok (.bipush 20, 2) := by decide +kernel
theorem dX9_init_136 : decode cX9_init 136 = .ok (.iastore, 1) := by decide +kernel
theorem dX9_init_137 : decode cX9_init 137 = .ok (.aload_n 0, 1) := by decide +kernel
theorem dX9_init_138 : decode cX9_init 138 = .ok (.getfield 9, 3) := by decide +kernel
theorem dX9_init_141 : decode cX9_init 141 = .ok (.iconst 1, 1) := by decide +kernel
theorem dX9_init_142 : decode cX9_init 142 = .ok (.iconst 1, 1) := by decide +kernel
theorem dX9_init_143 : decode cX9_init 143 = .ok (.iastore, 1) := by decide +kernel
theorem dX9_init_144 : decode cX9_init 144 = .ok (.return_, 1) := by decide +kernel
section HCT5
variable {l : Launch} {G : zG} {H : Heap}
theorem lp_X9 {a r0 r1 r2 r3 r4 r5 r9 r19 r20 r21 r22 r23 r24 r28 : Nat} (hrz : zfr G r0) (hne : a ≠ r0) :
    ∀ d j : Nat, j + d = 484 → ∀ (y : Int32) (Hb : Heap) (f : Nat → Int32), y.toInt = (j : Int) → Hb.size = H.size → (∀ q, q ≠ r0 → Hb[q]? = H[q]?) → hO G Hb a 13 (vp_V [Value.ref r0, Value.ref r1, Value.ref r2, Value.ref r3, Value.ref r4, Value.ref r5, Value.int 0, Value.int 0, Value.int 0, Value.ref r9, Value.int 0, Value.int 0, Value.int 0, Value.int 0, Value.int 0, Value.int 0, Value.int 0, Value.int (-1), Value.int 0, Value.ref r19, Value.ref r20, Value.ref r21, Value.ref r22, Value.ref r23, Value.ref r24, Value.int 0, Value.int 0, Value.int 0, Value.ref r28, Value.int 0]) → hA G Hb r0 0 484 (.inl f) → (∀ k, k < j → f k = 0) →
      hAt l G Y_X9_begins (hEM G Y_X9_begins 0 0 (fun r H1 => r = none ∧ H1.size = H.size ∧ (∀ q, q ≠ r0 → H1[q]? = H[q]?) ∧ ∃ g : Nat → Int32, hA G H1 r0 0 484 (.inl g) ∧ ∀ k, k < 484 → g k = wB0 k)) 2 [(1, Value.int y), (0, Value.ref a)] [] Hb 0 0 := by
  intro d
  induction d with
  | zero =>
    intro j hj y Hb f hy hs old ob arr hf
    refine H_iload_n dX9_begins_2 rfl 0 rfl ?_
    refine H_sipush (v := 484) rfl dX9_begins_3 ?_
    refine H_icmp_ge (tgt := 22) dX9_begins_6 rfl (fun _ => ?_) (fun q9 => absurd (by rw [ti_le, hy, show (484 : Int32).toInt = 484 from rfl]; omega) q9)
    refine H_aload_n dX9_begins_22 rfl 1 rfl ?_
    refine H_getV hfl_X9_X9_9 ob rfl dX9_begins_23 ?_
    refine H_iconst (v := 2) rfl dX9_begins_26 ?_
    refine H_iconst (v := 5) rfl dX9_begins_27 ?_
    refine H_iast arr (ti_in (by decide)) hrz dX9_begins_28 (fun H1 z1 o1 arrN => ?_)
    replace arr := arrN; clear arrN
    replace ob := ob.kept (o1 a hne)
    refine H_aload_n dX9_begins_29 rfl 1 rfl ?_
    refine H_getV hfl_X9_X9_9 ob rfl dX9_begins_30 ?_
    refine H_iconst (v := 3) rfl dX9_begins_33 ?_
    refine H_bipush (v := 15) rfl dX9_begins_34 ?_
    refine H_iast arr (ti_in (by decide)) hrz dX9_begins_36 (fun H2 z2 o2 arrN => ?_)
    replace arr := arrN; clear arrN
    replace ob := ob.kept (o2 a hne)
    refine H_aload_n dX9_begins_37 rfl 1 rfl ?_
    refine H_getV hfl_X9_X9_9 ob rfl dX9_begins_38 ?_
    refine H_iconst (v := 4) rfl dX9_begins_41 ?_
    refine H_sipush (v := 6554) rfl dX9_begins_42 ?_
    refine H_iast arr (ti_in (by decide)) hrz dX9_begins_45 (fun H3 z3 o3 arrN => ?_)
    replace arr := arrN; clear arrN
    replace ob := ob.kept (o3 a hne)
    refine H_aload_n dX9_begins_46 rfl 1 rfl ?_
    refine H_getV hfl_X9_X9_9 ob rfl dX9_begins_47 ?_
    refine H_iconst (v := 5) rfl dX9_begins_50 ?_
    refine H_iconst (v := 4) rfl dX9_begins_51 ?_
    refine H_iast arr (ti_in (by decide)) hrz dX9_begins_52 (fun H4 z4 o4 arrN => ?_)
    replace arr := arrN; clear arrN
    replace ob := ob.kept (o4 a hne)
    refine H_aload_n dX9_begins_53 rfl 1 rfl ?_
    refine H_getV hfl_X9_X9_9 ob rfl dX9_begins_54 ?_
    refine H_bipush (v := 10) rfl dX9_begins_57 ?_
    refine H_iconst (v := (-1)) rfl dX9_begins_59 ?_
    refine H_iast arr (ti_in (by decide)) hrz dX9_begins_60 (fun H5 z5 o5 arrN => ?_)
    replace arr := arrN; clear arrN
    replace ob := ob.kept (o5 a hne)
    refine H_aload_n dX9_begins_61 rfl 1 rfl ?_
    refine H_getV hfl_X9_X9_9 ob rfl dX9_begins_62 ?_
    refine H_bipush (v := 13) rfl dX9_begins_65 ?_
    refine H_iconst (v := 1) rfl dX9_begins_67 ?_
    refine H_iast arr (ti_in (by decide)) hrz dX9_begins_68 (fun H6 z6 o6 arrN => ?_)
    replace arr := arrN; clear arrN
    replace ob := ob.kept (o6 a hne)
    refine H_vret rfl dX9_begins_69 (Nat.le_refl 0) (Nat.le_refl 0) ⟨rfl, by omega, fun q hq => (o6 q hq).trans ((o5 q hq).trans ((o4 q hq).trans ((o3 q hq).trans ((o2 q hq).trans ((o1 q hq).trans (old q hq)))))), _, arr, fun k hk => ?_⟩
    have hg := hf k (by omega)
    unfold wB0
    show upd (upd (upd (upd (upd (upd f 2 5) 3 15) 4 6554) 5 4) 10 (-1)) 13 1 k = _
    unfold upd
    simp only [zup_at]
    repeat' split
    all_goals first | rfl | exact hg | omega
  | succ d ih =>
    intro j hj y Hb f hy hs old ob arr hf
    refine H_iload_n dX9_begins_2 rfl 0 rfl ?_
    refine H_sipush (v := 484) rfl dX9_begins_3 ?_
    refine H_icmp_ge (tgt := 22) dX9_begins_6 rfl (fun q9 => absurd q9 (by rw [ti_le, hy, show (484 : Int32).toInt = 484 from rfl]; omega)) (fun _ => ?_)
    refine H_aload_n dX9_begins_9 rfl 1 rfl ?_
    refine H_getV hfl_X9_X9_9 ob rfl dX9_begins_10 ?_
    refine H_iload_n dX9_begins_13 rfl 0 rfl ?_
    refine H_iconst (v := 0) rfl dX9_begins_14 ?_
    refine H_iast arr (ti_in (by rw [hy]; omega)) hrz dX9_begins_15 (fun H1 z1 o1 arrN => ?_)
    refine H_iinc (lv2 := [(1, Value.int (y + 1)), (0, Value.ref a)]) dX9_begins_16 0 rfl rfl (by decide) rfl ?_
    refine H_goto (tgt := 2) dX9_begins_19 rfl ?_
    refine ih (j + 1) (by omega) (y + 1) H1 _ (ti_inc hy (by omega)) (by omega) (fun q hq => (o1 q hq).trans (old q hq)) (ob.kept (o1 a hne)) arrN fun k hk => ?_
    rw [ti_at hy]
    unfold upd
    by_cases c : k = j
    · rw [if_pos c]
    · rw [if_neg c]; exact hf k (by omega)
set_option maxHeartbeats 20000000 in
theorem ct_begins {a r0 r1 r2 r3 r4 r5 r9 r19 r20 r21 r22 r23 r24 r28 : Nat} {f : Nat → Int32} (ho : hO G H a 13 (vp_V [Value.ref r0, Value.ref r1, Value.ref r2, Value.ref r3, Value.ref r4, Value.ref r5, Value.int 0, Value.int 0, Value.int 0, Value.ref r9, Value.int 0, Value.int 0, Value.int 0, Value.int 0, Value.int 0, Value.int 0, Value.int 0, Value.int (-1), Value.int 0, Value.ref r19, Value.ref r20, Value.ref r21, Value.ref r22, Value.ref r23, Value.ref r24, Value.int 0, Value.int 0, Value.int 0, Value.ref r28, Value.int 0])) (arr : hA G H r0 0 484 (.inl f)) (hrz : zfr G r0) (hne : a ≠ r0) : hCal l G Y_X9_begins 0 0 [Value.ref a] H (fun r H1 => r = none ∧ H1.size = H.size ∧ (∀ q, q ≠ r0 → H1[q]? = H[q]?) ∧ ∃ g : Nat → Int32, hA G H1 r0 0 484 (.inl g) ∧ ∀ k, k < 484 → g k = wB0 k) := by
  refine hCal_of (by decide) rfl (zle rfl) rfl ?_
  have hE : ∀ {mc ms : Nat} {K : hK}, zRm Y_X9_begins (hEM G Y_X9_begins mc ms K).1 := zRm_M
  have hal := ho.lt
  refine H_iconst (v := 0) rfl dX9_begins_0 ?_
  refine H_istore_n (lv2 := [(1, Value.int 0), (0, Value.ref a)]) dX9_begins_1 rfl (by decide) rfl ?_
  exact lp_X9 (H := H) hrz hne 484 0 (by omega) 0 H f rfl rfl (fun q _ => rfl) ho arr (fun k hk => absurd hk (by omega))
def X9w (G : zG) (H : Heap) (a : Nat) (H1 : Heap) : Prop := (hO G H1 a 13 (vp_V [Value.ref H.size, Value.ref (H.size + 1), Value.ref (H.size + 2), Value.ref (H.size + 3), Value.ref (H.size + 4), Value.ref (H.size + 5), Value.int 0, Value.int 0, Value.int 0, Value.ref (H.size + 6), Value.int 0, Value.int 0, Value.int 0, Value.int 0, Value.int 0, Value.int 0, Value.int 0, Value.int (-1), Value.int 0, Value.ref (H.size + 7), Value.ref (H.size + 8), Value.ref (H.size + 9), Value.ref (H.size + 10), Value.ref (H.size + 11), Value.ref (H.size + 12), Value.int 0, Value.int 0, Value.int 0, Value.ref (H.size + 13), Value.int 0])) ∧ (∃ g : Nat → Int32, hA G H1 H.size 0 484 (.inl g) ∧ ∀ k, k < 484 → g k = w00 k) ∧ (hA G H1 (H.size + 1) 0 484 (.inl (fun _ => 0))) ∧ (hA G H1 (H.size + 2) 0 484 (.inl (fun _ => 0))) ∧ (hA G H1 (H.size + 3) 0 3872 (.inl (fun _ => 0))) ∧ (hA G H1 (H.size + 4) 0 968 (.inl (fun _ => 0))) ∧ (hA G H1 (H.size + 5) 2 2 (.inl (fun _ => 0))) ∧ (hA G H1 (H.size + 6) 0 500 (.inl (fun _ => 0))) ∧ (hA G H1 (H.size + 7) 0 64 (.inl (fun _ => 0))) ∧ (hA G H1 (H.size + 8) 0 64 (.inl (fun _ => 0))) ∧ (hA G H1 (H.size + 9) 0 64 (.inl (fun _ => 0))) ∧ (hA G H1 (H.size + 10) 0 64 (.inl (fun _ => 0))) ∧ (hA G H1 (H.size + 11) 0 2 (.inl (fun _ => 0))) ∧ (hA G H1 (H.size + 12) 0 2 (.inl (fun _ => 0))) ∧ (hA G H1 (H.size + 13) 0 400 (.inl (fun _ => 0)))
theorem X9w.ob {G : zG} {H : Heap} {a : Nat} {H1 : Heap} (h9 : X9w G H a H1) : hO G H1 a 13 (vp_V [Value.ref H.size, Value.ref (H.size + 1), Value.ref (H.size + 2), Value.ref (H.size + 3), Value.ref (H.size + 4), Value.ref (H.size + 5), Value.int 0, Value.int 0, Value.int 0, Value.ref (H.size + 6), Value.int 0, Value.int 0, Value.int 0, Value.int 0, Value.int 0, Value.int 0, Value.int 0, Value.int (-1), Value.int 0, Value.ref (H.size + 7), Value.ref (H.size + 8), Value.ref (H.size + 9), Value.ref (H.size + 10), Value.ref (H.size + 11), Value.ref (H.size + 12), Value.int 0, Value.int 0, Value.int 0, Value.ref (H.size + 13), Value.int 0]) := h9.1
theorem X9w.w0 {G : zG} {H : Heap} {a : Nat} {H1 : Heap} (h9 : X9w G H a H1) : ∃ g : Nat → Int32, hA G H1 H.size 0 484 (.inl g) ∧ ∀ k, k < 484 → g k = w00 k := h9.2.1
theorem X9w.f1 {G : zG} {H : Heap} {a : Nat} {H1 : Heap} (h9 : X9w G H a H1) : hA G H1 (H.size + 1) 0 484 (.inl (fun _ => 0)) := h9.2.2.1
theorem X9w.f2 {G : zG} {H : Heap} {a : Nat} {H1 : Heap} (h9 : X9w G H a H1) : hA G H1 (H.size + 2) 0 484 (.inl (fun _ => 0)) := h9.2.2.2.1
theorem X9w.f3 {G : zG} {H : Heap} {a : Nat} {H1 : Heap} (h9 : X9w G H a H1) : hA G H1 (H.size + 3) 0 3872 (.inl (fun _ => 0)) := h9.2.2.2.2.1
theorem X9w.f4 {G : zG} {H : Heap} {a : Nat} {H1 : Heap} (h9 : X9w G H a H1) : hA G H1 (H.size + 4) 0 968 (.inl (fun _ => 0)) := h9.2.2.2.2.2.1
theorem X9w.f5 {G : zG} {H : Heap} {a : Nat} {H1 : Heap} (h9 : X9w G H a H1) : hA G H1 (H.size + 5) 2 2 (.inl (fun _ => 0)) := h9.2.2.2.2.2.2.1
theorem X9w.f6 {G : zG} {H : Heap} {a : Nat} {H1 : Heap} (h9 : X9w G H a H1) : hA G H1 (H.size + 6) 0 500 (.inl (fun _ => 0)) := h9.2.2.2.2.2.2.2.1
theorem X9w.f7 {G : zG} {H : Heap} {a : Nat} {H1 : Heap} (h9 : X9w G H a H1) : hA G H1 (H.size + 7) 0 64 (.inl (fun _ => 0)) := h9.2.2.2.2.2.2.2.2.1
theorem X9w.f8 {G : zG} {H : Heap} {a : Nat} {H1 : Heap} (h9 : X9w G H a H1) : hA G H1 (H.size + 8) 0 64 (.inl (fun _ => 0)) := h9.2.2.2.2.2.2.2.2.2.1
theorem X9w.f9 {G : zG} {H : Heap} {a : Nat} {H1 : Heap} (h9 : X9w G H a H1) : hA G H1 (H.size + 9) 0 64 (.inl (fun _ => 0)) := h9.2.2.2.2.2.2.2.2.2.2.1
theorem X9w.f10 {G : zG} {H : Heap} {a : Nat} {H1 : Heap} (h9 : X9w G H a H1) : hA G H1 (H.size + 10) 0 64 (.inl (fun _ => 0)) := h9.2.2.2.2.2.2.2.2.2.2.2.1
theorem X9w.f11 {G : zG} {H : Heap} {a : Nat} {H1 : Heap} (h9 : X9w G H a H1) : hA G H1 (H.size + 11) 0 2 (.inl (fun _ => 0)) := h9.2.2.2.2.2.2.2.2.2.2.2.2.1
theorem X9w.f12 {G : zG} {H : Heap} {a : Nat} {H1 : Heap} (h9 : X9w G H a H1) : hA G H1 (H.size + 12) 0 2 (.inl (fun _ => 0)) := h9.2.2.2.2.2.2.2.2.2.2.2.2.2.1
theorem X9w.f13 {G : zG} {H : Heap} {a : Nat} {H1 : Heap} (h9 : X9w G H a H1) : hA G H1 (H.size + 13) 0 400 (.inl (fun _ => 0)) := h9.2.2.2.2.2.2.2.2.2.2.2.2.2.2
theorem X9w.mk {G : zG} {H : Heap} {a : Nat} {H1 : Heap} (ob : hO G H1 a 13 (vp_V [Value.ref H.size, Value.ref (H.size + 1), Value.ref (H.size + 2), Value.ref (H.size + 3), Value.ref (H.size + 4), Value.ref (H.size + 5), Value.int 0, Value.int 0, Value.int 0, Value.ref (H.size + 6), Value.int 0, Value.int 0, Value.int 0, Value.int 0, Value.int 0, Value.int 0, Value.int 0, Value.int (-1), Value.int 0, Value.ref (H.size + 7), Value.ref (H.size + 8), Value.ref (H.size + 9), Value.ref (H.size + 10), Value.ref (H.size + 11), Value.ref (H.size + 12), Value.int 0, Value.int 0, Value.int 0, Value.ref (H.size + 13), Value.int 0])) (w0 : ∃ g : Nat → Int32, hA G H1 H.size 0 484 (.inl g) ∧ ∀ k, k < 484 → g k = w00 k) (f1 : hA G H1 (H.size + 1) 0 484 (.inl (fun _ => 0))) (f2 : hA G H1 (H.size + 2) 0 484 (.inl (fun _ => 0))) (f3 : hA G H1 (H.size + 3) 0 3872 (.inl (fun _ => 0))) (f4 : hA G H1 (H.size + 4) 0 968 (.inl (fun _ => 0))) (f5 : hA G H1 (H.size + 5) 2 2 (.inl (fun _ => 0))) (f6 : hA G H1 (H.size + 6) 0 500 (.inl (fun _ => 0))) (f7 : hA G H1 (H.size + 7) 0 64 (.inl (fun _ => 0))) (f8 : hA G H1 (H.size + 8) 0 64 (.inl (fun _ => 0))) (f9 : hA G H1 (H.size + 9) 0 64 (.inl (fun _ => 0))) (f10 : hA G H1 (H.size + 10) 0 64 (.inl (fun _ => 0))) (f11 : hA G H1 (H.size + 11) 0 2 (.inl (fun _ => 0))) (f12 : hA G H1 (H.size + 12) 0 2 (.inl (fun _ => 0))) (f13 : hA G H1 (H.size + 13) 0 400 (.inl (fun _ => 0))) : X9w G H a H1 := ⟨ob, w0, f1, f2, f3, f4, f5, f6, f7, f8, f9, f10, f11, f12, f13⟩

theorem cs9_0 {K : hK} {a : Nat} (haz : zfr G a) (hz : gz G ≤ H.size ∧ ga G 50 0 < H.size ∧ ga G 51 0 < H.size) (hal : a < H.size) (ho : hO G H a 13 (vp_V [Value.null, Value.null, Value.null, Value.null, Value.null, Value.null, Value.int 0, Value.int 0, Value.int 0, Value.null, Value.int 0, Value.int 0, Value.int 0, Value.int 0, Value.int 0, Value.int 0, Value.int 0, Value.int 0, Value.int 0, Value.null, Value.null, Value.null, Value.null, Value.null, Value.null, Value.int 0, Value.int 0, Value.int 0, Value.null, Value.int 0])) (hk : ∀ H1 : Heap, H1.size = H.size + 3 → (∀ q, q < H.size → q ≠ a → H1[q]? = H[q]?) → (hO G H1 a 13 (vp_V [Value.ref H.size, Value.ref (H.size + 1), Value.ref (H.size + 2), Value.null, Value.null, Value.null, Value.int 0, Value.int 0, Value.int 0, Value.null, Value.int 0, Value.int 0, Value.int 0, Value.int 0, Value.int 0, Value.int 0, Value.int 0, Value.int 0, Value.int 0, Value.null, Value.null, Value.null, Value.null, Value.null, Value.null, Value.int 0, Value.int 0, Value.int 0, Value.null, Value.int 0])) → (hA G H1 H.size 0 484 (.inl (fun _ => 0))) → (hA G H1 (H.size + 1) 0 484 (.inl (fun _ => 0))) → (hA G H1 (H.size + 2) 0 484 (.inl (fun _ => 0))) → hAt l G Y_X9_init (hEM G Y_X9_init 14 7454 K) 31 [(0, Value.ref a)] [] H1 3 1452) : hAt l G Y_X9_init (hEM G Y_X9_init 14 7454 K) 4 [(0, Value.ref a)] [] H 0 0 := by
  have hE : ∀ {mc ms : Nat} {K : hK}, zRm Y_X9_init (hEM G Y_X9_init mc ms K).1 := zRm_M
  refine H_aload_n dX9_init_4 rfl 0 rfl ?_
  refine H_sipush (v := 484) rfl dX9_init_5 ?_
  refine H_newa (at_ := .int) (t := 0) (n := 484) (z := .inl (fun _ => 0)) (by decide) rfl zw_183 rfl (fun _ => rfl) (by decide) (by show 1 ≤ 14; omega) (by show 484 ≤ 7454; omega) dX9_init_8 (fun H1 z1 o1 f0 => ?_)
  have z1 : H1.size = H.size + 1 := by omega
  replace ho := ho.kept (o1 a (by omega))
  refine H_putV (fs2 := [Value.ref H.size, Value.null, Value.null, Value.null, Value.null, Value.null, Value.int 0, Value.int 0, Value.int 0, Value.null, Value.int 0, Value.int 0, Value.int 0, Value.int 0, Value.int 0, Value.int 0, Value.int 0, Value.int 0, Value.int 0, Value.null, Value.null, Value.null, Value.null, Value.null, Value.null, Value.int 0, Value.int 0, Value.int 0, Value.null, Value.int 0]) hfp_X9_X9_9 (fun _ => rfl) ho rfl (zle rfl) rfl rfl (by omega) dX9_init_10 (fun H2 z2 o2 hoN => ?_)
  have z2 : H2.size = H.size + 1 := by omega
  replace f0 := (o2 H.size (by omega)).trans f0
  have ho := hoN
  refine H_aload_n dX9_init_13 rfl 0 rfl ?_
  refine H_sipush (v := 484) rfl dX9_init_14 ?_
  refine H_newa (at_ := .int) (t := 0) (n := 484) (z := .inl (fun _ => 0)) (by decide) rfl zw_183 rfl (fun _ => rfl) (by decide) (by show 2 ≤ 14; omega) (by show 968 ≤ 7454; omega) dX9_init_17 (fun H3 z3 o3 f1 => ?_)
  rw [z2] at z3 o3 f1 ⊢
  have z3 : H3.size = H.size + 2 := by omega
  replace ho := ho.kept (o3 a (by omega))
  replace f0 := (o3 H.size (by omega)).trans f0
  refine H_putV (fs2 := [Value.ref H.size, Value.ref (H.size + 1), Value.null, Value.null, Value.null, Value.null, Value.int 0, Value.int 0, Value.int 0, Value.null, Value.int 0, Value.int 0, Value.int 0, Value.int 0, Value.int 0, Value.int 0, Value.int 0, Value.int 0, Value.int 0, Value.null, Value.null, Value.null, Value.null, Value.null, Value.null, Value.int 0, Value.int 0, Value.int 0, Value.null, Value.int 0]) hfp_X9_X9_13 (fun _ => rfl) ho rfl (zle rfl) rfl rfl (by omega) dX9_init_19 (fun H4 z4 o4 hoN => ?_)
  have z4 : H4.size = H.size + 2 := by omega
  replace f0 := (o4 H.size (by omega)).trans f0
  replace f1 := (o4 (H.size + 1) (by omega)).trans f1
  have ho := hoN
  refine H_aload_n dX9_init_22 rfl 0 rfl ?_
  refine H_sipush (v := 484) rfl dX9_init_23 ?_
  refine H_newa (at_ := .int) (t := 0) (n := 484) (z := .inl (fun _ => 0)) (by decide) rfl zw_183 rfl (fun _ => rfl) (by decide) (by show 3 ≤ 14; omega) (by show 1452 ≤ 7454; omega) dX9_init_26 (fun H5 z5 o5 f2 => ?_)
  rw [z4] at z5 o5 f2 ⊢
  have z5 : H5.size = H.size + 3 := by omega
  replace ho := ho.kept (o5 a (by omega))
  replace f0 := (o5 H.size (by omega)).trans f0
  replace f1 := (o5 (H.size + 1) (by omega)).trans f1
  refine H_putV (fs2 := [Value.ref H.size, Value.ref (H.size + 1), Value.ref (H.size + 2), Value.null, Value.null, Value.null, Value.int 0, Value.int 0, Value.int 0, Value.null, Value.int 0, Value.int 0, Value.int 0, Value.int 0, Value.int 0, Value.int 0, Value.int 0, Value.int 0, Value.int 0, Value.null, Value.null, Value.null, Value.null, Value.null, Value.null, Value.int 0, Value.int 0, Value.int 0, Value.null, Value.int 0]) hfp_X9_X9_16 (fun _ => rfl) ho rfl (zle rfl) rfl rfl (by omega) dX9_init_28 (fun H6 z6 o6 hoN => ?_)
  have z6 : H6.size = H.size + 3 := by omega
  replace f0 := (o6 H.size (by omega)).trans f0
  replace f1 := (o6 (H.size + 1) (by omega)).trans f1
  replace f2 := (o6 (H.size + 2) (by omega)).trans f2
  have ho := hoN
  exact hk H6 (by omega) (fun q hq hqa => ((o6 q (by omega)).trans ((o5 q (by omega)).trans ((o4 q (by omega)).trans ((o3 q (by omega)).trans ((o2 q (by omega)).trans (o1 q (by omega)))))))) ho f0 f1 f2
theorem cs9_1 {K : hK} {a : Nat} (haz : zfr G a) (hz : gz G ≤ H.size ∧ ga G 50 0 < H.size ∧ ga G 51 0 < H.size) (hal : a < H.size) {Hb : Heap} (zb : Hb.size = H.size + 3) (old : ∀ q, q < H.size → q ≠ a → Hb[q]? = H[q]?) (ho : hO G Hb a 13 (vp_V [Value.ref H.size, Value.ref (H.size + 1), Value.ref (H.size + 2), Value.null, Value.null, Value.null, Value.int 0, Value.int 0, Value.int 0, Value.null, Value.int 0, Value.int 0, Value.int 0, Value.int 0, Value.int 0, Value.int 0, Value.int 0, Value.int 0, Value.int 0, Value.null, Value.null, Value.null, Value.null, Value.null, Value.null, Value.int 0, Value.int 0, Value.int 0, Value.null, Value.int 0])) (f0 : hA G Hb H.size 0 484 (.inl (fun _ => 0))) (f1 : hA G Hb (H.size + 1) 0 484 (.inl (fun _ => 0))) (f2 : hA G Hb (H.size + 2) 0 484 (.inl (fun _ => 0))) (hk : ∀ H1 : Heap, H1.size = H.size + 6 → (∀ q, q < H.size → q ≠ a → H1[q]? = H[q]?) → (hO G H1 a 13 (vp_V [Value.ref H.size, Value.ref (H.size + 1), Value.ref (H.size + 2), Value.ref (H.size + 3), Value.ref (H.size + 4), Value.ref (H.size + 5), Value.int 0, Value.int 0, Value.int 0, Value.null, Value.int 0, Value.int 0, Value.int 0, Value.int 0, Value.int 0, Value.int 0, Value.int 0, Value.int 0, Value.int 0, Value.null, Value.null, Value.null, Value.null, Value.null, Value.null, Value.int 0, Value.int 0, Value.int 0, Value.null, Value.int 0])) → (hA G H1 H.size 0 484 (.inl (fun _ => 0))) → (hA G H1 (H.size + 1) 0 484 (.inl (fun _ => 0))) → (hA G H1 (H.size + 2) 0 484 (.inl (fun _ => 0))) → (hA G H1 (H.size + 3) 0 3872 (.inl (fun _ => 0))) → (hA G H1 (H.size + 4) 0 968 (.inl (fun _ => 0))) → (hA G H1 (H.size + 5) 2 2 (.inl (fun _ => 0))) → hAt l G Y_X9_init (hEM G Y_X9_init 14 7454 K) 56 [(0, Value.ref a)] [] H1 6 6294) : hAt l G Y_X9_init (hEM G Y_X9_init 14 7454 K) 31 [(0, Value.ref a)] [] Hb 3 1452 := by
  have hE : ∀ {mc ms : Nat} {K : hK}, zRm Y_X9_init (hEM G Y_X9_init mc ms K).1 := zRm_M
  refine H_aload_n dX9_init_31 rfl 0 rfl ?_
  refine H_sipush (v := 3872) rfl dX9_init_32 ?_
  refine H_newa (at_ := .int) (t := 0) (n := 3872) (z := .inl (fun _ => 0)) (by decide) rfl zw_183 rfl (fun _ => rfl) (by decide) (by show 4 ≤ 14; omega) (by show 5324 ≤ 7454; omega) dX9_init_35 (fun H7 z7 o7 f3 => ?_)
  rw [zb] at z7 o7 f3 ⊢
  have z7 : H7.size = H.size + 4 := by omega
  replace ho := ho.kept (o7 a (by omega))
  replace f0 := (o7 H.size (by omega)).trans f0
  replace f1 := (o7 (H.size + 1) (by omega)).trans f1
  replace f2 := (o7 (H.size + 2) (by omega)).trans f2
  refine H_putV (fs2 := [Value.ref H.size, Value.ref (H.size + 1), Value.ref (H.size + 2), Value.ref (H.size + 3), Value.null, Value.null, Value.int 0, Value.int 0, Value.int 0, Value.null, Value.int 0, Value.int 0, Value.int 0, Value.int 0, Value.int 0, Value.int 0, Value.int 0, Value.int 0, Value.int 0, Value.null, Value.null, Value.null, Value.null, Value.null, Value.null, Value.int 0, Value.int 0, Value.int 0, Value.null, Value.int 0]) hfp_X9_X9_19 (fun _ => rfl) ho rfl (zle rfl) rfl rfl (by omega) dX9_init_37 (fun H8 z8 o8 hoN => ?_)
  have z8 : H8.size = H.size + 4 := by omega
  replace f0 := (o8 H.size (by omega)).trans f0
  replace f1 := (o8 (H.size + 1) (by omega)).trans f1
  replace f2 := (o8 (H.size + 2) (by omega)).trans f2
  replace f3 := (o8 (H.size + 3) (by omega)).trans f3
  have ho := hoN
  refine H_aload_n dX9_init_40 rfl 0 rfl ?_
  refine H_sipush (v := 968) rfl dX9_init_41 ?_
  refine H_newa (at_ := .int) (t := 0) (n := 968) (z := .inl (fun _ => 0)) (by decide) rfl zw_183 rfl (fun _ => rfl) (by decide) (by show 5 ≤ 14; omega) (by show 6292 ≤ 7454; omega) dX9_init_44 (fun H9 z9 o9 f4 => ?_)
  rw [z8] at z9 o9 f4 ⊢
  have z9 : H9.size = H.size + 5 := by omega
  replace ho := ho.kept (o9 a (by omega))
  replace f0 := (o9 H.size (by omega)).trans f0
  replace f1 := (o9 (H.size + 1) (by omega)).trans f1
  replace f2 := (o9 (H.size + 2) (by omega)).trans f2
  replace f3 := (o9 (H.size + 3) (by omega)).trans f3
  refine H_putV (fs2 := [Value.ref H.size, Value.ref (H.size + 1), Value.ref (H.size + 2), Value.ref (H.size + 3), Value.ref (H.size + 4), Value.null, Value.int 0, Value.int 0, Value.int 0, Value.null, Value.int 0, Value.int 0, Value.int 0, Value.int 0, Value.int 0, Value.int 0, Value.int 0, Value.int 0, Value.int 0, Value.null, Value.null, Value.null, Value.null, Value.null, Value.null, Value.int 0, Value.int 0, Value.int 0, Value.null, Value.int 0]) hfp_X9_X9_22 (fun _ => rfl) ho rfl (zle rfl) rfl rfl (by omega) dX9_init_46 (fun H10 z10 o10 hoN => ?_)
  have z10 : H10.size = H.size + 5 := by omega
  replace f0 := (o10 H.size (by omega)).trans f0
  replace f1 := (o10 (H.size + 1) (by omega)).trans f1
  replace f2 := (o10 (H.size + 2) (by omega)).trans f2
  replace f3 := (o10 (H.size + 3) (by omega)).trans f3
  replace f4 := (o10 (H.size + 4) (by omega)).trans f4
  have ho := hoN
  refine H_aload_n dX9_init_49 rfl 0 rfl ?_
  refine H_iconst (v := 2) rfl dX9_init_50 ?_
  refine H_newa (at_ := .boolean) (t := 2) (n := 2) (z := .inl (fun _ => 0)) (by decide) rfl zw_480 rfl (fun _ => rfl) (by decide) (by show 6 ≤ 14; omega) (by show 6294 ≤ 7454; omega) dX9_init_51 (fun H11 z11 o11 f5 => ?_)
  rw [z10] at z11 o11 f5 ⊢
  have z11 : H11.size = H.size + 6 := by omega
  replace ho := ho.kept (o11 a (by omega))
  replace f0 := (o11 H.size (by omega)).trans f0
  replace f1 := (o11 (H.size + 1) (by omega)).trans f1
  replace f2 := (o11 (H.size + 2) (by omega)).trans f2
  replace f3 := (o11 (H.size + 3) (by omega)).trans f3
  replace f4 := (o11 (H.size + 4) (by omega)).trans f4
  refine H_putV (fs2 := [Value.ref H.size, Value.ref (H.size + 1), Value.ref (H.size + 2), Value.ref (H.size + 3), Value.ref (H.size + 4), Value.ref (H.size + 5), Value.int 0, Value.int 0, Value.int 0, Value.null, Value.int 0, Value.int 0, Value.int 0, Value.int 0, Value.int 0, Value.int 0, Value.int 0, Value.int 0, Value.int 0, Value.null, Value.null, Value.null, Value.null, Value.null, Value.null, Value.int 0, Value.int 0, Value.int 0, Value.null, Value.int 0]) hfp_X9_X9_25 (fun _ => rfl) ho rfl (zle rfl) rfl rfl (by omega) dX9_init_53 (fun H12 z12 o12 hoN => ?_)
  have z12 : H12.size = H.size + 6 := by omega
  replace f0 := (o12 H.size (by omega)).trans f0
  replace f1 := (o12 (H.size + 1) (by omega)).trans f1
  replace f2 := (o12 (H.size + 2) (by omega)).trans f2
  replace f3 := (o12 (H.size + 3) (by omega)).trans f3
  replace f4 := (o12 (H.size + 4) (by omega)).trans f4
  replace f5 := (o12 (H.size + 5) (by omega)).trans f5
  have ho := hoN
  exact hk H12 (by omega) (fun q hq hqa => ((o12 q (by omega)).trans ((o11 q (by omega)).trans ((o10 q (by omega)).trans ((o9 q (by omega)).trans ((o8 q (by omega)).trans (o7 q (by omega))))))).trans (old q hq hqa)) ho f0 f1 f2 f3 f4 f5
theorem cs9_2 {K : hK} {a : Nat} (haz : zfr G a) (hz : gz G ≤ H.size ∧ ga G 50 0 < H.size ∧ ga G 51 0 < H.size) (hal : a < H.size) {Hb : Heap} (zb : Hb.size = H.size + 6) (old : ∀ q, q < H.size → q ≠ a → Hb[q]? = H[q]?) (ho : hO G Hb a 13 (vp_V [Value.ref H.size, Value.ref (H.size + 1), Value.ref (H.size + 2), Value.ref (H.size + 3), Value.ref (H.size + 4), Value.ref (H.size + 5), Value.int 0, Value.int 0, Value.int 0, Value.null, Value.int 0, Value.int 0, Value.int 0, Value.int 0, Value.int 0, Value.int 0, Value.int 0, Value.int 0, Value.int 0, Value.null, Value.null, Value.null, Value.null, Value.null, Value.null, Value.int 0, Value.int 0, Value.int 0, Value.null, Value.int 0])) (f0 : hA G Hb H.size 0 484 (.inl (fun _ => 0))) (f1 : hA G Hb (H.size + 1) 0 484 (.inl (fun _ => 0))) (f2 : hA G Hb (H.size + 2) 0 484 (.inl (fun _ => 0))) (f3 : hA G Hb (H.size + 3) 0 3872 (.inl (fun _ => 0))) (f4 : hA G Hb (H.size + 4) 0 968 (.inl (fun _ => 0))) (f5 : hA G Hb (H.size + 5) 2 2 (.inl (fun _ => 0))) (hk : ∀ H1 : Heap, H1.size = H.size + 7 → (∀ q, q < H.size → q ≠ a → H1[q]? = H[q]?) → (hO G H1 a 13 (vp_V [Value.ref H.size, Value.ref (H.size + 1), Value.ref (H.size + 2), Value.ref (H.size + 3), Value.ref (H.size + 4), Value.ref (H.size + 5), Value.int 0, Value.int 0, Value.int 0, Value.ref (H.size + 6), Value.int 0, Value.int 0, Value.int 0, Value.int 0, Value.int 0, Value.int 0, Value.int 0, Value.int (-1), Value.int 0, Value.null, Value.null, Value.null, Value.null, Value.null, Value.null, Value.int 0, Value.int 0, Value.int 0, Value.null, Value.int 0])) → (hA G H1 H.size 0 484 (.inl (fun _ => 0))) → (hA G H1 (H.size + 1) 0 484 (.inl (fun _ => 0))) → (hA G H1 (H.size + 2) 0 484 (.inl (fun _ => 0))) → (hA G H1 (H.size + 3) 0 3872 (.inl (fun _ => 0))) → (hA G H1 (H.size + 4) 0 968 (.inl (fun _ => 0))) → (hA G H1 (H.size + 5) 2 2 (.inl (fun _ => 0))) → (hA G H1 (H.size + 6) 0 500 (.inl (fun _ => 0))) → hAt l G Y_X9_init (hEM G Y_X9_init 14 7454 K) 70 [(0, Value.ref a)] [] H1 7 6794) : hAt l G Y_X9_init (hEM G Y_X9_init 14 7454 K) 56 [(0, Value.ref a)] [] Hb 6 6294 := by
  have hE : ∀ {mc ms : Nat} {K : hK}, zRm Y_X9_init (hEM G Y_X9_init mc ms K).1 := zRm_M
  refine H_aload_n dX9_init_56 rfl 0 rfl ?_
  refine H_sipush (v := 500) rfl dX9_init_57 ?_
  refine H_newa (at_ := .int) (t := 0) (n := 500) (z := .inl (fun _ => 0)) (by decide) rfl zw_183 rfl (fun _ => rfl) (by decide) (by show 7 ≤ 14; omega) (by show 6794 ≤ 7454; omega) dX9_init_60 (fun H13 z13 o13 f6 => ?_)
  rw [zb] at z13 o13 f6 ⊢
  have z13 : H13.size = H.size + 7 := by omega
  replace ho := ho.kept (o13 a (by omega))
  replace f0 := (o13 H.size (by omega)).trans f0
  replace f1 := (o13 (H.size + 1) (by omega)).trans f1
  replace f2 := (o13 (H.size + 2) (by omega)).trans f2
  replace f3 := (o13 (H.size + 3) (by omega)).trans f3
  replace f4 := (o13 (H.size + 4) (by omega)).trans f4
  replace f5 := (o13 (H.size + 5) (by omega)).trans f5
  refine H_putV (fs2 := [Value.ref H.size, Value.ref (H.size + 1), Value.ref (H.size + 2), Value.ref (H.size + 3), Value.ref (H.size + 4), Value.ref (H.size + 5), Value.int 0, Value.int 0, Value.int 0, Value.ref (H.size + 6), Value.int 0, Value.int 0, Value.int 0, Value.int 0, Value.int 0, Value.int 0, Value.int 0, Value.int 0, Value.int 0, Value.null, Value.null, Value.null, Value.null, Value.null, Value.null, Value.int 0, Value.int 0, Value.int 0, Value.null, Value.int 0]) hfp_X9_X9_29 (fun _ => rfl) ho rfl (zle rfl) rfl rfl (by omega) dX9_init_62 (fun H14 z14 o14 hoN => ?_)
  have z14 : H14.size = H.size + 7 := by omega
  replace f0 := (o14 H.size (by omega)).trans f0
  replace f1 := (o14 (H.size + 1) (by omega)).trans f1
  replace f2 := (o14 (H.size + 2) (by omega)).trans f2
  replace f3 := (o14 (H.size + 3) (by omega)).trans f3
  replace f4 := (o14 (H.size + 4) (by omega)).trans f4
  replace f5 := (o14 (H.size + 5) (by omega)).trans f5
  replace f6 := (o14 (H.size + 6) (by omega)).trans f6
  have ho := hoN
  refine H_aload_n dX9_init_65 rfl 0 rfl ?_
  refine H_iconst (v := (-1)) rfl dX9_init_66 ?_
  refine H_putV (fs2 := [Value.ref H.size, Value.ref (H.size + 1), Value.ref (H.size + 2), Value.ref (H.size + 3), Value.ref (H.size + 4), Value.ref (H.size + 5), Value.int 0, Value.int 0, Value.int 0, Value.ref (H.size + 6), Value.int 0, Value.int 0, Value.int 0, Value.int 0, Value.int 0, Value.int 0, Value.int 0, Value.int (-1), Value.int 0, Value.null, Value.null, Value.null, Value.null, Value.null, Value.null, Value.int 0, Value.int 0, Value.int 0, Value.null, Value.int 0]) hfp_X9_X9_32 (fun h => by cases h) ho rfl (zle rfl) rfl rfl (by omega) dX9_init_67 (fun H15 z15 o15 hoN => ?_)
  have z15 : H15.size = H.size + 7 := by omega
  replace f0 := (o15 H.size (by omega)).trans f0
  replace f1 := (o15 (H.size + 1) (by omega)).trans f1
  replace f2 := (o15 (H.size + 2) (by omega)).trans f2
  replace f3 := (o15 (H.size + 3) (by omega)).trans f3
  replace f4 := (o15 (H.size + 4) (by omega)).trans f4
  replace f5 := (o15 (H.size + 5) (by omega)).trans f5
  replace f6 := (o15 (H.size + 6) (by omega)).trans f6
  have ho := hoN
  exact hk H15 (by omega) (fun q hq hqa => ((o15 q (by omega)).trans ((o14 q (by omega)).trans (o13 q (by omega)))).trans (old q hq hqa)) ho f0 f1 f2 f3 f4 f5 f6
theorem cs9_3 {K : hK} {a : Nat} (haz : zfr G a) (hz : gz G ≤ H.size ∧ ga G 50 0 < H.size ∧ ga G 51 0 < H.size) (hal : a < H.size) {Hb : Heap} (zb : Hb.size = H.size + 7) (old : ∀ q, q < H.size → q ≠ a → Hb[q]? = H[q]?) (ho : hO G Hb a 13 (vp_V [Value.ref H.size, Value.ref (H.size + 1), Value.ref (H.size + 2), Value.ref (H.size + 3), Value.ref (H.size + 4), Value.ref (H.size + 5), Value.int 0, Value.int 0, Value.int 0, Value.ref (H.size + 6), Value.int 0, Value.int 0, Value.int 0, Value.int 0, Value.int 0, Value.int 0, Value.int 0, Value.int (-1), Value.int 0, Value.null, Value.null, Value.null, Value.null, Value.null, Value.null, Value.int 0, Value.int 0, Value.int 0, Value.null, Value.int 0])) (f0 : hA G Hb H.size 0 484 (.inl (fun _ => 0))) (f1 : hA G Hb (H.size + 1) 0 484 (.inl (fun _ => 0))) (f2 : hA G Hb (H.size + 2) 0 484 (.inl (fun _ => 0))) (f3 : hA G Hb (H.size + 3) 0 3872 (.inl (fun _ => 0))) (f4 : hA G Hb (H.size + 4) 0 968 (.inl (fun _ => 0))) (f5 : hA G Hb (H.size + 5) 2 2 (.inl (fun _ => 0))) (f6 : hA G Hb (H.size + 6) 0 500 (.inl (fun _ => 0))) (hk : ∀ H1 : Heap, H1.size = H.size + 10 → (∀ q, q < H.size → q ≠ a → H1[q]? = H[q]?) → (hO G H1 a 13 (vp_V [Value.ref H.size, Value.ref (H.size + 1), Value.ref (H.size + 2), Value.ref (H.size + 3), Value.ref (H.size + 4), Value.ref (H.size + 5), Value.int 0, Value.int 0, Value.int 0, Value.ref (H.size + 6), Value.int 0, Value.int 0, Value.int 0, Value.int 0, Value.int 0, Value.int 0, Value.int 0, Value.int (-1), Value.int 0, Value.ref (H.size + 7), Value.ref (H.size + 8), Value.ref (H.size + 9), Value.null, Value.null, Value.null, Value.int 0, Value.int 0, Value.int 0, Value.null, Value.int 0])) → (hA G H1 H.size 0 484 (.inl (fun _ => 0))) → (hA G H1 (H.size + 1) 0 484 (.inl (fun _ => 0))) → (hA G H1 (H.size + 2) 0 484 (.inl (fun _ => 0))) → (hA G H1 (H.size + 3) 0 3872 (.inl (fun _ => 0))) → (hA G H1 (H.size + 4) 0 968 (.inl (fun _ => 0))) → (hA G H1 (H.size + 5) 2 2 (.inl (fun _ => 0))) → (hA G H1 (H.size + 6) 0 500 (.inl (fun _ => 0))) → (hA G H1 (H.size + 7) 0 64 (.inl (fun _ => 0))) → (hA G H1 (H.size + 8) 0 64 (.inl (fun _ => 0))) → (hA G H1 (H.size + 9) 0 64 (.inl (fun _ => 0))) → hAt l G Y_X9_init (hEM G Y_X9_init 14 7454 K) 94 [(0, Value.ref a)] [] H1 10 6986) : hAt l G Y_X9_init (hEM G Y_X9_init 14 7454 K) 70 [(0, Value.ref a)] [] Hb 7 6794 := by
  have hE : ∀ {mc ms : Nat} {K : hK}, zRm Y_X9_init (hEM G Y_X9_init mc ms K).1 := zRm_M
  refine H_aload_n dX9_init_70 rfl 0 rfl ?_
  refine H_bipush (v := 64) rfl dX9_init_71 ?_
  refine H_newa (at_ := .int) (t := 0) (n := 64) (z := .inl (fun _ => 0)) (by decide) rfl zw_183 rfl (fun _ => rfl) (by decide) (by show 8 ≤ 14; omega) (by show 6858 ≤ 7454; omega) dX9_init_73 (fun H16 z16 o16 f7 => ?_)
  rw [zb] at z16 o16 f7 ⊢
  have z16 : H16.size = H.size + 8 := by omega
  replace ho := ho.kept (o16 a (by omega))
  replace f0 := (o16 H.size (by omega)).trans f0
  replace f1 := (o16 (H.size + 1) (by omega)).trans f1
  replace f2 := (o16 (H.size + 2) (by omega)).trans f2
  replace f3 := (o16 (H.size + 3) (by omega)).trans f3
  replace f4 := (o16 (H.size + 4) (by omega)).trans f4
  replace f5 := (o16 (H.size + 5) (by omega)).trans f5
  replace f6 := (o16 (H.size + 6) (by omega)).trans f6
  refine H_putV (fs2 := [Value.ref H.size, Value.ref (H.size + 1), Value.ref (H.size + 2), Value.ref (H.size + 3), Value.ref (H.size + 4), Value.ref (H.size + 5), Value.int 0, Value.int 0, Value.int 0, Value.ref (H.size + 6), Value.int 0, Value.int 0, Value.int 0, Value.int 0, Value.int 0, Value.int 0, Value.int 0, Value.int (-1), Value.int 0, Value.ref (H.size + 7), Value.null, Value.null, Value.null, Value.null, Value.null, Value.int 0, Value.int 0, Value.int 0, Value.null, Value.int 0]) hfp_X9_X9_36 (fun _ => rfl) ho rfl (zle rfl) rfl rfl (by omega) dX9_init_75 (fun H17 z17 o17 hoN => ?_)
  have z17 : H17.size = H.size + 8 := by omega
  replace f0 := (o17 H.size (by omega)).trans f0
  replace f1 := (o17 (H.size + 1) (by omega)).trans f1
  replace f2 := (o17 (H.size + 2) (by omega)).trans f2
  replace f3 := (o17 (H.size + 3) (by omega)).trans f3
  replace f4 := (o17 (H.size + 4) (by omega)).trans f4
  replace f5 := (o17 (H.size + 5) (by omega)).trans f5
  replace f6 := (o17 (H.size + 6) (by omega)).trans f6
  replace f7 := (o17 (H.size + 7) (by omega)).trans f7
  have ho := hoN
  refine H_aload_n dX9_init_78 rfl 0 rfl ?_
  refine H_bipush (v := 64) rfl dX9_init_79 ?_
  refine H_newa (at_ := .int) (t := 0) (n := 64) (z := .inl (fun _ => 0)) (by decide) rfl zw_183 rfl (fun _ => rfl) (by decide) (by show 9 ≤ 14; omega) (by show 6922 ≤ 7454; omega) dX9_init_81 (fun H18 z18 o18 f8 => ?_)
  rw [z17] at z18 o18 f8 ⊢
  have z18 : H18.size = H.size + 9 := by omega
  replace ho := ho.kept (o18 a (by omega))
  replace f0 := (o18 H.size (by omega)).trans f0
  replace f1 := (o18 (H.size + 1) (by omega)).trans f1
  replace f2 := (o18 (H.size + 2) (by omega)).trans f2
  replace f3 := (o18 (H.size + 3) (by omega)).trans f3
  replace f4 := (o18 (H.size + 4) (by omega)).trans f4
  replace f5 := (o18 (H.size + 5) (by omega)).trans f5
  replace f6 := (o18 (H.size + 6) (by omega)).trans f6
  replace f7 := (o18 (H.size + 7) (by omega)).trans f7
  refine H_putV (fs2 := [Value.ref H.size, Value.ref (H.size + 1), Value.ref (H.size + 2), Value.ref (H.size + 3), Value.ref (H.size + 4), Value.ref (H.size + 5), Value.int 0, Value.int 0, Value.int 0, Value.ref (H.size + 6), Value.int 0, Value.int 0, Value.int 0, Value.int 0, Value.int 0, Value.int 0, Value.int 0, Value.int (-1), Value.int 0, Value.ref (H.size + 7), Value.ref (H.size + 8), Value.null, Value.null, Value.null, Value.null, Value.int 0, Value.int 0, Value.int 0, Value.null, Value.int 0]) hfp_X9_X9_39 (fun _ => rfl) ho rfl (zle rfl) rfl rfl (by omega) dX9_init_83 (fun H19 z19 o19 hoN => ?_)
  have z19 : H19.size = H.size + 9 := by omega
  replace f0 := (o19 H.size (by omega)).trans f0
  replace f1 := (o19 (H.size + 1) (by omega)).trans f1
  replace f2 := (o19 (H.size + 2) (by omega)).trans f2
  replace f3 := (o19 (H.size + 3) (by omega)).trans f3
  replace f4 := (o19 (H.size + 4) (by omega)).trans f4
  replace f5 := (o19 (H.size + 5) (by omega)).trans f5
  replace f6 := (o19 (H.size + 6) (by omega)).trans f6
  replace f7 := (o19 (H.size + 7) (by omega)).trans f7
  replace f8 := (o19 (H.size + 8) (by omega)).trans f8
  have ho := hoN
  refine H_aload_n dX9_init_86 rfl 0 rfl ?_
  refine H_bipush (v := 64) rfl dX9_init_87 ?_
  refine H_newa (at_ := .int) (t := 0) (n := 64) (z := .inl (fun _ => 0)) (by decide) rfl zw_183 rfl (fun _ => rfl) (by decide) (by show 10 ≤ 14; omega) (by show 6986 ≤ 7454; omega) dX9_init_89 (fun H20 z20 o20 f9 => ?_)
  rw [z19] at z20 o20 f9 ⊢
  have z20 : H20.size = H.size + 10 := by omega
  replace ho := ho.kept (o20 a (by omega))
  replace f0 := (o20 H.size (by omega)).trans f0
  replace f1 := (o20 (H.size + 1) (by omega)).trans f1
  replace f2 := (o20 (H.size + 2) (by omega)).trans f2
  replace f3 := (o20 (H.size + 3) (by omega)).trans f3
  replace f4 := (o20 (H.size + 4) (by omega)).trans f4
  replace f5 := (o20 (H.size + 5) (by omega)).trans f5
  replace f6 := (o20 (H.size + 6) (by omega)).trans f6
  replace f7 := (o20 (H.size + 7) (by omega)).trans f7
  replace f8 := (o20 (H.size + 8) (by omega)).trans f8
  refine H_putV (fs2 := [Value.ref H.size, Value.ref (H.size + 1), Value.ref (H.size + 2), Value.ref (H.size + 3), Value.ref (H.size + 4), Value.ref (H.size + 5), Value.int 0, Value.int 0, Value.int 0, Value.ref (H.size + 6), Value.int 0, Value.int 0, Value.int 0, Value.int 0, Value.int 0, Value.int 0, Value.int 0, Value.int (-1), Value.int 0, Value.ref (H.size + 7), Value.ref (H.size + 8), Value.ref (H.size + 9), Value.null, Value.null, Value.null, Value.int 0, Value.int 0, Value.int 0, Value.null, Value.int 0]) hfp_X9_X9_42 (fun _ => rfl) ho rfl (zle rfl) rfl rfl (by omega) dX9_init_91 (fun H21 z21 o21 hoN => ?_)
  have z21 : H21.size = H.size + 10 := by omega
  replace f0 := (o21 H.size (by omega)).trans f0
  replace f1 := (o21 (H.size + 1) (by omega)).trans f1
  replace f2 := (o21 (H.size + 2) (by omega)).trans f2
  replace f3 := (o21 (H.size + 3) (by omega)).trans f3
  replace f4 := (o21 (H.size + 4) (by omega)).trans f4
  replace f5 := (o21 (H.size + 5) (by omega)).trans f5
  replace f6 := (o21 (H.size + 6) (by omega)).trans f6
  replace f7 := (o21 (H.size + 7) (by omega)).trans f7
  replace f8 := (o21 (H.size + 8) (by omega)).trans f8
  replace f9 := (o21 (H.size + 9) (by omega)).trans f9
  have ho := hoN
  exact hk H21 (by omega) (fun q hq hqa => ((o21 q (by omega)).trans ((o20 q (by omega)).trans ((o19 q (by omega)).trans ((o18 q (by omega)).trans ((o17 q (by omega)).trans (o16 q (by omega))))))).trans (old q hq hqa)) ho f0 f1 f2 f3 f4 f5 f6 f7 f8 f9
theorem cs9_4 {K : hK} {a : Nat} (haz : zfr G a) (hz : gz G ≤ H.size ∧ ga G 50 0 < H.size ∧ ga G 51 0 < H.size) (hal : a < H.size) {Hb : Heap} (zb : Hb.size = H.size + 10) (old : ∀ q, q < H.size → q ≠ a → Hb[q]? = H[q]?) (ho : hO G Hb a 13 (vp_V [Value.ref H.size, Value.ref (H.size + 1), Value.ref (H.size + 2), Value.ref (H.size + 3), Value.ref (H.size + 4), Value.ref (H.size + 5), Value.int 0, Value.int 0, Value.int 0, Value.ref (H.size + 6), Value.int 0, Value.int 0, Value.int 0, Value.int 0, Value.int 0, Value.int 0, Value.int 0, Value.int (-1), Value.int 0, Value.ref (H.size + 7), Value.ref (H.size + 8), Value.ref (H.size + 9), Value.null, Value.null, Value.null, Value.int 0, Value.int 0, Value.int 0, Value.null, Value.int 0])) (f0 : hA G Hb H.size 0 484 (.inl (fun _ => 0))) (f1 : hA G Hb (H.size + 1) 0 484 (.inl (fun _ => 0))) (f2 : hA G Hb (H.size + 2) 0 484 (.inl (fun _ => 0))) (f3 : hA G Hb (H.size + 3) 0 3872 (.inl (fun _ => 0))) (f4 : hA G Hb (H.size + 4) 0 968 (.inl (fun _ => 0))) (f5 : hA G Hb (H.size + 5) 2 2 (.inl (fun _ => 0))) (f6 : hA G Hb (H.size + 6) 0 500 (.inl (fun _ => 0))) (f7 : hA G Hb (H.size + 7) 0 64 (.inl (fun _ => 0))) (f8 : hA G Hb (H.size + 8) 0 64 (.inl (fun _ => 0))) (f9 : hA G Hb (H.size + 9) 0 64 (.inl (fun _ => 0))) (hk : ∀ H1 : Heap, H1.size = H.size + 13 → (∀ q, q < H.size → q ≠ a → H1[q]? = H[q]?) → (hO G H1 a 13 (vp_V [Value.ref H.size, Value.ref (H.size + 1), Value.ref (H.size + 2), Value.ref (H.size + 3), Value.ref (H.size + 4), Value.ref (H.size + 5), Value.int 0, Value.int 0, Value.int 0, Value.ref (H.size + 6), Value.int 0, Value.int 0, Value.int 0, Value.int 0, Value.int 0, Value.int 0, Value.int 0, Value.int (-1), Value.int 0, Value.ref (H.size + 7), Value.ref (H.size + 8), Value.ref (H.size + 9), Value.ref (H.size + 10), Value.ref (H.size + 11), Value.ref (H.size + 12), Value.int 0, Value.int 0, Value.int 0, Value.null, Value.int 0])) → (hA G H1 H.size 0 484 (.inl (fun _ => 0))) → (hA G H1 (H.size + 1) 0 484 (.inl (fun _ => 0))) → (hA G H1 (H.size + 2) 0 484 (.inl (fun _ => 0))) → (hA G H1 (H.size + 3) 0 3872 (.inl (fun _ => 0))) → (hA G H1 (H.size + 4) 0 968 (.inl (fun _ => 0))) → (hA G H1 (H.size + 5) 2 2 (.inl (fun _ => 0))) → (hA G H1 (H.size + 6) 0 500 (.inl (fun _ => 0))) → (hA G H1 (H.size + 7) 0 64 (.inl (fun _ => 0))) → (hA G H1 (H.size + 8) 0 64 (.inl (fun _ => 0))) → (hA G H1 (H.size + 9) 0 64 (.inl (fun _ => 0))) → (hA G H1 (H.size + 10) 0 64 (.inl (fun _ => 0))) → (hA G H1 (H.size + 11) 0 2 (.inl (fun _ => 0))) → (hA G H1 (H.size + 12) 0 2 (.inl (fun _ => 0))) → hAt l G Y_X9_init (hEM G Y_X9_init 14 7454 K) 116 [(0, Value.ref a)] [] H1 13 7054) : hAt l G Y_X9_init (hEM G Y_X9_init 14 7454 K) 94 [(0, Value.ref a)] [] Hb 10 6986 := by
  have hE : ∀ {mc ms : Nat} {K : hK}, zRm Y_X9_init (hEM G Y_X9_init mc ms K).1 := zRm_M
  refine H_aload_n dX9_init_94 rfl 0 rfl ?_
  refine H_bipush (v := 64) rfl dX9_init_95 ?_
  refine H_newa (at_ := .int) (t := 0) (n := 64) (z := .inl (fun _ => 0)) (by decide) rfl zw_183 rfl (fun _ => rfl) (by decide) (by show 11 ≤ 14; omega) (by show 7050 ≤ 7454; omega) dX9_init_97 (fun H22 z22 o22 f10 => ?_)
  rw [zb] at z22 o22 f10 ⊢
  have z22 : H22.size = H.size + 11 := by omega
  replace ho := ho.kept (o22 a (by omega))
  replace f0 := (o22 H.size (by omega)).trans f0
  replace f1 := (o22 (H.size + 1) (by omega)).trans f1
  replace f2 := (o22 (H.size + 2) (by omega)).trans f2
  replace f3 := (o22 (H.size + 3) (by omega)).trans f3
  replace f4 := (o22 (H.size + 4) (by omega)).trans f4
  replace f5 := (o22 (H.size + 5) (by omega)).trans f5
  replace f6 := (o22 (H.size + 6) (by omega)).trans f6
  replace f7 := (o22 (H.size + 7) (by omega)).trans f7
  replace f8 := (o22 (H.size + 8) (by omega)).trans f8
  replace f9 := (o22 (H.size + 9) (by omega)).trans f9
  refine H_putV (fs2 := [Value.ref H.size, Value.ref (H.size + 1), Value.ref (H.size + 2), Value.ref (H.size + 3), Value.ref (H.size + 4), Value.ref (H.size + 5), Value.int 0, Value.int 0, Value.int 0, Value.ref (H.size + 6), Value.int 0, Value.int 0, Value.int 0, Value.int 0, Value.int 0, Value.int 0, Value.int 0, Value.int (-1), Value.int 0, Value.ref (H.size + 7), Value.ref (H.size + 8), Value.ref (H.size + 9), Value.ref (H.size + 10), Value.null, Value.null, Value.int 0, Value.int 0, Value.int 0, Value.null, Value.int 0]) hfp_X9_X9_45 (fun _ => rfl) ho rfl (zle rfl) rfl rfl (by omega) dX9_init_99 (fun H23 z23 o23 hoN => ?_)
  have z23 : H23.size = H.size + 11 := by omega
  replace f0 := (o23 H.size (by omega)).trans f0
  replace f1 := (o23 (H.size + 1) (by omega)).trans f1
  replace f2 := (o23 (H.size + 2) (by omega)).trans f2
  replace f3 := (o23 (H.size + 3) (by omega)).trans f3
  replace f4 := (o23 (H.size + 4) (by omega)).trans f4
  replace f5 := (o23 (H.size + 5) (by omega)).trans f5
  replace f6 := (o23 (H.size + 6) (by omega)).trans f6
  replace f7 := (o23 (H.size + 7) (by omega)).trans f7
  replace f8 := (o23 (H.size + 8) (by omega)).trans f8
  replace f9 := (o23 (H.size + 9) (by omega)).trans f9
  replace f10 := (o23 (H.size + 10) (by omega)).trans f10
  have ho := hoN
  refine H_aload_n dX9_init_102 rfl 0 rfl ?_
  refine H_iconst (v := 2) rfl dX9_init_103 ?_
  refine H_newa (at_ := .int) (t := 0) (n := 2) (z := .inl (fun _ => 0)) (by decide) rfl zw_183 rfl (fun _ => rfl) (by decide) (by show 12 ≤ 14; omega) (by show 7052 ≤ 7454; omega) dX9_init_104 (fun H24 z24 o24 f11 => ?_)
  rw [z23] at z24 o24 f11 ⊢
  have z24 : H24.size = H.size + 12 := by omega
  replace ho := ho.kept (o24 a (by omega))
  replace f0 := (o24 H.size (by omega)).trans f0
  replace f1 := (o24 (H.size + 1) (by omega)).trans f1
  replace f2 := (o24 (H.size + 2) (by omega)).trans f2
  replace f3 := (o24 (H.size + 3) (by omega)).trans f3
  replace f4 := (o24 (H.size + 4) (by omega)).trans f4
  replace f5 := (o24 (H.size + 5) (by omega)).trans f5
  replace f6 := (o24 (H.size + 6) (by omega)).trans f6
  replace f7 := (o24 (H.size + 7) (by omega)).trans f7
  replace f8 := (o24 (H.size + 8) (by omega)).trans f8
  replace f9 := (o24 (H.size + 9) (by omega)).trans f9
  replace f10 := (o24 (H.size + 10) (by omega)).trans f10
  refine H_putV (fs2 := [Value.ref H.size, Value.ref (H.size + 1), Value.ref (H.size + 2), Value.ref (H.size + 3), Value.ref (H.size + 4), Value.ref (H.size + 5), Value.int 0, Value.int 0, Value.int 0, Value.ref (H.size + 6), Value.int 0, Value.int 0, Value.int 0, Value.int 0, Value.int 0, Value.int 0, Value.int 0, Value.int (-1), Value.int 0, Value.ref (H.size + 7), Value.ref (H.size + 8), Value.ref (H.size + 9), Value.ref (H.size + 10), Value.ref (H.size + 11), Value.null, Value.int 0, Value.int 0, Value.int 0, Value.null, Value.int 0]) hfp_X9_X9_48 (fun _ => rfl) ho rfl (zle rfl) rfl rfl (by omega) dX9_init_106 (fun H25 z25 o25 hoN => ?_)
  have z25 : H25.size = H.size + 12 := by omega
  replace f0 := (o25 H.size (by omega)).trans f0
  replace f1 := (o25 (H.size + 1) (by omega)).trans f1
  replace f2 := (o25 (H.size + 2) (by omega)).trans f2
  replace f3 := (o25 (H.size + 3) (by omega)).trans f3
  replace f4 := (o25 (H.size + 4) (by omega)).trans f4
  replace f5 := (o25 (H.size + 5) (by omega)).trans f5
  replace f6 := (o25 (H.size + 6) (by omega)).trans f6
  replace f7 := (o25 (H.size + 7) (by omega)).trans f7
  replace f8 := (o25 (H.size + 8) (by omega)).trans f8
  replace f9 := (o25 (H.size + 9) (by omega)).trans f9
  replace f10 := (o25 (H.size + 10) (by omega)).trans f10
  replace f11 := (o25 (H.size + 11) (by omega)).trans f11
  have ho := hoN
  refine H_aload_n dX9_init_109 rfl 0 rfl ?_
  refine H_iconst (v := 2) rfl dX9_init_110 ?_
  refine H_newa (at_ := .int) (t := 0) (n := 2) (z := .inl (fun _ => 0)) (by decide) rfl zw_183 rfl (fun _ => rfl) (by decide) (by show 13 ≤ 14; omega) (by show 7054 ≤ 7454; omega) dX9_init_111 (fun H26 z26 o26 f12 => ?_)
  rw [z25] at z26 o26 f12 ⊢
  have z26 : H26.size = H.size + 13 := by omega
  replace ho := ho.kept (o26 a (by omega))
  replace f0 := (o26 H.size (by omega)).trans f0
  replace f1 := (o26 (H.size + 1) (by omega)).trans f1
  replace f2 := (o26 (H.size + 2) (by omega)).trans f2
  replace f3 := (o26 (H.size + 3) (by omega)).trans f3
  replace f4 := (o26 (H.size + 4) (by omega)).trans f4
  replace f5 := (o26 (H.size + 5) (by omega)).trans f5
  replace f6 := (o26 (H.size + 6) (by omega)).trans f6
  replace f7 := (o26 (H.size + 7) (by omega)).trans f7
  replace f8 := (o26 (H.size + 8) (by omega)).trans f8
  replace f9 := (o26 (H.size + 9) (by omega)).trans f9
  replace f10 := (o26 (H.size + 10) (by omega)).trans f10
  replace f11 := (o26 (H.size + 11) (by omega)).trans f11
  refine H_putV (fs2 := [Value.ref H.size, Value.ref (H.size + 1), Value.ref (H.size + 2), Value.ref (H.size + 3), Value.ref (H.size + 4), Value.ref (H.size + 5), Value.int 0, Value.int 0, Value.int 0, Value.ref (H.size + 6), Value.int 0, Value.int 0, Value.int 0, Value.int 0, Value.int 0, Value.int 0, Value.int 0, Value.int (-1), Value.int 0, Value.ref (H.size + 7), Value.ref (H.size + 8), Value.ref (H.size + 9), Value.ref (H.size + 10), Value.ref (H.size + 11), Value.ref (H.size + 12), Value.int 0, Value.int 0, Value.int 0, Value.null, Value.int 0]) hfp_X9_X9_51 (fun _ => rfl) ho rfl (zle rfl) rfl rfl (by omega) dX9_init_113 (fun H27 z27 o27 hoN => ?_)
  have z27 : H27.size = H.size + 13 := by omega
  replace f0 := (o27 H.size (by omega)).trans f0
  replace f1 := (o27 (H.size + 1) (by omega)).trans f1
  replace f2 := (o27 (H.size + 2) (by omega)).trans f2
  replace f3 := (o27 (H.size + 3) (by omega)).trans f3
  replace f4 := (o27 (H.size + 4) (by omega)).trans f4
  replace f5 := (o27 (H.size + 5) (by omega)).trans f5
  replace f6 := (o27 (H.size + 6) (by omega)).trans f6
  replace f7 := (o27 (H.size + 7) (by omega)).trans f7
  replace f8 := (o27 (H.size + 8) (by omega)).trans f8
  replace f9 := (o27 (H.size + 9) (by omega)).trans f9
  replace f10 := (o27 (H.size + 10) (by omega)).trans f10
  replace f11 := (o27 (H.size + 11) (by omega)).trans f11
  replace f12 := (o27 (H.size + 12) (by omega)).trans f12
  have ho := hoN
  exact hk H27 (by omega) (fun q hq hqa => ((o27 q (by omega)).trans ((o26 q (by omega)).trans ((o25 q (by omega)).trans ((o24 q (by omega)).trans ((o23 q (by omega)).trans (o22 q (by omega))))))).trans (old q hq hqa)) ho f0 f1 f2 f3 f4 f5 f6 f7 f8 f9 f10 f11 f12
theorem cs9_5 {K : hK} {a : Nat} (haz : zfr G a) (hz : gz G ≤ H.size ∧ ga G 50 0 < H.size ∧ ga G 51 0 < H.size) (hal : a < H.size) {Hb : Heap} (zb : Hb.size = H.size + 13) (old : ∀ q, q < H.size → q ≠ a → Hb[q]? = H[q]?) (ho : hO G Hb a 13 (vp_V [Value.ref H.size, Value.ref (H.size + 1), Value.ref (H.size + 2), Value.ref (H.size + 3), Value.ref (H.size + 4), Value.ref (H.size + 5), Value.int 0, Value.int 0, Value.int 0, Value.ref (H.size + 6), Value.int 0, Value.int 0, Value.int 0, Value.int 0, Value.int 0, Value.int 0, Value.int 0, Value.int (-1), Value.int 0, Value.ref (H.size + 7), Value.ref (H.size + 8), Value.ref (H.size + 9), Value.ref (H.size + 10), Value.ref (H.size + 11), Value.ref (H.size + 12), Value.int 0, Value.int 0, Value.int 0, Value.null, Value.int 0])) (f0 : hA G Hb H.size 0 484 (.inl (fun _ => 0))) (f1 : hA G Hb (H.size + 1) 0 484 (.inl (fun _ => 0))) (f2 : hA G Hb (H.size + 2) 0 484 (.inl (fun _ => 0))) (f3 : hA G Hb (H.size + 3) 0 3872 (.inl (fun _ => 0))) (f4 : hA G Hb (H.size + 4) 0 968 (.inl (fun _ => 0))) (f5 : hA G Hb (H.size + 5) 2 2 (.inl (fun _ => 0))) (f6 : hA G Hb (H.size + 6) 0 500 (.inl (fun _ => 0))) (f7 : hA G Hb (H.size + 7) 0 64 (.inl (fun _ => 0))) (f8 : hA G Hb (H.size + 8) 0 64 (.inl (fun _ => 0))) (f9 : hA G Hb (H.size + 9) 0 64 (.inl (fun _ => 0))) (f10 : hA G Hb (H.size + 10) 0 64 (.inl (fun _ => 0))) (f11 : hA G Hb (H.size + 11) 0 2 (.inl (fun _ => 0))) (f12 : hA G Hb (H.size + 12) 0 2 (.inl (fun _ => 0))) (hk : ∀ H1 : Heap, H1.size = H.size + 14 → (∀ q, q < H.size → q ≠ a → H1[q]? = H[q]?) → (hO G H1 a 13 (vp_V [Value.ref H.size, Value.ref (H.size + 1), Value.ref (H.size + 2), Value.ref (H.size + 3), Value.ref (H.size + 4), Value.ref (H.size + 5), Value.int 0, Value.int 0, Value.int 0, Value.ref (H.size + 6), Value.int 0, Value.int 0, Value.int 0, Value.int 0, Value.int 0, Value.int 0, Value.int 0, Value.int (-1), Value.int 0, Value.ref (H.size + 7), Value.ref (H.size + 8), Value.ref (H.size + 9), Value.ref (H.size + 10), Value.ref (H.size + 11), Value.ref (H.size + 12), Value.int 0, Value.int 0, Value.int 0, Value.ref (H.size + 13), Value.int 0])) → (hA G H1 H.size 0 484 (.inl (fun _ => 0))) → (hA G H1 (H.size + 1) 0 484 (.inl (fun _ => 0))) → (hA G H1 (H.size + 2) 0 484 (.inl (fun _ => 0))) → (hA G H1 (H.size + 3) 0 3872 (.inl (fun _ => 0))) → (hA G H1 (H.size + 4) 0 968 (.inl (fun _ => 0))) → (hA G H1 (H.size + 5) 2 2 (.inl (fun _ => 0))) → (hA G H1 (H.size + 6) 0 500 (.inl (fun _ => 0))) → (hA G H1 (H.size + 7) 0 64 (.inl (fun _ => 0))) → (hA G H1 (H.size + 8) 0 64 (.inl (fun _ => 0))) → (hA G H1 (H.size + 9) 0 64 (.inl (fun _ => 0))) → (hA G H1 (H.size + 10) 0 64 (.inl (fun _ => 0))) → (hA G H1 (H.size + 11) 0 2 (.inl (fun _ => 0))) → (hA G H1 (H.size + 12) 0 2 (.inl (fun _ => 0))) → (hA G H1 (H.size + 13) 0 400 (.inl (fun _ => 0))) → hAt l G Y_X9_init (hEM G Y_X9_init 14 7454 K) 126 [(0, Value.ref a)] [Value.ref a] H1 14 7454) : hAt l G Y_X9_init (hEM G Y_X9_init 14 7454 K) 116 [(0, Value.ref a)] [] Hb 13 7054 := by
  have hE : ∀ {mc ms : Nat} {K : hK}, zRm Y_X9_init (hEM G Y_X9_init mc ms K).1 := zRm_M
  refine H_aload_n dX9_init_116 rfl 0 rfl ?_
  refine H_sipush (v := 400) rfl dX9_init_117 ?_
  refine H_newa (at_ := .int) (t := 0) (n := 400) (z := .inl (fun _ => 0)) (by decide) rfl zw_183 rfl (fun _ => rfl) (by decide) (by show 14 ≤ 14; omega) (by show 7454 ≤ 7454; omega) dX9_init_120 (fun H28 z28 o28 f13 => ?_)
  rw [zb] at z28 o28 f13 ⊢
  have z28 : H28.size = H.size + 14 := by omega
  replace ho := ho.kept (o28 a (by omega))
  replace f0 := (o28 H.size (by omega)).trans f0
  replace f1 := (o28 (H.size + 1) (by omega)).trans f1
  replace f2 := (o28 (H.size + 2) (by omega)).trans f2
  replace f3 := (o28 (H.size + 3) (by omega)).trans f3
  replace f4 := (o28 (H.size + 4) (by omega)).trans f4
  replace f5 := (o28 (H.size + 5) (by omega)).trans f5
  replace f6 := (o28 (H.size + 6) (by omega)).trans f6
  replace f7 := (o28 (H.size + 7) (by omega)).trans f7
  replace f8 := (o28 (H.size + 8) (by omega)).trans f8
  replace f9 := (o28 (H.size + 9) (by omega)).trans f9
  replace f10 := (o28 (H.size + 10) (by omega)).trans f10
  replace f11 := (o28 (H.size + 11) (by omega)).trans f11
  replace f12 := (o28 (H.size + 12) (by omega)).trans f12
  refine H_putV (fs2 := [Value.ref H.size, Value.ref (H.size + 1), Value.ref (H.size + 2), Value.ref (H.size + 3), Value.ref (H.size + 4), Value.ref (H.size + 5), Value.int 0, Value.int 0, Value.int 0, Value.ref (H.size + 6), Value.int 0, Value.int 0, Value.int 0, Value.int 0, Value.int 0, Value.int 0, Value.int 0, Value.int (-1), Value.int 0, Value.ref (H.size + 7), Value.ref (H.size + 8), Value.ref (H.size + 9), Value.ref (H.size + 10), Value.ref (H.size + 11), Value.ref (H.size + 12), Value.int 0, Value.int 0, Value.int 0, Value.ref (H.size + 13), Value.int 0]) hfp_X9_X9_54 (fun _ => rfl) ho rfl (zle rfl) rfl rfl (by omega) dX9_init_122 (fun H29 z29 o29 hoN => ?_)
  have z29 : H29.size = H.size + 14 := by omega
  replace f0 := (o29 H.size (by omega)).trans f0
  replace f1 := (o29 (H.size + 1) (by omega)).trans f1
  replace f2 := (o29 (H.size + 2) (by omega)).trans f2
  replace f3 := (o29 (H.size + 3) (by omega)).trans f3
  replace f4 := (o29 (H.size + 4) (by omega)).trans f4
  replace f5 := (o29 (H.size + 5) (by omega)).trans f5
  replace f6 := (o29 (H.size + 6) (by omega)).trans f6
  replace f7 := (o29 (H.size + 7) (by omega)).trans f7
  replace f8 := (o29 (H.size + 8) (by omega)).trans f8
  replace f9 := (o29 (H.size + 9) (by omega)).trans f9
  replace f10 := (o29 (H.size + 10) (by omega)).trans f10
  replace f11 := (o29 (H.size + 11) (by omega)).trans f11
  replace f12 := (o29 (H.size + 12) (by omega)).trans f12
  replace f13 := (o29 (H.size + 13) (by omega)).trans f13
  have ho := hoN
  refine H_aload_n dX9_init_125 rfl 0 rfl ?_
  exact hk H29 (by omega) (fun q hq hqa => ((o29 q (by omega)).trans (o28 q (by omega))).trans (old q hq hqa)) ho f0 f1 f2 f3 f4 f5 f6 f7 f8 f9 f10 f11 f12 f13
theorem cs9_6 {a : Nat} (haz : zfr G a) (hz : gz G ≤ H.size ∧ ga G 50 0 < H.size ∧ ga G 51 0 < H.size) (hal : a < H.size) {Hb : Heap} (zb : Hb.size = H.size + 14) (old : ∀ q, q < H.size → q ≠ a → Hb[q]? = H[q]?) (ho : hO G Hb a 13 (vp_V [Value.ref H.size, Value.ref (H.size + 1), Value.ref (H.size + 2), Value.ref (H.size + 3), Value.ref (H.size + 4), Value.ref (H.size + 5), Value.int 0, Value.int 0, Value.int 0, Value.ref (H.size + 6), Value.int 0, Value.int 0, Value.int 0, Value.int 0, Value.int 0, Value.int 0, Value.int 0, Value.int (-1), Value.int 0, Value.ref (H.size + 7), Value.ref (H.size + 8), Value.ref (H.size + 9), Value.ref (H.size + 10), Value.ref (H.size + 11), Value.ref (H.size + 12), Value.int 0, Value.int 0, Value.int 0, Value.ref (H.size + 13), Value.int 0])) (f0 : hA G Hb H.size 0 484 (.inl (fun _ => 0))) (f1 : hA G Hb (H.size + 1) 0 484 (.inl (fun _ => 0))) (f2 : hA G Hb (H.size + 2) 0 484 (.inl (fun _ => 0))) (f3 : hA G Hb (H.size + 3) 0 3872 (.inl (fun _ => 0))) (f4 : hA G Hb (H.size + 4) 0 968 (.inl (fun _ => 0))) (f5 : hA G Hb (H.size + 5) 2 2 (.inl (fun _ => 0))) (f6 : hA G Hb (H.size + 6) 0 500 (.inl (fun _ => 0))) (f7 : hA G Hb (H.size + 7) 0 64 (.inl (fun _ => 0))) (f8 : hA G Hb (H.size + 8) 0 64 (.inl (fun _ => 0))) (f9 : hA G Hb (H.size + 9) 0 64 (.inl (fun _ => 0))) (f10 : hA G Hb (H.size + 10) 0 64 (.inl (fun _ => 0))) (f11 : hA G Hb (H.size + 11) 0 2 (.inl (fun _ => 0))) (f12 : hA G Hb (H.size + 12) 0 2 (.inl (fun _ => 0))) (f13 : hA G Hb (H.size + 13) 0 400 (.inl (fun _ => 0))) : hAt l G Y_X9_init (hEM G Y_X9_init 14 7454 (fun r H1 => r = none ∧ H1.size = H.size + 14 ∧ (∀ q, q < H.size → q ≠ a → H1[q]? = H[q]?) ∧ X9w G H a H1)) 126 [(0, Value.ref a)] [Value.ref a] Hb 14 7454 := by
  have hE : ∀ {mc ms : Nat} {K : hK}, zRm Y_X9_init (hEM G Y_X9_init mc ms K).1 := zRm_M
  refine H_callV (as := []) (st := []) (mc' := 0) (ms' := 0) hE hcv_X9_init_X9_begins_57 rfl ho.rc rfl rfl (zle rfl) dX9_init_126 ⟨by show 14 ≤ 14; omega, by show 7454 ≤ 7454; omega⟩ (ct_begins ho f0 (zfr_gt (by omega)) (by omega)) (fun r30 H30 q30 => ?_)
  obtain ⟨rfl, z30, o30, g, f0, hg⟩ := q30
  have z30 : H30.size = H.size + 14 := by omega
  replace ho := ho.kept (o30 a (by omega))
  replace f1 := (o30 (H.size + 1) (by omega)).trans f1
  replace f2 := (o30 (H.size + 2) (by omega)).trans f2
  replace f3 := (o30 (H.size + 3) (by omega)).trans f3
  replace f4 := (o30 (H.size + 4) (by omega)).trans f4
  replace f5 := (o30 (H.size + 5) (by omega)).trans f5
  replace f6 := (o30 (H.size + 6) (by omega)).trans f6
  replace f7 := (o30 (H.size + 7) (by omega)).trans f7
  replace f8 := (o30 (H.size + 8) (by omega)).trans f8
  replace f9 := (o30 (H.size + 9) (by omega)).trans f9
  replace f10 := (o30 (H.size + 10) (by omega)).trans f10
  replace f11 := (o30 (H.size + 11) (by omega)).trans f11
  replace f12 := (o30 (H.size + 12) (by omega)).trans f12
  replace f13 := (o30 (H.size + 13) (by omega)).trans f13
  refine H_aload_n dX9_init_129 rfl 0 rfl ?_
  refine H_getV hfl_X9_X9_9 ho rfl dX9_init_130 ?_
  refine H_iconst (v := 0) rfl dX9_init_133 ?_
  refine H_bipush (v := 20) rfl dX9_init_134 ?_
  refine H_iast f0 (ti_in (by decide)) (zfr_gt (by omega)) dX9_init_136 (fun H31 z31 o31 f0N => ?_)
  have z31 : H31.size = H.size + 14 := by omega
  replace ho := ho.kept (o31 a (by omega))
  replace f1 := (o31 (H.size + 1) (by omega)).trans f1
  replace f2 := (o31 (H.size + 2) (by omega)).trans f2
  replace f3 := (o31 (H.size + 3) (by omega)).trans f3
  replace f4 := (o31 (H.size + 4) (by omega)).trans f4
  replace f5 := (o31 (H.size + 5) (by omega)).trans f5
  replace f6 := (o31 (H.size + 6) (by omega)).trans f6
  replace f7 := (o31 (H.size + 7) (by omega)).trans f7
  replace f8 := (o31 (H.size + 8) (by omega)).trans f8
  replace f9 := (o31 (H.size + 9) (by omega)).trans f9
  replace f10 := (o31 (H.size + 10) (by omega)).trans f10
  replace f11 := (o31 (H.size + 11) (by omega)).trans f11
  replace f12 := (o31 (H.size + 12) (by omega)).trans f12
  replace f13 := (o31 (H.size + 13) (by omega)).trans f13
  replace f0 := f0N; clear f0N
  refine H_aload_n dX9_init_137 rfl 0 rfl ?_
  refine H_getV hfl_X9_X9_9 ho rfl dX9_init_138 ?_
  refine H_iconst (v := 1) rfl dX9_init_141 ?_
  refine H_iconst (v := 1) rfl dX9_init_142 ?_
  refine H_iast f0 (ti_in (by decide)) (zfr_gt (by omega)) dX9_init_143 (fun H32 z32 o32 f0N => ?_)
  have z32 : H32.size = H.size + 14 := by omega
  replace ho := ho.kept (o32 a (by omega))
  replace f1 := (o32 (H.size + 1) (by omega)).trans f1
  replace f2 := (o32 (H.size + 2) (by omega)).trans f2
  replace f3 := (o32 (H.size + 3) (by omega)).trans f3
  replace f4 := (o32 (H.size + 4) (by omega)).trans f4
  replace f5 := (o32 (H.size + 5) (by omega)).trans f5
  replace f6 := (o32 (H.size + 6) (by omega)).trans f6
  replace f7 := (o32 (H.size + 7) (by omega)).trans f7
  replace f8 := (o32 (H.size + 8) (by omega)).trans f8
  replace f9 := (o32 (H.size + 9) (by omega)).trans f9
  replace f10 := (o32 (H.size + 10) (by omega)).trans f10
  replace f11 := (o32 (H.size + 11) (by omega)).trans f11
  replace f12 := (o32 (H.size + 12) (by omega)).trans f12
  replace f13 := (o32 (H.size + 13) (by omega)).trans f13
  replace f0 := f0N; clear f0N
  refine H_vret rfl dX9_init_144 (by show 14 ≤ 14; omega) (by show 7454 ≤ 7454; omega) ⟨rfl, z32, fun q hq hqa => ((o32 q (by omega)).trans ((o31 q (by omega)).trans (o30 q (by omega)))).trans (old q hq hqa), X9w.mk ho ⟨_, f0, fun k hk => ?_⟩ f1 f2 f3 f4 f5 f6 f7 f8 f9 f10 f11 f12 f13⟩
  have hg := hg k hk
  show upd (upd g 0 20) 1 1 k = _
  unfold upd
  by_cases c1 : k = 1
  · rw [if_pos c1, c1]; rfl
  · rw [if_neg c1]
    by_cases c0 : k = 0
    · rw [if_pos c0, c0]; rfl
    · rw [if_neg c0, hg]; exact wB0_00 c0 c1
theorem ct_X9 {a : Nat} (ho : hO G H a 13 (vp_V [Value.null, Value.null, Value.null, Value.null, Value.null, Value.null, Value.int 0, Value.int 0, Value.int 0, Value.null, Value.int 0, Value.int 0, Value.int 0, Value.int 0, Value.int 0, Value.int 0, Value.int 0, Value.int 0, Value.int 0, Value.null, Value.null, Value.null, Value.null, Value.null, Value.null, Value.int 0, Value.int 0, Value.int 0, Value.null, Value.int 0])) (haz : zfr G a) (hz : gz G ≤ H.size ∧ ga G 50 0 < H.size ∧ ga G 51 0 < H.size) : hCal l G Y_X9_init 14 7454 [Value.ref a] H (fun r H1 => r = none ∧ H1.size = H.size + 14 ∧ (∀ q, q < H.size → q ≠ a → H1[q]? = H[q]?) ∧ X9w G H a H1) := by
  refine hCal_of (by decide) rfl (zle rfl) rfl ?_
  have hE : ∀ {mc ms : Nat} {K : hK}, zRm Y_X9_init (hEM G Y_X9_init mc ms K).1 := zRm_M
  have hal := ho.lt
  refine H_aload_n dX9_init_0 rfl 0 rfl ?_
  refine H_objInit zw_1589 zw_146 zw_147 hE (by decide) (zle rfl) dX9_init_1 ?_
  refine cs9_0 haz hz hal ho (fun H0 z0 o0 ho0 f00 f10 f20 => ?_)
  refine cs9_1 haz hz hal z0 o0 ho0 f00 f10 f20 (fun H1 z1 o1 ho1 f01 f11 f21 f31 f41 f51 => ?_)
  clear ho0 f00 f10 f20
  refine cs9_2 haz hz hal z1 o1 ho1 f01 f11 f21 f31 f41 f51 (fun H2 z2 o2 ho2 f02 f12 f22 f32 f42 f52 f62 => ?_)
  clear ho1 f01 f11 f21 f31 f41 f51
  refine cs9_3 haz hz hal z2 o2 ho2 f02 f12 f22 f32 f42 f52 f62 (fun H3 z3 o3 ho3 f03 f13 f23 f33 f43 f53 f63 f73 f83 f93 => ?_)
  clear ho2 f02 f12 f22 f32 f42 f52 f62
  refine cs9_4 haz hz hal z3 o3 ho3 f03 f13 f23 f33 f43 f53 f63 f73 f83 f93 (fun H4 z4 o4 ho4 f04 f14 f24 f34 f44 f54 f64 f74 f84 f94 f104 f114 f124 => ?_)
  clear ho3 f03 f13 f23 f33 f43 f53 f63 f73 f83 f93
  refine cs9_5 haz hz hal z4 o4 ho4 f04 f14 f24 f34 f44 f54 f64 f74 f84 f94 f104 f114 f124 (fun H5 z5 o5 ho5 f05 f15 f25 f35 f45 f55 f65 f75 f85 f95 f105 f115 f125 f135 => ?_)
  clear ho4 f04 f14 f24 f34 f44 f54 f64 f74 f84 f94 f104 f114 f124
  exact cs9_6 haz hz hal z5 o5 ho5 f05 f15 f25 f35 f45 f55 f65 f75 f85 f95 f105 f115 f125 f135
end HCT5
