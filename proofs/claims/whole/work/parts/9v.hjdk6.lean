/-! printed by wip/whole/h_*.py -/
abbrev Y_J2_compress_fe38e : zY := (yJ2_compress_fe38e, cJ2_compress_fe38e, 7, (some .int), 4, [])
abbrev Y_J2_coderFromArrayLen_85cad : zY := (yJ2_coderFromArrayLen_85cad, cJ2_coderFromArrayLen_85cad, 2, (some .byte), 2, [])
abbrev Y_J2_compress_dfd3c : zY := (yJ2_compress_dfd3c, cJ2_compress_dfd3c, 6, (some (.array .byte)), 10, [])
theorem zw_667 : Cond.methodLink RJ2 115 yJ2_compress_fe38e ∈ zAll := zin 667 (by decide +kernel) (by decide +kernel)
theorem zw_669 : Cond.code yJ2_compress_fe38e cJ2_compress_fe38e 7 (some .int) ∈ zAll := zin 669 (by decide +kernel) (by decide +kernel)
theorem zw_668 : Cond.static yJ2_compress_fe38e ∈ zAll := zin 668 (by decide +kernel) (by decide +kernel)
theorem zw_123 : Cond.initialized RJ2 ∈ zAll := zin 123 (by decide +kernel) (by decide +kernel)
theorem hcs_J2_compress_dfd3c_J2_compress_fe38e_115 : zLS Y_J2_compress_dfd3c 115 Y_J2_compress_fe38e 5 := ⟨zw_667, zw_668, zw_123, zw_669, by decide +kernel, by decide, by decide⟩
theorem dJ2_coderFromArrayLen_85cad_0 : decode cJ2_coderFromArrayLen_85cad 0 = .ok (.iload_n 1, 1) := by decide +kernel
theorem dJ2_coderFromArrayLen_85cad_1 : decode cJ2_coderFromArrayLen_85cad 1 = .ok (.aload_n 0, 1) := by decide +kernel
theorem dJ2_coderFromArrayLen_85cad_2 : decode cJ2_coderFromArrayLen_85cad 2 = .ok (.arraylength, 1) := by decide +kernel
theorem dJ2_coderFromArrayLen_85cad_3 : decode cJ2_coderFromArrayLen_85cad 3 = .ok (.isub, 1) := by decide +kernel
theorem dJ2_coderFromArrayLen_85cad_4 : decode cJ2_coderFromArrayLen_85cad 4 = .ok (.bipush 31, 2) := by decide +kernel
theorem dJ2_coderFromArrayLen_85cad_6 : decode cJ2_coderFromArrayLen_85cad 6 = .ok (.iushr, 1) := by decide +kernel
theorem dJ2_coderFromArrayLen_85cad_7 : decode cJ2_coderFromArrayLen_85cad 7 = .ok (.i2b, 1) := by decide +kernel
theorem dJ2_coderFromArrayLen_85cad_8 : decode cJ2_coderFromArrayLen_85cad 8 = .ok (.ireturn, 1) := by decide +kernel
theorem dJ2_compress_dfd3c_0 : decode cJ2_compress_dfd3c 0 = .ok (.iload_n 2, 1) := by decide +kernel
theorem dJ2_compress_dfd3c_1 : decode cJ2_compress_dfd3c 1 = .ok (.newarray .byte, 2) := by decide +kernel
theorem dJ2_compress_dfd3c_3 : decode cJ2_compress_dfd3c 3 = .ok (.astore_n 3, 1) := by decide +kernel
theorem dJ2_compress_dfd3c_4 : decode cJ2_compress_dfd3c 4 = .ok (.aload_n 0, 1) := by decide +kernel
theorem dJ2_compress_dfd3c_5 : decode cJ2_compress_dfd3c 5 = .ok (.iload_n 1, 1) := by decide +kernel
theorem dJ2_compress_dfd3c_6 : decode cJ2_compress_dfd3c 6 = .ok (.aload_n 3, 1) := by decide +kernel
theorem dJ2_compress_dfd3c_7 : decode cJ2_compress_dfd3c 7 = .ok (.iconst 0, 1) := by decide +kernel
theorem dJ2_compress_dfd3c_8 : decode cJ2_compress_dfd3c 8 = .ok (.iload_n 2, 1) := by decide +kernel
theorem dJ2_compress_dfd3c_9 : decode cJ2_compress_dfd3c 9 = .ok (.invokestatic 115, 3) := by decide +kernel
theorem dJ2_compress_dfd3c_12 : decode cJ2_compress_dfd3c 12 = .ok (.istore 4, 2) := by decide +kernel
theorem dJ2_compress_dfd3c_14 : decode cJ2_compress_dfd3c 14 = .ok (.iload 4, 2) := by decide +kernel
theorem dJ2_compress_dfd3c_16 : decode cJ2_compress_dfd3c 16 = .ok (.iload_n 2, 1) := by decide +kernel
theorem dJ2_compress_dfd3c_17 : decode cJ2_compress_dfd3c 17 = .ok (.if_icmp .eq 40, 3) := by decide +kernel
theorem dJ2_compress_dfd3c_20 : decode cJ2_compress_dfd3c 20 = .ok (.aload_n 0, 1) := by decide +kernel
theorem dJ2_compress_dfd3c_21 : decode cJ2_compress_dfd3c 21 = .ok (.iload_n 1, 1) := by decide +kernel
theorem dJ2_compress_dfd3c_22 : decode cJ2_compress_dfd3c 22 = .ok (.iload_n 2, 1) := by decide +kernel
theorem dJ2_compress_dfd3c_23 : decode cJ2_compress_dfd3c 23 = .ok (.invokestatic 119, 3) := by decide +kernel
theorem dJ2_compress_dfd3c_26 : decode cJ2_compress_dfd3c 26 = .ok (.astore 5, 2) := by decide +kernel
theorem dJ2_compress_dfd3c_28 : decode cJ2_compress_dfd3c 28 = .ok (.aload 5, 2) := by decide +kernel
theorem dJ2_compress_dfd3c_30 : decode cJ2_compress_dfd3c 30 = .ok (.iload 4, 2) := by decide +kernel
theorem dJ2_compress_dfd3c_32 : decode cJ2_compress_dfd3c 32 = .ok (.invokestatic 71, 3) := by decide +kernel
theorem dJ2_compress_dfd3c_35 : decode cJ2_compress_dfd3c 35 = .ok (.sipush 255, 3) := by decide +kernel
theorem dJ2_compress_dfd3c_38 : decode cJ2_compress_dfd3c 38 = .ok (.if_icmp .gt 16, 3) := by decide +kernel
theorem dJ2_compress_dfd3c_41 : decode cJ2_compress_dfd3c 41 = .ok (.aload 5, 2) := by decide +kernel
theorem dJ2_compress_dfd3c_43 : decode cJ2_compress_dfd3c 43 = .ok (.iconst 0, 1) := by decide +kernel
theorem dJ2_compress_dfd3c_44 : decode cJ2_compress_dfd3c 44 = .ok (.aload_n 3, 1) := by decide +kernel
theorem dJ2_compress_dfd3c_45 : decode cJ2_compress_dfd3c 45 = .ok (.iconst 0, 1) := by decide +kernel
theorem dJ2_compress_dfd3c_46 : decode cJ2_compress_dfd3c 46 = .ok (.iload_n 2, 1) := by decide +kernel
theorem dJ2_compress_dfd3c_47 : decode cJ2_compress_dfd3c 47 = .ok (.invokestatic 123, 3) := by decide +kernel
theorem dJ2_compress_dfd3c_50 : decode cJ2_compress_dfd3c 50 = .ok (.iload_n 2, 1) := by decide +kernel
theorem dJ2_compress_dfd3c_51 : decode cJ2_compress_dfd3c 51 = .ok (.if_icmp .eq 6, 3) := by decide +kernel
theorem dJ2_compress_dfd3c_54 : decode cJ2_compress_dfd3c 54 = .ok (.aload 5, 2) := by decide +kernel
theorem dJ2_compress_dfd3c_56 : decode cJ2_compress_dfd3c 56 = .ok (.areturn, 1) := by decide +kernel
theorem dJ2_compress_dfd3c_57 : decode cJ2_compress_dfd3c 57 = .ok (.aload_n 3, 1) := by decide +kernel
theorem dJ2_compress_dfd3c_58 : decode cJ2_compress_dfd3c 58 = .ok (.areturn, 1) := by decide +kernel
theorem dJ2_compress_fe38e_0 : decode cJ2_compress_fe38e 0 = .ok (.iconst 0, 1) := by decide +kernel
theorem dJ2_compress_fe38e_1 : decode cJ2_compress_fe38e 1 = .ok (.istore 5, 2) := by decide +kernel
theorem dJ2_compress_fe38e_3 : decode cJ2_compress_fe38e 3 = .ok (.iload 5, 2) := by decide +kernel
theorem dJ2_compress_fe38e_5 : decode cJ2_compress_fe38e 5 = .ok (.iload 4, 2) := by decide +kernel
theorem dJ2_compress_fe38e_7 : decode cJ2_compress_fe38e 7 = .ok (.if_icmp .ge 37, 3) := by decide +kernel
theorem dJ2_compress_fe38e_10 : decode cJ2_compress_fe38e 10 = .ok (.aload_n 0, 1) := by decide +kernel
theorem dJ2_compress_fe38e_11 : decode cJ2_compress_fe38e 11 = .ok (.iload_n 1, 1) := by decide +kernel
theorem dJ2_compress_fe38e_12 : decode cJ2_compress_fe38e 12 = .ok (.caload, 1) := by decide +kernel
theorem dJ2_compress_fe38e_13 : decode cJ2_compress_fe38e 13 = .ok (.istore 6, 2) := by decide +kernel
theorem dJ2_compress_fe38e_15 : decode cJ2_compress_fe38e 15 = .ok (.iload 6, 2) := by decide +kernel
theorem dJ2_compress_fe38e_17 : decode cJ2_compress_fe38e 17 = .ok (.sipush 255, 3) := by decide +kernel
theorem dJ2_compress_fe38e_20 : decode cJ2_compress_fe38e 20 = .ok (.if_icmp .le 6, 3) := by decide +kernel
theorem dJ2_compress_fe38e_23 : decode cJ2_compress_fe38e 23 = .ok (.iload 5, 2) := by decide +kernel
theorem dJ2_compress_fe38e_25 : decode cJ2_compress_fe38e 25 = .ok (.ireturn, 1) := by decide +kernel
theorem dJ2_compress_fe38e_26 : decode cJ2_compress_fe38e 26 = .ok (.aload_n 2, 1) := by decide +kernel
theorem dJ2_compress_fe38e_27 : decode cJ2_compress_fe38e 27 = .ok (.iload_n 3, 1) := by decide +kernel
theorem dJ2_compress_fe38e_28 : decode cJ2_compress_fe38e 28 = .ok (.iload 6, 2) := by decide +kernel
theorem dJ2_compress_fe38e_30 : decode cJ2_compress_fe38e 30 = .ok (.i2b, 1) := by decide +kernel
theorem dJ2_compress_fe38e_31 : decode cJ2_compress_fe38e 31 = .ok (.bastore, 1) := by decide +kernel
theorem dJ2_compress_fe38e_32 : decode cJ2_compress_fe38e 32 = .ok (.iinc 1 1, 3) := by decide +kernel
theorem dJ2_compress_fe38e_35 : decode cJ2_compress_fe38e 35 = .ok (.iinc 3 1, 3) := by decide +kernel
theorem dJ2_compress_fe38e_38 : decode cJ2_compress_fe38e 38 = .ok (.iinc 5 1, 3) := by decide +kernel
theorem dJ2_compress_fe38e_41 : decode cJ2_compress_fe38e 41 = .ok (.goto (-38), 3) := by decide +kernel
theorem dJ2_compress_fe38e_44 : decode cJ2_compress_fe38e 44 = .ok (.iload 4, 2) := by decide +kernel
theorem dJ2_compress_fe38e_46 : decode cJ2_compress_fe38e 46 = .ok (.ireturn, 1) := by decide +kernel
section HJ6
variable {l : Launch} {G : zG} {H : Heap}
theorem hJ_cp5l {u v n : Nat} {f : Nat → Int32} {K : hK} (hn : n ≤ 65536) (hvz : zfr G v) (hne : ¬ u = v) (hf : ∀ i, i < n → ¬ (255 : Int32) < f i) : ∀ (d j : Nat) (H : Heap) (g : Nat → Int32), j + d = n → hA G H u 3 n (.inl f) → hA G H v 4 n (.inl g) →
    (∀ (H1 : Heap) (g' : Nat → Int32), H1.size = H.size → (∀ q, q ≠ v → H1[q]? = H[q]?) → hA G H1 v 4 n (.inl g') → (∀ i, i < j → g' i = g i) → (∀ i, j ≤ i → i < n → g' i = (f i).toInt8.toInt32) → K (some (.int (nI n))) H1) →
    hAt l G Y_J2_compress_fe38e (hEM G Y_J2_compress_fe38e 0 0 K) 3 [(0, Value.ref u), (1, Value.int (nI j)), (2, Value.ref v), (3, Value.int (nI j)), (4, Value.int (nI n)), (5, Value.int (nI j))] [] H 0 0 := by
  intro d
  induction d with
  | zero =>
    intro j H g hj hu hv hP
    refine H_iload dJ2_compress_fe38e_3 5 rfl ?_
    refine H_iload dJ2_compress_fe38e_5 4 rfl ?_
    refine H_icmp_ge (tgt := 44) dJ2_compress_fe38e_7 rfl (fun q => ?_) (fun q => ?_)
    · have hjn : j = n := by rw [ti_le, ti_nI (by omega), ti_nI (by omega)] at q; omega
      subst hjn
      refine H_iload dJ2_compress_fe38e_44 4 rfl ?_
      exact H_iret rfl rfl dJ2_compress_fe38e_46 (by omega) (by omega) (hP H g rfl (fun _ _ => rfl) hv (fun _ _ => rfl) (fun i h1 h2 => by omega))
    · exfalso
      rw [ti_le, ti_nI (by omega), ti_nI (by omega)] at q
      omega
  | succ d ih =>
    intro j H g hj hu hv hP
    refine H_iload dJ2_compress_fe38e_3 5 rfl ?_
    refine H_iload dJ2_compress_fe38e_5 4 rfl ?_
    refine H_icmp_ge (tgt := 44) dJ2_compress_fe38e_7 rfl (fun q => ?_) (fun q => ?_)
    · have hjn : j = n := by rw [ti_le, ti_nI (by omega), ti_nI (by omega)] at q; omega
      subst hjn
      refine H_iload dJ2_compress_fe38e_44 4 rfl ?_
      exact H_iret rfl rfl dJ2_compress_fe38e_46 (by omega) (by omega) (hP H g rfl (fun _ _ => rfl) hv (fun _ _ => rfl) (fun i h1 h2 => by omega))
    · have hjn : j < n := by omega
      refine H_aload_n dJ2_compress_fe38e_10 rfl 0 rfl ?_
      refine H_iload_n dJ2_compress_fe38e_11 rfl 1 rfl ?_
      refine H_cald hu (vp_in_nI (show j < n by omega) (by omega)) dJ2_compress_fe38e_12 ?_
      rw [nI_clamp (show j < 2 ^ 31 by omega)]
      refine H_istore (lv2 := [(6, Value.int (f j)), (0, Value.ref u), (1, Value.int (nI j)), (2, Value.ref v), (3, Value.int (nI j)), (4, Value.int (nI n)), (5, Value.int (nI j))]) dJ2_compress_fe38e_13 (by decide) rfl ?_
      refine H_iload dJ2_compress_fe38e_15 0 rfl ?_
      refine H_sipush (v := 255) rfl dJ2_compress_fe38e_17 ?_
      refine H_icmp_le (tgt := 26) dJ2_compress_fe38e_20 rfl (fun _ => ?_) (fun q9 => absurd (ti_le.mpr (by have := hf j hjn; rw [ti_lt] at this; omega)) q9)
      refine H_aload_n dJ2_compress_fe38e_26 rfl 3 rfl ?_
      refine H_iload_n dJ2_compress_fe38e_27 rfl 4 rfl ?_
      refine H_iload dJ2_compress_fe38e_28 0 rfl ?_
      refine H_i2b dJ2_compress_fe38e_30 ?_
      refine H_bast hv (vp_in_nI (show j < n by omega) (by omega)) hvz dJ2_compress_fe38e_31 (fun H1 z1 o1 h1 => ?_)
      rw [nI_clamp (show j < 2 ^ 31 by omega)] at h1
      refine H_iinc (lv2 := [(1, Value.int ((nI j) + 1)), (6, Value.int (f j)), (0, Value.ref u), (2, Value.ref v), (3, Value.int (nI j)), (4, Value.int (nI n)), (5, Value.int (nI j))]) dJ2_compress_fe38e_32 2 rfl rfl (by decide) rfl ?_
      refine H_iinc (lv2 := [(3, Value.int ((nI j) + 1)), (1, Value.int ((nI j) + 1)), (6, Value.int (f j)), (0, Value.ref u), (2, Value.ref v), (4, Value.int (nI n)), (5, Value.int (nI j))]) dJ2_compress_fe38e_35 4 rfl rfl (by decide) rfl ?_
      refine H_iinc (lv2 := [(5, Value.int ((nI j) + 1)), (3, Value.int ((nI j) + 1)), (1, Value.int ((nI j) + 1)), (6, Value.int (f j)), (0, Value.ref u), (2, Value.ref v), (4, Value.int (nI n))]) dJ2_compress_fe38e_38 6 rfl rfl (by decide) rfl ?_
      refine H_goto (tgt := 3) dJ2_compress_fe38e_41 rfl ?_
      rw [show (nI j + 1 : Int32) = nI (j + 1) from nI_1 j]
      refine H_pick [4, 2, 5, 1, 6, 0] rfl ?_
      have u1 : ∀ i, ¬ i = j → upd g j (f j).toInt8.toInt32.toInt8.toInt32 i = g i := fun i hi => if_neg hi
      have u2 : upd g j (f j).toInt8.toInt32.toInt8.toInt32 j = (f j).toInt8.toInt32 := by rw [show upd g j (f j).toInt8.toInt32.toInt8.toInt32 j = (f j).toInt8.toInt32.toInt8.toInt32 from if_pos rfl, i8_i8]
      refine ih (j + 1) H1 _ (by omega) ((o1 u hne).trans hu) h1 (fun H2 g2 z2 o2 h2 a1 a2 => hP H2 g2 (z2.trans z1) (fun q hq => (o2 q hq).trans (o1 q hq)) h2 (fun i hi => ?_) (fun i hi hi2 => ?_))
      · rw [a1 i (by omega), u1 i (by omega)]
      · rcases Nat.lt_or_ge j i with c | c
        · exact a2 i (by omega) hi2
        · rw [show i = j by omega, a1 j (by omega), u2]
theorem hJ_cp5 {u v n : Nat} {f g : Nat → Int32} {K : hK} (hn : n ≤ 65536) (hvz : zfr G v) (hne : ¬ u = v) (hf : ∀ i, i < n → ¬ (255 : Int32) < f i) (hu : hA G H u 3 n (.inl f)) (hv : hA G H v 4 n (.inl g))
    (hP : ∀ (H1 : Heap) (g' : Nat → Int32), H1.size = H.size → (∀ q, q ≠ v → H1[q]? = H[q]?) → hA G H1 v 4 n (.inl g') → (∀ i, i < n → g' i = (f i).toInt8.toInt32) → K (some (.int (nI n))) H1) : hCal l G Y_J2_compress_fe38e 0 0 [Value.ref u, Value.int 0, Value.ref v, Value.int 0, Value.int (nI n)] H K := by
  refine hCal_of (by decide) rfl (zle rfl) rfl ?_
  have hE : ∀ {mc ms : Nat} {K : hK}, zRm Y_J2_compress_fe38e (hEM G Y_J2_compress_fe38e mc ms K).1 := zRm_M
  refine H_iconst (v := 0) rfl dJ2_compress_fe38e_0 ?_
  refine H_istore (lv2 := [(5, Value.int 0), (0, Value.ref u), (1, Value.int 0), (2, Value.ref v), (3, Value.int 0), (4, Value.int (nI n))]) dJ2_compress_fe38e_1 (by decide) rfl ?_
  refine H_pick [1, 2, 3, 4, 5, 0] rfl ?_
  exact hJ_cp5l hn hvz hne hf n 0 H g (by omega) hu hv (fun H1 g2 z1 o1 h1 _ a2 => hP H1 g2 z1 o1 h1 (fun i hi => a2 i (Nat.zero_le _) hi))
theorem hJ_coderLen {v n : Nat} {g : Nat → Int32} {K : hK} (hv : hA G H v 4 n (.inl g)) (hp : K (some (.int 0)) H) : hCal l G Y_J2_coderFromArrayLen_85cad 0 0 [Value.ref v, Value.int (nI n)] H K := by
  refine hCal_of (by decide) rfl (zle rfl) rfl ?_
  have hE : ∀ {mc ms : Nat} {K : hK}, zRm Y_J2_coderFromArrayLen_85cad (hEM G Y_J2_coderFromArrayLen_85cad mc ms K).1 := zRm_M
  refine H_iload_n dJ2_coderFromArrayLen_85cad_0 rfl 1 rfl ?_
  refine H_aload_n dJ2_coderFromArrayLen_85cad_1 rfl 0 rfl ?_
  refine H_alenI hv (by decide) dJ2_coderFromArrayLen_85cad_2 ?_
  refine H_isub dJ2_coderFromArrayLen_85cad_3 ?_
  refine H_bipush (v := 31) rfl dJ2_coderFromArrayLen_85cad_4 ?_
  refine H_iushr dJ2_coderFromArrayLen_85cad_6 ?_
  refine H_i2b dJ2_coderFromArrayLen_85cad_7 ?_
  rw [show (((nI n) - (nI n)).toUInt32 >>> ((31 : Int32).toUInt32 &&& Int32.toUInt32 31)).toInt32.toInt8.toInt32 = 0 from by rw [Int32.sub_self]; decide]
  exact H_iret rfl rfl dJ2_coderFromArrayLen_85cad_8 (by omega) (by omega) hp
theorem hJ_cp3 {u n mc ms : Nat} {f : Nat → Int32} {K : hK} (hn : n ≤ 65536) (hf : ∀ i, i < n → ¬ (255 : Int32) < f i) (hu : hA G H u 3 n (.inl f)) (hmc : 1 ≤ mc) (hms : n ≤ ms)
    (hp : ∀ (H1 : Heap) (g' : Nat → Int32), H1.size = H.size + 1 → (∀ q, q < H.size → H1[q]? = H[q]?) → hA G H1 H.size 4 n (.inl g') → (∀ i, i < n → g' i = (f i).toInt8.toInt32) → K (some (.ref H.size)) H1) : hCal l G Y_J2_compress_dfd3c mc ms [Value.ref u, Value.int 0, Value.int (nI n)] H K := by
  refine hCal_of (by decide) rfl (zle rfl) rfl ?_
  have hE : ∀ {mc ms : Nat} {K : hK}, zRm Y_J2_compress_dfd3c (hEM G Y_J2_compress_dfd3c mc ms K).1 := zRm_M
  refine H_iload_n dJ2_compress_dfd3c_0 rfl 2 rfl ?_
  refine H_bs (fun hB0 hg4 => ?_)
  refine H_newa (at_ := .byte) (t := 4) (n := n) (z := .inl (fun _ => 0)) (by decide) rfl zw_292 (ti_nI (by omega)) (fun _ => rfl) (by show n * 1 ≤ _; omega) (by show 0 + 1 ≤ mc; omega) (by show 0 + n ≤ ms; omega) dJ2_compress_dfd3c_1 (fun H1 z1 o1 n1 => ?_)
  have hul := hu.lt
  have hu1 : hA G H1 u 3 n (.inl f) := (o1 u hul).trans hu
  refine H_astore_n (lv2 := [(3, Value.ref H.size), (0, Value.ref u), (1, Value.int 0), (2, Value.int (nI n))]) dJ2_compress_dfd3c_3 rfl (by decide) rfl ?_
  refine H_aload_n dJ2_compress_dfd3c_4 rfl 1 rfl ?_
  refine H_iload_n dJ2_compress_dfd3c_5 rfl 2 rfl ?_
  refine H_aload_n dJ2_compress_dfd3c_6 rfl 0 rfl ?_
  refine H_iconst (v := 0) rfl dJ2_compress_dfd3c_7 ?_
  refine H_iload_n dJ2_compress_dfd3c_8 rfl 3 rfl ?_
  refine H_callS (as := [Value.ref u, Value.int 0, Value.ref H.size, Value.int 0, Value.int (nI n)]) (st := []) (mc' := 0) (ms' := 0) hE hcs_J2_compress_dfd3c_J2_compress_fe38e_115 rfl rfl (zle rfl) dJ2_compress_dfd3c_9 ⟨by show 0 + 1 + 0 ≤ mc; omega, by show 0 + n + 0 ≤ ms; omega⟩ (hJ_cp5 (K := fun r H2 => r = some (.int (nI n)) ∧ ∃ g' : Nat → Int32, H2.size = H1.size ∧ (∀ q, q ≠ H.size → H2[q]? = H1[q]?) ∧ hA G H2 H.size 4 n (.inl g') ∧ ∀ i, i < n → g' i = (f i).toInt8.toInt32) hn hB0.fr (by omega) hf hu1 n1 (fun H2 g' z2 o2 n2 a2 => ⟨rfl, g', z2, o2, n2, a2⟩)) (fun r2 H2 q2 => ?_)
  obtain ⟨rfl, g', z2, o2, n2, a2⟩ := q2
  refine H_istore (lv2 := [(4, Value.int (nI n)), (3, Value.ref H.size), (0, Value.ref u), (1, Value.int 0), (2, Value.int (nI n))]) dJ2_compress_dfd3c_12 (by decide) rfl ?_
  refine H_iload dJ2_compress_dfd3c_14 0 rfl ?_
  refine H_iload_n dJ2_compress_dfd3c_16 rfl 4 rfl ?_
  refine H_icmp_eq (tgt := 57) dJ2_compress_dfd3c_17 rfl (fun _ => ?_) (fun q9 => absurd rfl q9)
  refine H_aload_n dJ2_compress_dfd3c_57 rfl 1 rfl ?_
  exact H_aret rfl (Or.inr ⟨_, rfl⟩) dJ2_compress_dfd3c_58 (by omega) (by omega) (hp H2 g' (by omega) (fun q hq => (o2 q (by omega)).trans (o1 q hq)) n2 a2)
end HJ6
