/-! printed by wip/whole/h_*.py -/
abbrev Y_J0_init_bb550 : zY := (yJ0_init_bb550, cJ0_init_bb550, 6, none, 14, [])
theorem zw_662 : Cond.methodLink RJ0 1 objectInit ∈ zAll := zin 662 (by decide +kernel) (by decide +kernel)
theorem zw_146 : Cond.instanceMethod objectInit ∈ zAll := zin 146 (by decide +kernel) (by decide +kernel)
theorem zw_147 : Cond.code objectInit ⟨#[0xb1]⟩ 1 none ∈ zAll := zin 147 (by decide +kernel) (by decide +kernel)
theorem zw_664 : Cond.methodLink RJ0 177 yJ2_compress_dfd3c ∈ zAll := zin 664 (by decide +kernel) (by decide +kernel)
theorem zw_666 : Cond.code yJ2_compress_dfd3c cJ2_compress_dfd3c 6 (some (.array .byte)) ∈ zAll := zin 666 (by decide +kernel) (by decide +kernel)
theorem zw_665 : Cond.static yJ2_compress_dfd3c ∈ zAll := zin 665 (by decide +kernel) (by decide +kernel)
theorem hcs_J0_init_bb550_J2_compress_dfd3c_177 : zLS Y_J0_init_bb550 177 Y_J2_compress_dfd3c 3 := ⟨zw_664, zw_665, zw_123, zw_666, by decide +kernel, by decide, by decide⟩
theorem zw_689 : Cond.methodLink RJ0 47 yJ2_coderFromArrayLen_85cad ∈ zAll := zin 689 (by decide +kernel) (by decide +kernel)
theorem zw_691 : Cond.code yJ2_coderFromArrayLen_85cad cJ2_coderFromArrayLen_85cad 2 (some .byte) ∈ zAll := zin 691 (by decide +kernel) (by decide +kernel)
theorem zw_690 : Cond.static yJ2_coderFromArrayLen_85cad ∈ zAll := zin 690 (by decide +kernel) (by decide +kernel)
theorem hcs_J0_init_bb550_J2_coderFromArrayLen_85cad_47 : zLS Y_J0_init_bb550 47 Y_J2_coderFromArrayLen_85cad 2 := ⟨zw_689, zw_690, zw_123, zw_691, by decide +kernel, by decide, by decide⟩
theorem hfp_J0_J0_15 : hFP RJ0 15 0 1 true .byte := ⟨RJ0, TJ0, 4, tyJ0, ⟨rfl, by decide, zw_694, zws_J0⟩, tyJ0_ok, nmJ0, rfl, by decide +kernel, fun _ => rfl⟩
theorem hfp_J0_J0_9 : hFP RJ0 9 0 0 true (.array .byte) := ⟨RJ0, TJ0, 4, tyJ0, ⟨rfl, by decide, zw_693, zws_J0⟩, tyJ0_ok, nmJ0, rfl, by decide +kernel, fun _ => rfl⟩
abbrev Y_J0_init_905df : zY := (yJ0_init_905df, cJ0_init_905df, 2, none, 16, [])
theorem zw_659 : Cond.methodLink RJ0 27 yJ0_init_bb550 ∈ zAll := zin 659 (by decide +kernel) (by decide +kernel)
theorem zw_661 : Cond.code yJ0_init_bb550 cJ0_init_bb550 6 none ∈ zAll := zin 661 (by decide +kernel) (by decide +kernel)
theorem zw_660 : Cond.instanceMethod yJ0_init_bb550 ∈ zAll := zin 660 (by decide +kernel) (by decide +kernel)
theorem hci_J0_init_905df_J0_init_bb550_27 : hLI Y_J0_init_905df 27 Y_J0_init_bb550 4 := ⟨zw_659, zw_660, zw_122, zw_661, rfl, rfl, by decide +kernel, by decide, by decide⟩
theorem dJ0_init_905df_0 : decode cJ0_init_905df 0 = .ok (.aload_n 0, 1) := by decide +kernel
theorem dJ0_init_905df_1 : decode cJ0_init_905df 1 = .ok (.aload_n 1, 1) := by decide +kernel
theorem dJ0_init_905df_2 : decode cJ0_init_905df 2 = .ok (.iconst 0, 1) := by decide +kernel
theorem dJ0_init_905df_3 : decode cJ0_init_905df 3 = .ok (.aload_n 1, 1) := by decide +kernel
theorem dJ0_init_905df_4 : decode cJ0_init_905df 4 = .ok (.arraylength, 1) := by decide +kernel
theorem dJ0_init_905df_5 : decode cJ0_init_905df 5 = .ok (.aconst_null, 1) := by decide +kernel
theorem dJ0_init_905df_6 : decode cJ0_init_905df 6 = .ok (.invokespecial 27, 3) := by decide +kernel
theorem dJ0_init_905df_9 : decode cJ0_init_905df 9 = .ok (.return_, 1) := by decide +kernel
theorem dJ0_init_bb550_0 : decode cJ0_init_bb550 0 = .ok (.aload_n 0, 1) := by decide +kernel
theorem dJ0_init_bb550_1 : decode cJ0_init_bb550 1 = .ok (.invokespecial 1, 3) := by decide +kernel
theorem dJ0_init_bb550_4 : decode cJ0_init_bb550 4 = .ok (.iload_n 3, 1) := by decide +kernel
theorem dJ0_init_bb550_5 : decode cJ0_init_bb550 5 = .ok (.ifCond .ne 22, 3) := by decide +kernel
theorem dJ0_init_bb550_8 : decode cJ0_init_bb550 8 = .ok (.aload_n 0, 1) := by decide +kernel
theorem dJ0_init_bb550_9 : decode cJ0_init_bb550 9 = .ok (.ldc 7, 2) := by decide +kernel
theorem dJ0_init_bb550_11 : decode cJ0_init_bb550 11 = .ok (.getfield 9, 3) := by decide +kernel
theorem dJ0_init_bb550_14 : decode cJ0_init_bb550 14 = .ok (.putfield 9, 3) := by decide +kernel
theorem dJ0_init_bb550_17 : decode cJ0_init_bb550 17 = .ok (.aload_n 0, 1) := by decide +kernel
theorem dJ0_init_bb550_18 : decode cJ0_init_bb550 18 = .ok (.ldc 7, 2) := by decide +kernel
theorem dJ0_init_bb550_20 : decode cJ0_init_bb550 20 = .ok (.getfield 15, 3) := by decide +kernel
theorem dJ0_init_bb550_23 : decode cJ0_init_bb550 23 = .ok (.putfield 15, 3) := by decide +kernel
theorem dJ0_init_bb550_26 : decode cJ0_init_bb550 26 = .ok (.return_, 1) := by decide +kernel
theorem dJ0_init_bb550_27 : decode cJ0_init_bb550 27 = .ok (.getstatic 38, 3) := by decide +kernel
theorem dJ0_init_bb550_30 : decode cJ0_init_bb550 30 = .ok (.ifCond .eq 28, 3) := by decide +kernel
theorem dJ0_init_bb550_33 : decode cJ0_init_bb550 33 = .ok (.aload_n 1, 1) := by decide +kernel
theorem dJ0_init_bb550_34 : decode cJ0_init_bb550 34 = .ok (.iload_n 2, 1) := by decide +kernel
theorem dJ0_init_bb550_35 : decode cJ0_init_bb550 35 = .ok (.iload_n 3, 1) := by decide +kernel
theorem dJ0_init_bb550_36 : decode cJ0_init_bb550 36 = .ok (.invokestatic 177, 3) := by decide +kernel
theorem dJ0_init_bb550_39 : decode cJ0_init_bb550 39 = .ok (.astore 5, 2) := by decide +kernel
theorem dJ0_init_bb550_41 : decode cJ0_init_bb550 41 = .ok (.aload_n 0, 1) := by decide +kernel
theorem dJ0_init_bb550_42 : decode cJ0_init_bb550 42 = .ok (.aload 5, 2) := by decide +kernel
theorem dJ0_init_bb550_44 : decode cJ0_init_bb550 44 = .ok (.iload_n 3, 1) := by decide +kernel
theorem dJ0_init_bb550_45 : decode cJ0_init_bb550 45 = .ok (.invokestatic 47, 3) := by decide +kernel
theorem dJ0_init_bb550_48 : decode cJ0_init_bb550 48 = .ok (.putfield 15, 3) := by decide +kernel
theorem dJ0_init_bb550_51 : decode cJ0_init_bb550 51 = .ok (.aload_n 0, 1) := by decide +kernel
theorem dJ0_init_bb550_52 : decode cJ0_init_bb550 52 = .ok (.aload 5, 2) := by decide +kernel
theorem dJ0_init_bb550_54 : decode cJ0_init_bb550 54 = .ok (.putfield 9, 3) := by decide +kernel
theorem dJ0_init_bb550_57 : decode cJ0_init_bb550 57 = .ok (.return_, 1) := by decide +kernel
theorem dJ0_init_bb550_58 : decode cJ0_init_bb550 58 = .ok (.aload_n 0, 1) := by decide +kernel
theorem dJ0_init_bb550_59 : decode cJ0_init_bb550 59 = .ok (.iconst 1, 1) := by decide +kernel
theorem dJ0_init_bb550_60 : decode cJ0_init_bb550 60 = .ok (.putfield 15, 3) := by decide +kernel
theorem dJ0_init_bb550_63 : decode cJ0_init_bb550 63 = .ok (.aload_n 0, 1) := by decide +kernel
theorem dJ0_init_bb550_64 : decode cJ0_init_bb550 64 = .ok (.aload_n 1, 1) := by decide +kernel
theorem dJ0_init_bb550_65 : decode cJ0_init_bb550 65 = .ok (.iload_n 2, 1) := by decide +kernel
theorem dJ0_init_bb550_66 : decode cJ0_init_bb550 66 = .ok (.iload_n 3, 1) := by decide +kernel
theorem dJ0_init_bb550_67 : decode cJ0_init_bb550 67 = .ok (.invokestatic 180, 3) := by decide +kernel
theorem dJ0_init_bb550_70 : decode cJ0_init_bb550 70 = .ok (.putfield 9, 3) := by decide +kernel
theorem dJ0_init_bb550_73 : decode cJ0_init_bb550 73 = .ok (.return_, 1) := by decide +kernel
section HJ7
variable {l : Launch} {G : zG} {H : Heap}
theorem hJ_str5 {a u n mc ms : Nat} {f : Nat → Int32} {K : hK} (hn0 : 0 < n) (hn : n ≤ 65536) (hf : ∀ i, i < n → ¬ (255 : Int32) < f i) (hu : hA G H u 3 n (.inl f)) (ho : hO G H a 0 (vp_V [.null, .int 0, .int 0, .int 0])) (haz : zfr G a) (hmc : 1 ≤ mc) (hms : n ≤ ms)
    (hp : ∀ (H1 : Heap) (g' : Nat → Int32), H1.size = H.size + 1 → (∀ q, q < H.size → q ≠ a → H1[q]? = H[q]?) → hA G H1 H.size 4 n (.inl g') → (∀ i, i < n → g' i = (f i).toInt8.toInt32) → hO G H1 a 0 (vp_V [.ref H.size, .int 0, .int 0, .int 0]) → K none H1) : hCal l G Y_J0_init_bb550 mc ms [Value.ref a, Value.ref u, Value.int 0, Value.int (nI n), Value.null] H K := by
  refine hCal_of (by decide) rfl (zle rfl) rfl ?_
  have hE : ∀ {mc ms : Nat} {K : hK}, zRm Y_J0_init_bb550 (hEM G Y_J0_init_bb550 mc ms K).1 := zRm_M
  refine H_aload_n dJ0_init_bb550_0 rfl 0 rfl ?_
  refine H_objInit zw_662 zw_146 zw_147 hE (by decide) (zle rfl) dJ0_init_bb550_1 ?_
  refine H_iload_n dJ0_init_bb550_4 rfl 3 rfl ?_
  refine H_if_ne (tgt := 27) dJ0_init_bb550_5 rfl (fun _ => ?_) (fun q9 => absurd q9 (fun z => absurd (ti_eq.mp z) (by rw [ti_nI (by omega), ti_0]; omega)))
  refine H_gets (own := RJ0) zw_561 (fun U h => h.1) dJ0_init_bb550_27 ?_
  refine H_if_eq (tgt := 58) dJ0_init_bb550_30 rfl (fun q9 => absurd q9 (by decide)) (fun _ => ?_)
  refine H_aload_n dJ0_init_bb550_33 rfl 1 rfl ?_
  refine H_iload_n dJ0_init_bb550_34 rfl 2 rfl ?_
  refine H_iload_n dJ0_init_bb550_35 rfl 3 rfl ?_
  refine H_bs (fun hB0 hg4 => ?_)
  have hol := ho.lt
  refine H_callS (as := [Value.ref u, Value.int 0, Value.int (nI n)]) (st := []) (mc' := 1) (ms' := n) hE hcs_J0_init_bb550_J2_compress_dfd3c_177 rfl rfl (zle rfl) dJ0_init_bb550_36 ⟨by show 0 + 1 ≤ mc; omega, by show 0 + n ≤ ms; omega⟩ (hJ_cp3 (K := fun r H1 => r = some (.ref H.size) ∧ ∃ g' : Nat → Int32, H1.size = H.size + 1 ∧ (∀ q, q < H.size → H1[q]? = H[q]?) ∧ hA G H1 H.size 4 n (.inl g') ∧ ∀ i, i < n → g' i = (f i).toInt8.toInt32) hn hf hu (Nat.le_refl 1) (Nat.le_refl n) (fun H1 g' z1 o1 n1 a1 => ⟨rfl, g', z1, o1, n1, a1⟩)) (fun r1 H1 q1 => ?_)
  obtain ⟨rfl, g', z1, o1, n1, a1⟩ := q1
  have ho1 : hO G H1 a 0 (vp_V [.null, .int 0, .int 0, .int 0]) := ho.kept (o1 a hol)
  refine H_astore (lv2 := [(5, Value.ref H.size), (0, Value.ref a), (1, Value.ref u), (2, Value.int 0), (3, Value.int (nI n)), (4, Value.null)]) dJ0_init_bb550_39 (by decide) rfl ?_
  refine H_aload_n dJ0_init_bb550_41 rfl 1 rfl ?_
  refine H_aload dJ0_init_bb550_42 0 rfl ?_
  refine H_iload_n dJ0_init_bb550_44 rfl 4 rfl ?_
  refine H_callS (as := [Value.ref H.size, Value.int (nI n)]) (st := [Value.ref a]) (mc' := 0) (ms' := 0) hE hcs_J0_init_bb550_J2_coderFromArrayLen_85cad_47 rfl rfl (zle rfl) dJ0_init_bb550_45 ⟨by show 0 + 1 + 0 ≤ mc; omega, by show 0 + n + 0 ≤ ms; omega⟩ (hJ_coderLen (K := fun r H2 => r = some (.int 0) ∧ H1 = H2) n1 ⟨rfl, rfl⟩) (fun r2 H2 q2 => ?_)
  obtain ⟨rfl, rfl⟩ := q2
  refine H_putV (fs2 := [Value.null, Value.int 0, Value.int 0, Value.int 0]) hfp_J0_J0_15 (fun _ => rfl) ho1 rfl (zle rfl) rfl rfl haz dJ0_init_bb550_48 (fun H3 zH3 oH3 h3 => ?_)
  refine H_aload_n dJ0_init_bb550_51 rfl 1 rfl ?_
  refine H_aload dJ0_init_bb550_52 0 rfl ?_
  refine H_putV (fs2 := [Value.ref H.size, Value.int 0, Value.int 0, Value.int 0]) hfp_J0_J0_9 (fun _ => rfl) h3 rfl (zle rfl) rfl rfl haz dJ0_init_bb550_54 (fun H4 zH4 oH4 h4 => ?_)
  have hne : H.size ≠ a := by omega
  exact H_vret rfl dJ0_init_bb550_57 (by omega) (by omega) (hp H4 g' (by omega) (fun q hq hqa => (oH4 q hqa).trans ((oH3 q hqa).trans (o1 q hq))) ((oH4 _ hne).trans ((oH3 _ hne).trans n1)) a1 h4)
theorem hFkept {a ci j : Nat} {v : Value} {H1 : Heap} (h : hF G H a ci j v) (e : H1[a]? = H[a]?) : hF G H1 a ci j v := by
  obtain ⟨cell, q1, q2⟩ := h
  exact ⟨cell, e.trans q1, q2⟩
theorem hJ_str50 {a u v0 mc ms : Nat} {K : hK} (hl0 : hF G H (gl G RJ0 7) 0 0 (.ref v0)) (hl1 : hF G H (gl G RJ0 7) 0 1 (.int 0)) (hla : gl G RJ0 7 ≠ a) (ho : hO G H a 0 (vp_V [.null, .int 0, .int 0, .int 0])) (haz : zfr G a)
    (hp : ∀ (H1 : Heap), H1.size = H.size → (∀ q, q ≠ a → H1[q]? = H[q]?) → hO G H1 a 0 (vp_V [.ref v0, .int 0, .int 0, .int 0]) → K none H1) : hCal l G Y_J0_init_bb550 mc ms [Value.ref a, Value.ref u, Value.int 0, Value.int 0, Value.null] H K := by
  refine hCal_of (by decide) rfl (zle rfl) rfl ?_
  have hE : ∀ {mc ms : Nat} {K : hK}, zRm Y_J0_init_bb550 (hEM G Y_J0_init_bb550 mc ms K).1 := zRm_M
  refine H_aload_n dJ0_init_bb550_0 rfl 0 rfl ?_
  refine H_objInit zw_662 zw_146 zw_147 hE (by decide) (zle rfl) dJ0_init_bb550_1 ?_
  refine H_iload_n dJ0_init_bb550_4 rfl 3 rfl ?_
  refine H_if_ne (tgt := 27) dJ0_init_bb550_5 rfl (fun q9 => absurd rfl q9) (fun _ => ?_)
  refine H_aload_n dJ0_init_bb550_8 rfl 0 rfl ?_
  refine H_ldcS (idx := 7) (tx := "") (by decide) dJ0_init_bb550_9 ?_
  refine H_get hfl_J0_J0_9 hl0 dJ0_init_bb550_11 ?_
  refine H_putV (fs2 := [Value.ref v0, Value.int 0, Value.int 0, Value.int 0]) hfp_J0_J0_9 (fun _ => rfl) ho rfl (zle rfl) rfl rfl haz dJ0_init_bb550_14 (fun H3 zH3 oH3 h3 => ?_)
  refine H_aload_n dJ0_init_bb550_17 rfl 0 rfl ?_
  refine H_ldcS (idx := 7) (tx := "") (by decide) dJ0_init_bb550_18 ?_
  refine H_get hfl_J0_J0_15 (hFkept hl1 (oH3 _ hla)) dJ0_init_bb550_20 ?_
  refine H_putV (fs2 := [Value.ref v0, Value.int 0, Value.int 0, Value.int 0]) hfp_J0_J0_15 (fun _ => rfl) h3 rfl (zle rfl) rfl rfl haz dJ0_init_bb550_23 (fun H4 zH4 oH4 h4 => ?_)
  exact H_vret rfl dJ0_init_bb550_26 (by omega) (by omega) (hp H4 (by omega) (fun q hqa => (oH4 q hqa).trans (oH3 q hqa)) h4)
theorem hJ_str1 {a u n mc ms : Nat} {f : Nat → Int32} {K : hK} (hn0 : 0 < n) (hn : n ≤ 65536) (hf : ∀ i, i < n → ¬ (255 : Int32) < f i) (hu : hA G H u 3 n (.inl f)) (ho : hO G H a 0 (vp_V [.null, .int 0, .int 0, .int 0])) (haz : zfr G a) (hmc : 1 ≤ mc) (hms : n ≤ ms)
    (hp : ∀ (H1 : Heap) (g' : Nat → Int32), H1.size = H.size + 1 → (∀ q, q < H.size → q ≠ a → H1[q]? = H[q]?) → hA G H1 H.size 4 n (.inl g') → (∀ i, i < n → g' i = (f i).toInt8.toInt32) → hO G H1 a 0 (vp_V [.ref H.size, .int 0, .int 0, .int 0]) → K none H1) : hCal l G Y_J0_init_905df mc ms [Value.ref a, Value.ref u] H K := by
  refine hCal_of (by decide) rfl (zle rfl) rfl ?_
  have hE : ∀ {mc ms : Nat} {K : hK}, zRm Y_J0_init_905df (hEM G Y_J0_init_905df mc ms K).1 := zRm_M
  refine H_aload_n dJ0_init_905df_0 rfl 0 rfl ?_
  refine H_aload_n dJ0_init_905df_1 rfl 1 rfl ?_
  refine H_iconst (v := 0) rfl dJ0_init_905df_2 ?_
  refine H_aload_n dJ0_init_905df_3 rfl 1 rfl ?_
  refine H_alenI hu (by decide) dJ0_init_905df_4 ?_
  refine H_null dJ0_init_905df_5 ?_
  refine H_callI (as := [Value.ref u, Value.int 0, Value.int (nI n), Value.null]) (st := []) (mc' := mc) (ms' := ms) hE hci_J0_init_905df_J0_init_bb550_27 rfl rfl (zle rfl) dJ0_init_905df_6 ⟨by show 0 + mc ≤ mc; omega, by show 0 + ms ≤ ms; omega⟩ (hJ_str5 (K := fun r H1 => r = none ∧ ∃ g' : Nat → Int32, H1.size = H.size + 1 ∧ (∀ q, q < H.size → q ≠ a → H1[q]? = H[q]?) ∧ hA G H1 H.size 4 n (.inl g') ∧ (∀ i, i < n → g' i = (f i).toInt8.toInt32) ∧ hO G H1 a 0 (vp_V [.ref H.size, .int 0, .int 0, .int 0])) hn0 hn hf hu ho haz hmc hms (fun H1 g' z1 o1 n1 a1 b1 => ⟨rfl, g', z1, o1, n1, a1, b1⟩)) (fun r1 H1 q1 => ?_)
  obtain ⟨rfl, g', z1, o1, n1, a1, b1⟩ := q1
  exact H_vret rfl dJ0_init_905df_9 (by show 0 + mc ≤ mc; omega) (by show 0 + ms ≤ ms; omega) (hp H1 g' z1 o1 n1 a1 b1)
theorem hJ_str0 {a u v0 mc ms : Nat} {f : Nat → Int32} {K : hK} (hl0 : hF G H (gl G RJ0 7) 0 0 (.ref v0)) (hl1 : hF G H (gl G RJ0 7) 0 1 (.int 0)) (hla : gl G RJ0 7 ≠ a) (hu : hA G H u 3 0 (.inl f)) (ho : hO G H a 0 (vp_V [.null, .int 0, .int 0, .int 0])) (haz : zfr G a)
    (hp : ∀ (H1 : Heap), H1.size = H.size → (∀ q, q ≠ a → H1[q]? = H[q]?) → hO G H1 a 0 (vp_V [.ref v0, .int 0, .int 0, .int 0]) → K none H1) : hCal l G Y_J0_init_905df mc ms [Value.ref a, Value.ref u] H K := by
  refine hCal_of (by decide) rfl (zle rfl) rfl ?_
  have hE : ∀ {mc ms : Nat} {K : hK}, zRm Y_J0_init_905df (hEM G Y_J0_init_905df mc ms K).1 := zRm_M
  refine H_aload_n dJ0_init_905df_0 rfl 0 rfl ?_
  refine H_aload_n dJ0_init_905df_1 rfl 1 rfl ?_
  refine H_iconst (v := 0) rfl dJ0_init_905df_2 ?_
  refine H_aload_n dJ0_init_905df_3 rfl 1 rfl ?_
  refine H_alenI hu (by decide) dJ0_init_905df_4 ?_
  refine H_null dJ0_init_905df_5 ?_
  refine H_callI (as := [Value.ref u, Value.int 0, Value.int 0, Value.null]) (st := []) (mc' := mc) (ms' := ms) hE hci_J0_init_905df_J0_init_bb550_27 rfl rfl (zle rfl) dJ0_init_905df_6 ⟨by show 0 + mc ≤ mc; omega, by show 0 + ms ≤ ms; omega⟩ (hJ_str50 (K := fun r H1 => r = none ∧ H1.size = H.size ∧ (∀ q, q ≠ a → H1[q]? = H[q]?) ∧ hO G H1 a 0 (vp_V [.ref v0, .int 0, .int 0, .int 0])) hl0 hl1 hla ho haz (fun H1 z1 o1 b1 => ⟨rfl, z1, o1, b1⟩)) (fun r1 H1 q1 => ?_)
  obtain ⟨rfl, z1, o1, b1⟩ := q1
  exact H_vret rfl dJ0_init_905df_9 (by show 0 + mc ≤ mc; omega) (by show 0 + ms ≤ ms; omega) (hp H1 z1 o1 b1)
end HJ7
