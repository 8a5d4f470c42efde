/-! printed by wip/whole/h_*.py -/
abbrev Y_J6_stringSize_0f7a4 : zY := (yJ6_stringSize_0f7a4, cJ6_stringSize_0f7a4, 4, (some .int), 2, [])
theorem zw_1102 : Cond.fieldLink RJ6 83 "java/lang/Integer" "DigitOnes" "[B" ∈ zAll := zin 1102 (by decide +kernel) (by decide +kernel)
theorem zw_1104 : Cond.fieldLink RJ6 87 "java/lang/Integer" "DigitTens" "[B" ∈ zAll := zin 1104 (by decide +kernel) (by decide +kernel)
abbrev Y_J6_getChars_ba4f3 : zY := (yJ6_getChars_ba4f3, cJ6_getChars_ba4f3, 7, (some .int), 2, [])
theorem dJ6_getChars_ba4f3_0 : decode cJ6_getChars_ba4f3 0 = .ok (.iload_n 1, 1) := by decide +kernel
theorem dJ6_getChars_ba4f3_1 : decode cJ6_getChars_ba4f3 1 = .ok (.istore 5, 2) := by decide +kernel
theorem dJ6_getChars_ba4f3_3 : decode cJ6_getChars_ba4f3 3 = .ok (.iload_n 0, 1) := by decide +kernel
theorem dJ6_getChars_ba4f3_4 : decode cJ6_getChars_ba4f3 4 = .ok (.ifCond .ge 7, 3) := by decide +kernel
theorem dJ6_getChars_ba4f3_7 : decode cJ6_getChars_ba4f3 7 = .ok (.iconst 1, 1) := by decide +kernel
theorem dJ6_getChars_ba4f3_8 : decode cJ6_getChars_ba4f3 8 = .ok (.goto 4, 3) := by decide +kernel
theorem dJ6_getChars_ba4f3_11 : decode cJ6_getChars_ba4f3 11 = .ok (.iconst 0, 1) := by decide +kernel
theorem dJ6_getChars_ba4f3_12 : decode cJ6_getChars_ba4f3 12 = .ok (.istore 6, 2) := by decide +kernel
theorem dJ6_getChars_ba4f3_14 : decode cJ6_getChars_ba4f3 14 = .ok (.iload 6, 2) := by decide +kernel
theorem dJ6_getChars_ba4f3_16 : decode cJ6_getChars_ba4f3 16 = .ok (.ifCond .ne 6, 3) := by decide +kernel
theorem dJ6_getChars_ba4f3_19 : decode cJ6_getChars_ba4f3 19 = .ok (.iload_n 0, 1) := by decide +kernel
theorem dJ6_getChars_ba4f3_20 : decode cJ6_getChars_ba4f3 20 = .ok (.ineg, 1) := by decide +kernel
theorem dJ6_getChars_ba4f3_21 : decode cJ6_getChars_ba4f3 21 = .ok (.istore_n 0, 1) := by decide +kernel
theorem dJ6_getChars_ba4f3_22 : decode cJ6_getChars_ba4f3 22 = .ok (.iload_n 0, 1) := by decide +kernel
theorem dJ6_getChars_ba4f3_23 : decode cJ6_getChars_ba4f3 23 = .ok (.bipush (-100), 2) := by decide +kernel
theorem dJ6_getChars_ba4f3_25 : decode cJ6_getChars_ba4f3 25 = .ok (.if_icmp .gt 47, 3) := by decide +kernel
theorem dJ6_getChars_ba4f3_28 : decode cJ6_getChars_ba4f3 28 = .ok (.iload_n 0, 1) := by decide +kernel
theorem dJ6_getChars_ba4f3_29 : decode cJ6_getChars_ba4f3 29 = .ok (.bipush 100, 2) := by decide +kernel
theorem dJ6_getChars_ba4f3_31 : decode cJ6_getChars_ba4f3 31 = .ok (.idiv, 1) := by decide +kernel
theorem dJ6_getChars_ba4f3_32 : decode cJ6_getChars_ba4f3 32 = .ok (.istore_n 3, 1) := by decide +kernel
theorem dJ6_getChars_ba4f3_33 : decode cJ6_getChars_ba4f3 33 = .ok (.iload_n 3, 1) := by decide +kernel
theorem dJ6_getChars_ba4f3_34 : decode cJ6_getChars_ba4f3 34 = .ok (.bipush 100, 2) := by decide +kernel
theorem dJ6_getChars_ba4f3_36 : decode cJ6_getChars_ba4f3 36 = .ok (.imul, 1) := by decide +kernel
theorem dJ6_getChars_ba4f3_37 : decode cJ6_getChars_ba4f3 37 = .ok (.iload_n 0, 1) := by decide +kernel
theorem dJ6_getChars_ba4f3_38 : decode cJ6_getChars_ba4f3 38 = .ok (.isub, 1) := by decide +kernel
theorem dJ6_getChars_ba4f3_39 : decode cJ6_getChars_ba4f3 39 = .ok (.istore 4, 2) := by decide +kernel
theorem dJ6_getChars_ba4f3_41 : decode cJ6_getChars_ba4f3 41 = .ok (.iload_n 3, 1) := by decide +kernel
theorem dJ6_getChars_ba4f3_42 : decode cJ6_getChars_ba4f3 42 = .ok (.istore_n 0, 1) := by decide +kernel
theorem dJ6_getChars_ba4f3_43 : decode cJ6_getChars_ba4f3 43 = .ok (.aload_n 2, 1) := by decide +kernel
theorem dJ6_getChars_ba4f3_44 : decode cJ6_getChars_ba4f3 44 = .ok (.iinc 5 (-1), 3) := by decide +kernel
theorem dJ6_getChars_ba4f3_47 : decode cJ6_getChars_ba4f3 47 = .ok (.iload 5, 2) := by decide +kernel
theorem dJ6_getChars_ba4f3_49 : decode cJ6_getChars_ba4f3 49 = .ok (.getstatic 83, 3) := by decide +kernel
theorem dJ6_getChars_ba4f3_52 : decode cJ6_getChars_ba4f3 52 = .ok (.iload 4, 2) := by decide +kernel
theorem dJ6_getChars_ba4f3_54 : decode cJ6_getChars_ba4f3 54 = .ok (.baload, 1) := by decide +kernel
theorem dJ6_getChars_ba4f3_55 : decode cJ6_getChars_ba4f3 55 = .ok (.bastore, 1) := by decide +kernel
theorem dJ6_getChars_ba4f3_56 : decode cJ6_getChars_ba4f3 56 = .ok (.aload_n 2, 1) := by decide +kernel
theorem dJ6_getChars_ba4f3_57 : decode cJ6_getChars_ba4f3 57 = .ok (.iinc 5 (-1), 3) := by decide +kernel
theorem dJ6_getChars_ba4f3_60 : decode cJ6_getChars_ba4f3 60 = .ok (.iload 5, 2) := by decide +kernel
theorem dJ6_getChars_ba4f3_62 : decode cJ6_getChars_ba4f3 62 = .ok (.getstatic 87, 3) := by decide +kernel
theorem dJ6_getChars_ba4f3_65 : decode cJ6_getChars_ba4f3 65 = .ok (.iload 4, 2) := by decide +kernel
theorem dJ6_getChars_ba4f3_67 : decode cJ6_getChars_ba4f3 67 = .ok (.baload, 1) := by decide +kernel
theorem dJ6_getChars_ba4f3_68 : decode cJ6_getChars_ba4f3 68 = .ok (.bastore, 1) := by decide +kernel
theorem dJ6_getChars_ba4f3_69 : decode cJ6_getChars_ba4f3 69 = .ok (.goto (-47), 3) := by decide +kernel
theorem dJ6_getChars_ba4f3_72 : decode cJ6_getChars_ba4f3 72 = .ok (.aload_n 2, 1) := by decide +kernel
theorem dJ6_getChars_ba4f3_73 : decode cJ6_getChars_ba4f3 73 = .ok (.iinc 5 (-1), 3) := by decide +kernel
theorem dJ6_getChars_ba4f3_76 : decode cJ6_getChars_ba4f3 76 = .ok (.iload 5, 2) := by decide +kernel
theorem dJ6_getChars_ba4f3_78 : decode cJ6_getChars_ba4f3 78 = .ok (.getstatic 83, 3) := by decide +kernel
theorem dJ6_getChars_ba4f3_81 : decode cJ6_getChars_ba4f3 81 = .ok (.iload_n 0, 1) := by decide +kernel
theorem dJ6_getChars_ba4f3_82 : decode cJ6_getChars_ba4f3 82 = .ok (.ineg, 1) := by decide +kernel
theorem dJ6_getChars_ba4f3_83 : decode cJ6_getChars_ba4f3 83 = .ok (.baload, 1) := by decide +kernel
theorem dJ6_getChars_ba4f3_84 : decode cJ6_getChars_ba4f3 84 = .ok (.bastore, 1) := by decide +kernel
theorem dJ6_getChars_ba4f3_85 : decode cJ6_getChars_ba4f3 85 = .ok (.iload_n 0, 1) := by decide +kernel
theorem dJ6_getChars_ba4f3_86 : decode cJ6_getChars_ba4f3 86 = .ok (.bipush (-9), 2) := by decide +kernel
theorem dJ6_getChars_ba4f3_88 : decode cJ6_getChars_ba4f3 88 = .ok (.if_icmp .ge 16, 3) := by decide +kernel
theorem dJ6_getChars_ba4f3_91 : decode cJ6_getChars_ba4f3 91 = .ok (.aload_n 2, 1) := by decide +kernel
theorem dJ6_getChars_ba4f3_92 : decode cJ6_getChars_ba4f3 92 = .ok (.iinc 5 (-1), 3) := by decide +kernel
theorem dJ6_getChars_ba4f3_95 : decode cJ6_getChars_ba4f3 95 = .ok (.iload 5, 2) := by decide +kernel
theorem dJ6_getChars_ba4f3_97 : decode cJ6_getChars_ba4f3 97 = .ok (.getstatic 87, 3) := by decide +kernel
theorem dJ6_getChars_ba4f3_100 : decode cJ6_getChars_ba4f3 100 = .ok (.iload_n 0, 1) := by decide +kernel
theorem dJ6_getChars_ba4f3_101 : decode cJ6_getChars_ba4f3 101 = .ok (.ineg, 1) := by decide +kernel
theorem dJ6_getChars_ba4f3_102 : decode cJ6_getChars_ba4f3 102 = .ok (.baload, 1) := by decide +kernel
theorem dJ6_getChars_ba4f3_103 : decode cJ6_getChars_ba4f3 103 = .ok (.bastore, 1) := by decide +kernel
theorem dJ6_getChars_ba4f3_104 : decode cJ6_getChars_ba4f3 104 = .ok (.iload 6, 2) := by decide +kernel
theorem dJ6_getChars_ba4f3_106 : decode cJ6_getChars_ba4f3 106 = .ok (.ifCond .eq 12, 3) := by decide +kernel
theorem dJ6_getChars_ba4f3_109 : decode cJ6_getChars_ba4f3 109 = .ok (.aload_n 2, 1) := by decide +kernel
theorem dJ6_getChars_ba4f3_110 : decode cJ6_getChars_ba4f3 110 = .ok (.iinc 5 (-1), 3) := by decide +kernel
theorem dJ6_getChars_ba4f3_113 : decode cJ6_getChars_ba4f3 113 = .ok (.iload 5, 2) := by decide +kernel
theorem dJ6_getChars_ba4f3_115 : decode cJ6_getChars_ba4f3 115 = .ok (.bipush 45, 2) := by decide +kernel
theorem dJ6_getChars_ba4f3_117 : decode cJ6_getChars_ba4f3 117 = .ok (.bastore, 1) := by decide +kernel
theorem dJ6_getChars_ba4f3_118 : decode cJ6_getChars_ba4f3 118 = .ok (.iload 5, 2) := by decide +kernel
theorem dJ6_getChars_ba4f3_120 : decode cJ6_getChars_ba4f3 120 = .ok (.ireturn, 1) := by decide +kernel
theorem dJ6_stringSize_0f7a4_0 : decode cJ6_stringSize_0f7a4 0 = .ok (.iconst 1, 1) := by decide +kernel
theorem dJ6_stringSize_0f7a4_1 : decode cJ6_stringSize_0f7a4 1 = .ok (.istore_n 1, 1) := by decide +kernel
theorem dJ6_stringSize_0f7a4_2 : decode cJ6_stringSize_0f7a4 2 = .ok (.iload_n 0, 1) := by decide +kernel
theorem dJ6_stringSize_0f7a4_3 : decode cJ6_stringSize_0f7a4 3 = .ok (.ifCond .lt 8, 3) := by decide +kernel
theorem dJ6_stringSize_0f7a4_6 : decode cJ6_stringSize_0f7a4 6 = .ok (.iconst 0, 1) := by decide +kernel
theorem dJ6_stringSize_0f7a4_7 : decode cJ6_stringSize_0f7a4 7 = .ok (.istore_n 1, 1) := by decide +kernel
theorem dJ6_stringSize_0f7a4_8 : decode cJ6_stringSize_0f7a4 8 = .ok (.iload_n 0, 1) := by decide +kernel
theorem dJ6_stringSize_0f7a4_9 : decode cJ6_stringSize_0f7a4 9 = .ok (.ineg, 1) := by decide +kernel
theorem dJ6_stringSize_0f7a4_10 : decode cJ6_stringSize_0f7a4 10 = .ok (.istore_n 0, 1) := by decide +kernel
theorem dJ6_stringSize_0f7a4_11 : decode cJ6_stringSize_0f7a4 11 = .ok (.bipush (-10), 2) := by decide +kernel
theorem dJ6_stringSize_0f7a4_13 : decode cJ6_stringSize_0f7a4 13 = .ok (.istore_n 2, 1) := by decide +kernel
theorem dJ6_stringSize_0f7a4_14 : decode cJ6_stringSize_0f7a4 14 = .ok (.iconst 1, 1) := by decide +kernel
theorem dJ6_stringSize_0f7a4_15 : decode cJ6_stringSize_0f7a4 15 = .ok (.istore_n 3, 1) := by decide +kernel
theorem dJ6_stringSize_0f7a4_16 : decode cJ6_stringSize_0f7a4 16 = .ok (.iload_n 3, 1) := by decide +kernel
theorem dJ6_stringSize_0f7a4_17 : decode cJ6_stringSize_0f7a4 17 = .ok (.bipush 10, 2) := by decide +kernel
theorem dJ6_stringSize_0f7a4_19 : decode cJ6_stringSize_0f7a4 19 = .ok (.if_icmp .ge 23, 3) := by decide +kernel
theorem dJ6_stringSize_0f7a4_22 : decode cJ6_stringSize_0f7a4 22 = .ok (.iload_n 0, 1) := by decide +kernel
theorem dJ6_stringSize_0f7a4_23 : decode cJ6_stringSize_0f7a4 23 = .ok (.iload_n 2, 1) := by decide +kernel
theorem dJ6_stringSize_0f7a4_24 : decode cJ6_stringSize_0f7a4 24 = .ok (.if_icmp .le 7, 3) := by decide +kernel
theorem dJ6_stringSize_0f7a4_27 : decode cJ6_stringSize_0f7a4 27 = .ok (.iload_n 3, 1) := by decide +kernel
theorem dJ6_stringSize_0f7a4_28 : decode cJ6_stringSize_0f7a4 28 = .ok (.iload_n 1, 1) := by decide +kernel
theorem dJ6_stringSize_0f7a4_29 : decode cJ6_stringSize_0f7a4 29 = .ok (.iadd, 1) := by decide +kernel
theorem dJ6_stringSize_0f7a4_30 : decode cJ6_stringSize_0f7a4 30 = .ok (.ireturn, 1) := by decide +kernel
theorem dJ6_stringSize_0f7a4_31 : decode cJ6_stringSize_0f7a4 31 = .ok (.bipush 10, 2) := by decide +kernel
theorem dJ6_stringSize_0f7a4_33 : decode cJ6_stringSize_0f7a4 33 = .ok (.iload_n 2, 1) := by decide +kernel
theorem dJ6_stringSize_0f7a4_34 : decode cJ6_stringSize_0f7a4 34 = .ok (.imul, 1) := by decide +kernel
theorem dJ6_stringSize_0f7a4_35 : decode cJ6_stringSize_0f7a4 35 = .ok (.istore_n 2, 1) := by decide +kernel
theorem dJ6_stringSize_0f7a4_36 : decode cJ6_stringSize_0f7a4 36 = .ok (.iinc 3 1, 3) := by decide +kernel
theorem dJ6_stringSize_0f7a4_39 : decode cJ6_stringSize_0f7a4 39 = .ok (.goto (-23), 3) := by decide +kernel
theorem dJ6_stringSize_0f7a4_42 : decode cJ6_stringSize_0f7a4 42 = .ok (.bipush 10, 2) := by decide +kernel
theorem dJ6_stringSize_0f7a4_44 : decode cJ6_stringSize_0f7a4 44 = .ok (.iload_n 1, 1) := by decide +kernel
theorem dJ6_stringSize_0f7a4_45 : decode cJ6_stringSize_0f7a4 45 = .ok (.iadd, 1) := by decide +kernel
theorem dJ6_stringSize_0f7a4_46 : decode cJ6_stringSize_0f7a4 46 = .ok (.ireturn, 1) := by decide +kernel
theorem H_pick {l : Launch} {G : zG} {Y : zY} {E : zE} {pc : Nat} {lv : List (Nat × Value)} {st : List Value} {H : Heap} {c k : Nat} (ks : List Nat) {lv2 : List (Nat × Value)} (he : ks.filterMap (fun j => lv[j]?) = lv2) (h : hAt l G Y E pc lv2 st H c k) : hAt l G Y E pc lv st H c k := by
  intro p e s m args below meth cd locs ls C hN hR hlo hl
  subst he
  have hm : ∀ q ∈ ks.filterMap (fun j => lv[j]?), q ∈ lv := fun q hq => by
    obtain ⟨j, -, hj⟩ := List.mem_filterMap.mp hq
    exact List.mem_of_getElem? hj
  exact h p e s m args below meth cd locs ls C hN hR hlo ⟨hl.1, hl.2.1, fun q hq => hl.2.2 q (hm q hq)⟩
/-- the digits' two tables -/
def hTabs (G : zG) (t1 t2 : Nat) (s : State) : Prop := (zZ G "java/lang/Integer" "DigitOnes" "[B" (.ref t1) s ∧ zTab G t1 (fun j => nI (48 + j % 10)) s) ∧ zZ G "java/lang/Integer" "DigitTens" "[B" (.ref t2) s ∧ zTab G t2 (fun j => nI (48 + j / 10)) s
abbrev hET (G : zG) (t1 t2 : Nat) (E : zE) : zE := (E.1, fun below s args t => hTabs G t1 t2 s → E.2 below s args t)
section HT
variable {l : Launch} {G : zG} {Y : zY} {E : zE} {pc : Nat} {lv : List (Nat × Value)} {st : List Value} {H : Heap} {c k t1 t2 : Nat}
theorem H_tabs (h : ∀ t1 t2 : Nat, hAt l G Y (hET G t1 t2 E) pc lv st H c k) : hAt l G Y E pc lv st H c k := by
  intro p e s m args below meth cd locs ls C hN hR hlo hl
  obtain ⟨-, -, -, -, ⟨t1, a1⟩, t2, a2⟩ := C.2.2.2.2.2.2.2.1.2.2.2.2.2
  intro T hT X
  obtain ⟨t, a, b⟩ := h t1 t2 p e s m args below meth cd locs ls C hN hR hlo hl T hT X
  exact ⟨t, a, b ⟨a1, a2⟩⟩
theorem H_drop (h : hAt l G Y E pc lv st H c k) : hAt l G Y (hET G t1 t2 E) pc lv st H c k := by
  intro p e s m args below meth cd locs ls C hN hR hlo hl T hT X
  obtain ⟨t, a, b⟩ := h p e s m args below meth cd locs ls C hN hR hlo hl T hT X
  exact ⟨t, a, fun _ => b⟩
theorem hET_no {p : Program} {e : Env} {s : State} {m : MethodId} {args : Array Value} {below : List Frame} {meth : Method} {cd : Code} {locs : List Loc} {g : JFrame} (h : ¬ hTabs G t1 t2 s) : W p l e (hET G t1 t2 E).1 s m args below meth cd H locs c k ((hET G t1 t2 E).2 below s args) g := by
  intro T hT X
  exact ⟨_, Steps.refl _, fun z => absurd z h⟩
theorem H_gets1 {idx : Nat} (hw : Cond.fieldLink (zyO Y) idx "java/lang/Integer" "DigitOnes" "[B" ∈ zAll) (d : decode (zyC Y) pc = .ok (.getstatic idx, 3)) (h : hAt l G Y (hET G t1 t2 E) (pc + 3) lv (.ref t1 :: st) H c k) : hAt l G Y (hET G t1 t2 E) pc lv st H c k := by
  intro p e s m args below meth cd locs ls C hN hR hlo hl
  by_cases hP : hTabs G t1 t2 s
  · obtain ⟨⟨⟨cf, kf, fi, f, a, cell, h1, h2, h3, h4, h5, h6, h7, h8⟩, -⟩, -⟩ := hP
    exact W.gets C.1 C.2.1 C.2.2.2.2.1 (C.2.2.2.2.2.1 _ hw) h1 h2 h3 h4 ((hR.1 a h8).trans h5) (fun e => by rw [e] at h6; cases h6) h7 rfl d (h p e s m args below meth cd locs ls C hN hR hlo hl)
  · exact hET_no hP
theorem H_gets2 {idx : Nat} (hw : Cond.fieldLink (zyO Y) idx "java/lang/Integer" "DigitTens" "[B" ∈ zAll) (d : decode (zyC Y) pc = .ok (.getstatic idx, 3)) (h : hAt l G Y (hET G t1 t2 E) (pc + 3) lv (.ref t2 :: st) H c k) : hAt l G Y (hET G t1 t2 E) pc lv st H c k := by
  intro p e s m args below meth cd locs ls C hN hR hlo hl
  by_cases hP : hTabs G t1 t2 s
  · obtain ⟨-, ⟨cf, kf, fi, f, a, cell, h1, h2, h3, h4, h5, h6, h7, h8⟩, -⟩ := hP
    exact W.gets C.1 C.2.1 C.2.2.2.2.1 (C.2.2.2.2.2.1 _ hw) h1 h2 h3 h4 ((hR.1 a h8).trans h5) (fun e => by rw [e] at h6; cases h6) h7 rfl d (h p e s m args below meth cd locs ls C hN hR hlo hl)
  · exact hET_no hP
theorem H_dig1 {w : Nat} (hw : w < 100) (d : decode (zyC Y) pc = .ok (.baload, 1)) (h : hAt l G Y (hET G t1 t2 E) (pc + 1) lv (.int (nI (48 + w % 10)) :: st) H c k) : hAt l G Y (hET G t1 t2 E) pc lv (.int (nI w) :: .ref t1 :: st) H c k := by
  intro p e s m args below meth cd locs ls C hN hR hlo hl
  by_cases hP : hTabs G t1 t2 s
  · obtain ⟨⟨-, ⟨cell, q1, q2, q3, q4, q5⟩, q6⟩, -⟩ := hP
    exact W.bald (v := .int (nI (48 + w % 10))) C.1 C.2.1 ((hR.1 t1 q6).trans q1) q2 q3 (fun g => (vp_in_nI hw (by decide)) (g.imp id (fun z => by omega))) (by rw [nI_clamp (by omega)]; exact q5 _ hw) rfl rfl d (h p e s m args below meth cd locs ls C hN hR hlo hl)
  · exact hET_no hP
theorem H_dig2 {w : Nat} (hw : w < 100) (d : decode (zyC Y) pc = .ok (.baload, 1)) (h : hAt l G Y (hET G t1 t2 E) (pc + 1) lv (.int (nI (48 + w / 10)) :: st) H c k) : hAt l G Y (hET G t1 t2 E) pc lv (.int (nI w) :: .ref t2 :: st) H c k := by
  intro p e s m args below meth cd locs ls C hN hR hlo hl
  by_cases hP : hTabs G t1 t2 s
  · obtain ⟨-, -, ⟨cell, q1, q2, q3, q4, q5⟩, q6⟩ := hP
    exact W.bald (v := .int (nI (48 + w / 10))) C.1 C.2.1 ((hR.1 t2 q6).trans q1) q2 q3 (fun g => (vp_in_nI hw (by decide)) (g.imp id (fun z => by omega))) (by rw [nI_clamp (by omega)]; exact q5 _ hw) rfl rfl d (h p e s m args below meth cd locs ls C hN hR hlo hl)
  · exact hET_no hP
end HT
section HJ4
variable {l : Launch} {G : zG} {H : Heap}
theorem hJ_stringSize {w : Nat} {K : hK} (hw : w < 2 ^ 31) (hp : K (some (.int (nI (sb_dg w)))) H) : hCal l G Y_J6_stringSize_0f7a4 0 0 [Value.int (nI w)] H K := by
  refine hCal_of (by decide) rfl (zle rfl) rfl ?_
  have hE : ∀ {mc ms : Nat} {K : hK}, zRm Y_J6_stringSize_0f7a4 (hEM G Y_J6_stringSize_0f7a4 mc ms K).1 := zRm_M
  have k10 : ∀ p : Int32, 1000000000 ≤ w → hAt l G Y_J6_stringSize_0f7a4 (hEM G Y_J6_stringSize_0f7a4 0 0 K) 16 [(3, Value.int 10), (2, Value.int p), (0, Value.int (-nI w)), (1, Value.int 0)] [] H 0 0 := fun p h0 => by
    refine H_iload_n dJ6_stringSize_0f7a4_16 rfl 0 rfl ?_
    refine H_bipush (v := 10) rfl dJ6_stringSize_0f7a4_17 ?_
    refine H_icmp_ge (tgt := 42) dJ6_stringSize_0f7a4_19 rfl (fun _ => ?_) (fun q9 => absurd (show (10 : Int32) ≤ 10 from by decide) q9)
    refine H_bipush (v := 10) rfl dJ6_stringSize_0f7a4_42 ?_
    refine H_iload_n dJ6_stringSize_0f7a4_44 rfl 3 rfl ?_
    refine H_iadd dJ6_stringSize_0f7a4_45 ?_
    have e : sb_dg w = 10 := by unfold sb_dg; (repeat' split) <;> omega
    rw [e] at hp
    exact H_iret rfl rfl dJ6_stringSize_0f7a4_46 (by omega) (by omega) hp
  have k9 : 100000000 ≤ w → hAt l G Y_J6_stringSize_0f7a4 (hEM G Y_J6_stringSize_0f7a4 0 0 K) 16 [(3, Value.int 9), (2, Value.int (-1000000000)), (0, Value.int (-nI w)), (1, Value.int 0)] [] H 0 0 := fun h0 => by
    refine H_iload_n dJ6_stringSize_0f7a4_16 rfl 0 rfl ?_
    refine H_bipush (v := 10) rfl dJ6_stringSize_0f7a4_17 ?_
    refine H_icmp_ge (tgt := 42) dJ6_stringSize_0f7a4_19 rfl (fun q9 => absurd q9 (show ¬ (10 : Int32) ≤ 9 from by decide)) (fun _ => ?_)
    refine H_iload_n dJ6_stringSize_0f7a4_22 rfl 2 rfl ?_
    refine H_iload_n dJ6_stringSize_0f7a4_23 rfl 1 rfl ?_
    refine H_icmp_le (tgt := 31) dJ6_stringSize_0f7a4_24 rfl (fun q => ?_) (fun q => ?_)
    · have h9 : 1000000000 ≤ w := (sb_nle hw (by decide)).mp (show -nI w ≤ -nI 1000000000 from q)
      refine H_bipush (v := 10) rfl dJ6_stringSize_0f7a4_31 ?_
      refine H_iload_n dJ6_stringSize_0f7a4_33 rfl 1 rfl ?_
      refine H_imul dJ6_stringSize_0f7a4_34 ?_
      refine H_istore_n (lv2 := [(2, Value.int (10 * (-1000000000))), (3, Value.int 9), (0, Value.int (-nI w)), (1, Value.int 0)]) dJ6_stringSize_0f7a4_35 rfl (by decide) rfl ?_
      refine H_iinc (lv2 := [(3, Value.int (9 + 1)), (2, Value.int (10 * (-1000000000))), (0, Value.int (-nI w)), (1, Value.int 0)]) dJ6_stringSize_0f7a4_36 1 rfl rfl (by decide) rfl ?_
      refine H_goto (tgt := 16) dJ6_stringSize_0f7a4_39 rfl ?_
      rw [show (9 + 1 : Int32) = 10 from by decide]
      exact k10 _ h9
    · have h9 : w < 1000000000 := Nat.not_le.mp fun z => q (show -nI w ≤ -nI 1000000000 from (sb_nle hw (by decide)).mpr z)
      refine H_iload_n dJ6_stringSize_0f7a4_27 rfl 0 rfl ?_
      refine H_iload_n dJ6_stringSize_0f7a4_28 rfl 3 rfl ?_
      refine H_iadd dJ6_stringSize_0f7a4_29 ?_
      have e : sb_dg w = 9 := by unfold sb_dg; (repeat' split) <;> omega
      rw [e] at hp
      exact H_iret rfl rfl dJ6_stringSize_0f7a4_30 (by omega) (by omega) hp
  have k8 : 10000000 ≤ w → hAt l G Y_J6_stringSize_0f7a4 (hEM G Y_J6_stringSize_0f7a4 0 0 K) 16 [(3, Value.int 8), (2, Value.int (-100000000)), (0, Value.int (-nI w)), (1, Value.int 0)] [] H 0 0 := fun h0 => by
    refine H_iload_n dJ6_stringSize_0f7a4_16 rfl 0 rfl ?_
    refine H_bipush (v := 10) rfl dJ6_stringSize_0f7a4_17 ?_
    refine H_icmp_ge (tgt := 42) dJ6_stringSize_0f7a4_19 rfl (fun q9 => absurd q9 (show ¬ (10 : Int32) ≤ 8 from by decide)) (fun _ => ?_)
    refine H_iload_n dJ6_stringSize_0f7a4_22 rfl 2 rfl ?_
    refine H_iload_n dJ6_stringSize_0f7a4_23 rfl 1 rfl ?_
    refine H_icmp_le (tgt := 31) dJ6_stringSize_0f7a4_24 rfl (fun q => ?_) (fun q => ?_)
    · have h9 : 100000000 ≤ w := (sb_nle hw (by decide)).mp (show -nI w ≤ -nI 100000000 from q)
      refine H_bipush (v := 10) rfl dJ6_stringSize_0f7a4_31 ?_
      refine H_iload_n dJ6_stringSize_0f7a4_33 rfl 1 rfl ?_
      refine H_imul dJ6_stringSize_0f7a4_34 ?_
      refine H_istore_n (lv2 := [(2, Value.int (10 * (-100000000))), (3, Value.int 8), (0, Value.int (-nI w)), (1, Value.int 0)]) dJ6_stringSize_0f7a4_35 rfl (by decide) rfl ?_
      refine H_iinc (lv2 := [(3, Value.int (8 + 1)), (2, Value.int (10 * (-100000000))), (0, Value.int (-nI w)), (1, Value.int 0)]) dJ6_stringSize_0f7a4_36 1 rfl rfl (by decide) rfl ?_
      refine H_goto (tgt := 16) dJ6_stringSize_0f7a4_39 rfl ?_
      rw [show (10 * (-100000000) : Int32) = -1000000000 from by decide, show (8 + 1 : Int32) = 9 from by decide]
      exact k9 h9
    · have h9 : w < 100000000 := Nat.not_le.mp fun z => q (show -nI w ≤ -nI 100000000 from (sb_nle hw (by decide)).mpr z)
      refine H_iload_n dJ6_stringSize_0f7a4_27 rfl 0 rfl ?_
      refine H_iload_n dJ6_stringSize_0f7a4_28 rfl 3 rfl ?_
      refine H_iadd dJ6_stringSize_0f7a4_29 ?_
      have e : sb_dg w = 8 := by unfold sb_dg; (repeat' split) <;> omega
      rw [e] at hp
      exact H_iret rfl rfl dJ6_stringSize_0f7a4_30 (by omega) (by omega) hp
  have k7 : 1000000 ≤ w → hAt l G Y_J6_stringSize_0f7a4 (hEM G Y_J6_stringSize_0f7a4 0 0 K) 16 [(3, Value.int 7), (2, Value.int (-10000000)), (0, Value.int (-nI w)), (1, Value.int 0)] [] H 0 0 := fun h0 => by
    refine H_iload_n dJ6_stringSize_0f7a4_16 rfl 0 rfl ?_
    refine H_bipush (v := 10) rfl dJ6_stringSize_0f7a4_17 ?_
    refine H_icmp_ge (tgt := 42) dJ6_stringSize_0f7a4_19 rfl (fun q9 => absurd q9 (show ¬ (10 : Int32) ≤ 7 from by decide)) (fun _ => ?_)
    refine H_iload_n dJ6_stringSize_0f7a4_22 rfl 2 rfl ?_
    refine H_iload_n dJ6_stringSize_0f7a4_23 rfl 1 rfl ?_
    refine H_icmp_le (tgt := 31) dJ6_stringSize_0f7a4_24 rfl (fun q => ?_) (fun q => ?_)
    · have h9 : 10000000 ≤ w := (sb_nle hw (by decide)).mp (show -nI w ≤ -nI 10000000 from q)
      refine H_bipush (v := 10) rfl dJ6_stringSize_0f7a4_31 ?_
      refine H_iload_n dJ6_stringSize_0f7a4_33 rfl 1 rfl ?_
      refine H_imul dJ6_stringSize_0f7a4_34 ?_
      refine H_istore_n (lv2 := [(2, Value.int (10 * (-10000000))), (3, Value.int 7), (0, Value.int (-nI w)), (1, Value.int 0)]) dJ6_stringSize_0f7a4_35 rfl (by decide) rfl ?_
      refine H_iinc (lv2 := [(3, Value.int (7 + 1)), (2, Value.int (10 * (-10000000))), (0, Value.int (-nI w)), (1, Value.int 0)]) dJ6_stringSize_0f7a4_36 1 rfl rfl (by decide) rfl ?_
      refine H_goto (tgt := 16) dJ6_stringSize_0f7a4_39 rfl ?_
      rw [show (10 * (-10000000) : Int32) = -100000000 from by decide, show (7 + 1 : Int32) = 8 from by decide]
      exact k8 h9
    · have h9 : w < 10000000 := Nat.not_le.mp fun z => q (show -nI w ≤ -nI 10000000 from (sb_nle hw (by decide)).mpr z)
      refine H_iload_n dJ6_stringSize_0f7a4_27 rfl 0 rfl ?_
      refine H_iload_n dJ6_stringSize_0f7a4_28 rfl 3 rfl ?_
      refine H_iadd dJ6_stringSize_0f7a4_29 ?_
      have e : sb_dg w = 7 := by unfold sb_dg; (repeat' split) <;> omega
      rw [e] at hp
      exact H_iret rfl rfl dJ6_stringSize_0f7a4_30 (by omega) (by omega) hp
  have k6 : 100000 ≤ w → hAt l G Y_J6_stringSize_0f7a4 (hEM G Y_J6_stringSize_0f7a4 0 0 K) 16 [(3, Value.int 6), (2, Value.int (-1000000)), (0, Value.int (-nI w)), (1, Value.int 0)] [] H 0 0 := fun h0 => by
    refine H_iload_n dJ6_stringSize_0f7a4_16 rfl 0 rfl ?_
    refine H_bipush (v := 10) rfl dJ6_stringSize_0f7a4_17 ?_
    refine H_icmp_ge (tgt := 42) dJ6_stringSize_0f7a4_19 rfl (fun q9 => absurd q9 (show ¬ (10 : Int32) ≤ 6 from by decide)) (fun _ => ?_)
    refine H_iload_n dJ6_stringSize_0f7a4_22 rfl 2 rfl ?_
    refine H_iload_n dJ6_stringSize_0f7a4_23 rfl 1 rfl ?_
    refine H_icmp_le (tgt := 31) dJ6_stringSize_0f7a4_24 rfl (fun q => ?_) (fun q => ?_)
    · have h9 : 1000000 ≤ w := (sb_nle hw (by decide)).mp (show -nI w ≤ -nI 1000000 from q)
      refine H_bipush (v := 10) rfl dJ6_stringSize_0f7a4_31 ?_
      refine H_iload_n dJ6_stringSize_0f7a4_33 rfl 1 rfl ?_
      refine H_imul dJ6_stringSize_0f7a4_34 ?_
      refine H_istore_n (lv2 := [(2, Value.int (10 * (-1000000))), (3, Value.int 6), (0, Value.int (-nI w)), (1, Value.int 0)]) dJ6_stringSize_0f7a4_35 rfl (by decide) rfl ?_
      refine H_iinc (lv2 := [(3, Value.int (6 + 1)), (2, Value.int (10 * (-1000000))), (0, Value.int (-nI w)), (1, Value.int 0)]) dJ6_stringSize_0f7a4_36 1 rfl rfl (by decide) rfl ?_
      refine H_goto (tgt := 16) dJ6_stringSize_0f7a4_39 rfl ?_
      rw [show (10 * (-1000000) : Int32) = -10000000 from by decide, show (6 + 1 : Int32) = 7 from by decide]
      exact k7 h9
    · have h9 : w < 1000000 := Nat.not_le.mp fun z => q (show -nI w ≤ -nI 1000000 from (sb_nle hw (by decide)).mpr z)
      refine H_iload_n dJ6_stringSize_0f7a4_27 rfl 0 rfl ?_
      refine H_iload_n dJ6_stringSize_0f7a4_28 rfl 3 rfl ?_
      refine H_iadd dJ6_stringSize_0f7a4_29 ?_
      have e : sb_dg w = 6 := by unfold sb_dg; (repeat' split) <;> omega
      rw [e] at hp
      exact H_iret rfl rfl dJ6_stringSize_0f7a4_30 (by omega) (by omega) hp
  have k5 : 10000 ≤ w → hAt l G Y_J6_stringSize_0f7a4 (hEM G Y_J6_stringSize_0f7a4 0 0 K) 16 [(3, Value.int 5), (2, Value.int (-100000)), (0, Value.int (-nI w)), (1, Value.int 0)] [] H 0 0 := fun h0 => by
    refine H_iload_n dJ6_stringSize_0f7a4_16 rfl 0 rfl ?_
    refine H_bipush (v := 10) rfl dJ6_stringSize_0f7a4_17 ?_
    refine H_icmp_ge (tgt := 42) dJ6_stringSize_0f7a4_19 rfl (fun q9 => absurd q9 (show ¬ (10 : Int32) ≤ 5 from by decide)) (fun _ => ?_)
    refine H_iload_n dJ6_stringSize_0f7a4_22 rfl 2 rfl ?_
    refine H_iload_n dJ6_stringSize_0f7a4_23 rfl 1 rfl ?_
    refine H_icmp_le (tgt := 31) dJ6_stringSize_0f7a4_24 rfl (fun q => ?_) (fun q => ?_)
    · have h9 : 100000 ≤ w := (sb_nle hw (by decide)).mp (show -nI w ≤ -nI 100000 from q)
      refine H_bipush (v := 10) rfl dJ6_stringSize_0f7a4_31 ?_
      refine H_iload_n dJ6_stringSize_0f7a4_33 rfl 1 rfl ?_
      refine H_imul dJ6_stringSize_0f7a4_34 ?_
      refine H_istore_n (lv2 := [(2, Value.int (10 * (-100000))), (3, Value.int 5), (0, Value.int (-nI w)), (1, Value.int 0)]) dJ6_stringSize_0f7a4_35 rfl (by decide) rfl ?_
      refine H_iinc (lv2 := [(3, Value.int (5 + 1)), (2, Value.int (10 * (-100000))), (0, Value.int (-nI w)), (1, Value.int 0)]) dJ6_stringSize_0f7a4_36 1 rfl rfl (by decide) rfl ?_
      refine H_goto (tgt := 16) dJ6_stringSize_0f7a4_39 rfl ?_
      rw [show (10 * (-100000) : Int32) = -1000000 from by decide, show (5 + 1 : Int32) = 6 from by decide]
      exact k6 h9
    · have h9 : w < 100000 := Nat.not_le.mp fun z => q (show -nI w ≤ -nI 100000 from (sb_nle hw (by decide)).mpr z)
      refine H_iload_n dJ6_stringSize_0f7a4_27 rfl 0 rfl ?_
      refine H_iload_n dJ6_stringSize_0f7a4_28 rfl 3 rfl ?_
      refine H_iadd dJ6_stringSize_0f7a4_29 ?_
      have e : sb_dg w = 5 := by unfold sb_dg; (repeat' split) <;> omega
      rw [e] at hp
      exact H_iret rfl rfl dJ6_stringSize_0f7a4_30 (by omega) (by omega) hp
  have k4 : 1000 ≤ w → hAt l G Y_J6_stringSize_0f7a4 (hEM G Y_J6_stringSize_0f7a4 0 0 K) 16 [(3, Value.int 4), (2, Value.int (-10000)), (0, Value.int (-nI w)), (1, Value.int 0)] [] H 0 0 := fun h0 => by
    refine H_iload_n dJ6_stringSize_0f7a4_16 rfl 0 rfl ?_
    refine H_bipush (v := 10) rfl dJ6_stringSize_0f7a4_17 ?_
    refine H_icmp_ge (tgt := 42) dJ6_stringSize_0f7a4_19 rfl (fun q9 => absurd q9 (show ¬ (10 : Int32) ≤ 4 from by decide)) (fun _ => ?_)
    refine H_iload_n dJ6_stringSize_0f7a4_22 rfl 2 rfl ?_
    refine H_iload_n dJ6_stringSize_0f7a4_23 rfl 1 rfl ?_
    refine H_icmp_le (tgt := 31) dJ6_stringSize_0f7a4_24 rfl (fun q => ?_) (fun q => ?_)
    · have h9 : 10000 ≤ w := (sb_nle hw (by decide)).mp (show -nI w ≤ -nI 10000 from q)
      refine H_bipush (v := 10) rfl dJ6_stringSize_0f7a4_31 ?_
      refine H_iload_n dJ6_stringSize_0f7a4_33 rfl 1 rfl ?_
      refine H_imul dJ6_stringSize_0f7a4_34 ?_
      refine H_istore_n (lv2 := [(2, Value.int (10 * (-10000))), (3, Value.int 4), (0, Value.int (-nI w)), (1, Value.int 0)]) dJ6_stringSize_0f7a4_35 rfl (by decide) rfl ?_
      refine H_iinc (lv2 := [(3, Value.int (4 + 1)), (2, Value.int (10 * (-10000))), (0, Value.int (-nI w)), (1, Value.int 0)]) dJ6_stringSize_0f7a4_36 1 rfl rfl (by decide) rfl ?_
      refine H_goto (tgt := 16) dJ6_stringSize_0f7a4_39 rfl ?_
      rw [show (10 * (-10000) : Int32) = -100000 from by decide, show (4 + 1 : Int32) = 5 from by decide]
      exact k5 h9
    · have h9 : w < 10000 := Nat.not_le.mp fun z => q (show -nI w ≤ -nI 10000 from (sb_nle hw (by decide)).mpr z)
      refine H_iload_n dJ6_stringSize_0f7a4_27 rfl 0 rfl ?_
      refine H_iload_n dJ6_stringSize_0f7a4_28 rfl 3 rfl ?_
      refine H_iadd dJ6_stringSize_0f7a4_29 ?_
      have e : sb_dg w = 4 := by unfold sb_dg; (repeat' split) <;> omega
      rw [e] at hp
      exact H_iret rfl rfl dJ6_stringSize_0f7a4_30 (by omega) (by omega) hp
  have k3 : 100 ≤ w → hAt l G Y_J6_stringSize_0f7a4 (hEM G Y_J6_stringSize_0f7a4 0 0 K) 16 [(3, Value.int 3), (2, Value.int (-1000)), (0, Value.int (-nI w)), (1, Value.int 0)] [] H 0 0 := fun h0 => by
    refine H_iload_n dJ6_stringSize_0f7a4_16 rfl 0 rfl ?_
    refine H_bipush (v := 10) rfl dJ6_stringSize_0f7a4_17 ?_
    refine H_icmp_ge (tgt := 42) dJ6_stringSize_0f7a4_19 rfl (fun q9 => absurd q9 (show ¬ (10 : Int32) ≤ 3 from by decide)) (fun _ => ?_)
    refine H_iload_n dJ6_stringSize_0f7a4_22 rfl 2 rfl ?_
    refine H_iload_n dJ6_stringSize_0f7a4_23 rfl 1 rfl ?_
    refine H_icmp_le (tgt := 31) dJ6_stringSize_0f7a4_24 rfl (fun q => ?_) (fun q => ?_)
    · have h9 : 1000 ≤ w := (sb_nle hw (by decide)).mp (show -nI w ≤ -nI 1000 from q)
      refine H_bipush (v := 10) rfl dJ6_stringSize_0f7a4_31 ?_
      refine H_iload_n dJ6_stringSize_0f7a4_33 rfl 1 rfl ?_
      refine H_imul dJ6_stringSize_0f7a4_34 ?_
      refine H_istore_n (lv2 := [(2, Value.int (10 * (-1000))), (3, Value.int 3), (0, Value.int (-nI w)), (1, Value.int 0)]) dJ6_stringSize_0f7a4_35 rfl (by decide) rfl ?_
      refine H_iinc (lv2 := [(3, Value.int (3 + 1)), (2, Value.int (10 * (-1000))), (0, Value.int (-nI w)), (1, Value.int 0)]) dJ6_stringSize_0f7a4_36 1 rfl rfl (by decide) rfl ?_
      refine H_goto (tgt := 16) dJ6_stringSize_0f7a4_39 rfl ?_
      rw [show (10 * (-1000) : Int32) = -10000 from by decide, show (3 + 1 : Int32) = 4 from by decide]
      exact k4 h9
    · have h9 : w < 1000 := Nat.not_le.mp fun z => q (show -nI w ≤ -nI 1000 from (sb_nle hw (by decide)).mpr z)
      refine H_iload_n dJ6_stringSize_0f7a4_27 rfl 0 rfl ?_
      refine H_iload_n dJ6_stringSize_0f7a4_28 rfl 3 rfl ?_
      refine H_iadd dJ6_stringSize_0f7a4_29 ?_
      have e : sb_dg w = 3 := by unfold sb_dg; (repeat' split) <;> omega
      rw [e] at hp
      exact H_iret rfl rfl dJ6_stringSize_0f7a4_30 (by omega) (by omega) hp
  have k2 : 10 ≤ w → hAt l G Y_J6_stringSize_0f7a4 (hEM G Y_J6_stringSize_0f7a4 0 0 K) 16 [(3, Value.int 2), (2, Value.int (-100)), (0, Value.int (-nI w)), (1, Value.int 0)] [] H 0 0 := fun h0 => by
    refine H_iload_n dJ6_stringSize_0f7a4_16 rfl 0 rfl ?_
    refine H_bipush (v := 10) rfl dJ6_stringSize_0f7a4_17 ?_
    refine H_icmp_ge (tgt := 42) dJ6_stringSize_0f7a4_19 rfl (fun q9 => absurd q9 (show ¬ (10 : Int32) ≤ 2 from by decide)) (fun _ => ?_)
    refine H_iload_n dJ6_stringSize_0f7a4_22 rfl 2 rfl ?_
    refine H_iload_n dJ6_stringSize_0f7a4_23 rfl 1 rfl ?_
    refine H_icmp_le (tgt := 31) dJ6_stringSize_0f7a4_24 rfl (fun q => ?_) (fun q => ?_)
    · have h9 : 100 ≤ w := (sb_nle hw (by decide)).mp (show -nI w ≤ -nI 100 from q)
      refine H_bipush (v := 10) rfl dJ6_stringSize_0f7a4_31 ?_
      refine H_iload_n dJ6_stringSize_0f7a4_33 rfl 1 rfl ?_
      refine H_imul dJ6_stringSize_0f7a4_34 ?_
      refine H_istore_n (lv2 := [(2, Value.int (10 * (-100))), (3, Value.int 2), (0, Value.int (-nI w)), (1, Value.int 0)]) dJ6_stringSize_0f7a4_35 rfl (by decide) rfl ?_
      refine H_iinc (lv2 := [(3, Value.int (2 + 1)), (2, Value.int (10 * (-100))), (0, Value.int (-nI w)), (1, Value.int 0)]) dJ6_stringSize_0f7a4_36 1 rfl rfl (by decide) rfl ?_
      refine H_goto (tgt := 16) dJ6_stringSize_0f7a4_39 rfl ?_
      rw [show (10 * (-100) : Int32) = -1000 from by decide, show (2 + 1 : Int32) = 3 from by decide]
      exact k3 h9
    · have h9 : w < 100 := Nat.not_le.mp fun z => q (show -nI w ≤ -nI 100 from (sb_nle hw (by decide)).mpr z)
      refine H_iload_n dJ6_stringSize_0f7a4_27 rfl 0 rfl ?_
      refine H_iload_n dJ6_stringSize_0f7a4_28 rfl 3 rfl ?_
      refine H_iadd dJ6_stringSize_0f7a4_29 ?_
      have e : sb_dg w = 2 := by unfold sb_dg; (repeat' split) <;> omega
      rw [e] at hp
      exact H_iret rfl rfl dJ6_stringSize_0f7a4_30 (by omega) (by omega) hp
  have k1 : hAt l G Y_J6_stringSize_0f7a4 (hEM G Y_J6_stringSize_0f7a4 0 0 K) 16 [(3, Value.int 1), (2, Value.int (-10)), (0, Value.int (-nI w)), (1, Value.int 0)] [] H 0 0 := by
    refine H_iload_n dJ6_stringSize_0f7a4_16 rfl 0 rfl ?_
    refine H_bipush (v := 10) rfl dJ6_stringSize_0f7a4_17 ?_
    refine H_icmp_ge (tgt := 42) dJ6_stringSize_0f7a4_19 rfl (fun q9 => absurd q9 (show ¬ (10 : Int32) ≤ 1 from by decide)) (fun _ => ?_)
    refine H_iload_n dJ6_stringSize_0f7a4_22 rfl 2 rfl ?_
    refine H_iload_n dJ6_stringSize_0f7a4_23 rfl 1 rfl ?_
    refine H_icmp_le (tgt := 31) dJ6_stringSize_0f7a4_24 rfl (fun q => ?_) (fun q => ?_)
    · have h9 : 10 ≤ w := (sb_nle hw (by decide)).mp (show -nI w ≤ -nI 10 from q)
      refine H_bipush (v := 10) rfl dJ6_stringSize_0f7a4_31 ?_
      refine H_iload_n dJ6_stringSize_0f7a4_33 rfl 1 rfl ?_
      refine H_imul dJ6_stringSize_0f7a4_34 ?_
      refine H_istore_n (lv2 := [(2, Value.int (10 * (-10))), (3, Value.int 1), (0, Value.int (-nI w)), (1, Value.int 0)]) dJ6_stringSize_0f7a4_35 rfl (by decide) rfl ?_
      refine H_iinc (lv2 := [(3, Value.int (1 + 1)), (2, Value.int (10 * (-10))), (0, Value.int (-nI w)), (1, Value.int 0)]) dJ6_stringSize_0f7a4_36 1 rfl rfl (by decide) rfl ?_
      refine H_goto (tgt := 16) dJ6_stringSize_0f7a4_39 rfl ?_
      rw [show (10 * (-10) : Int32) = -100 from by decide, show (1 + 1 : Int32) = 2 from by decide]
      exact k2 h9
    · have h9 : w < 10 := Nat.not_le.mp fun z => q (show -nI w ≤ -nI 10 from (sb_nle hw (by decide)).mpr z)
      refine H_iload_n dJ6_stringSize_0f7a4_27 rfl 0 rfl ?_
      refine H_iload_n dJ6_stringSize_0f7a4_28 rfl 3 rfl ?_
      refine H_iadd dJ6_stringSize_0f7a4_29 ?_
      have e : sb_dg w = 1 := by unfold sb_dg; (repeat' split) <;> omega
      rw [e] at hp
      exact H_iret rfl rfl dJ6_stringSize_0f7a4_30 (by omega) (by omega) hp
  refine H_iconst (v := 1) rfl dJ6_stringSize_0f7a4_0 ?_
  refine H_istore_n (lv2 := [(1, Value.int 1), (0, Value.int (nI w))]) dJ6_stringSize_0f7a4_1 rfl (by decide) rfl ?_
  refine H_iload_n dJ6_stringSize_0f7a4_2 rfl 1 rfl ?_
  refine H_if_lt (tgt := 11) dJ6_stringSize_0f7a4_3 rfl (fun q9 => absurd q9 (nI_pos hw)) (fun _ => ?_)
  refine H_iconst (v := 0) rfl dJ6_stringSize_0f7a4_6 ?_
  refine H_istore_n (lv2 := [(1, Value.int 0), (0, Value.int (nI w))]) dJ6_stringSize_0f7a4_7 rfl (by decide) rfl ?_
  refine H_iload_n dJ6_stringSize_0f7a4_8 rfl 1 rfl ?_
  refine H_ineg dJ6_stringSize_0f7a4_9 ?_
  refine H_istore_n (lv2 := [(0, Value.int (-(nI w))), (1, Value.int 0)]) dJ6_stringSize_0f7a4_10 rfl (by decide) rfl ?_
  refine H_bipush (v := (-10)) rfl dJ6_stringSize_0f7a4_11 ?_
  refine H_istore_n (lv2 := [(2, Value.int (-10)), (0, Value.int (-(nI w))), (1, Value.int 0)]) dJ6_stringSize_0f7a4_13 rfl (by decide) rfl ?_
  refine H_iconst (v := 1) rfl dJ6_stringSize_0f7a4_14 ?_
  refine H_istore_n (lv2 := [(3, Value.int 1), (2, Value.int (-10)), (0, Value.int (-(nI w))), (1, Value.int 0)]) dJ6_stringSize_0f7a4_15 rfl (by decide) rfl ?_
  exact k1
theorem hJ_gc {v m n t1 t2 : Nat} {K : hK} (hm : m ≤ 65536) (hvz : zfr G v) : ∀ (f w p : Nat) (H : Heap) (a : Nat → Int32), w < f → w < 2 ^ 31 → p = n + sb_dg w → p ≤ m → hA G H v 4 m (.inl a) →
    (∀ (H1 : Heap) (a' : Nat → Int32), H1.size = H.size → (∀ q, q ≠ v → H1[q]? = H[q]?) → hA G H1 v 4 m (.inl a') → (∀ j, j < n ∨ p ≤ j → a' j = a j) → (∀ i, i < sb_dg w → a' (p - 1 - i) = sb_b (48 + w / 10 ^ i % 10)) → (sb_Fit a → sb_Fit a') → K (some (.int (nI n))) H1) →
    hAt l G Y_J6_getChars_ba4f3 (hET G t1 t2 (hEM G Y_J6_getChars_ba4f3 0 0 K)) 22 [(0, Value.int (-nI w)), (2, Value.ref v), (5, Value.int (nI p)), (6, Value.int 0)] [] H 0 0 := by
  intro f
  induction f with
  | zero =>
    intro w p H a h
    omega
  | succ f ih =>
    intro w p H a hwf hw hpn hpm ha hP
    have hd1 := (sb_dg_in w).1
    have e1 : -(-nI w) = nI w := Int32.neg_neg
    refine H_iload_n dJ6_getChars_ba4f3_22 rfl 0 rfl ?_
    refine H_bipush (v := (-100)) rfl dJ6_getChars_ba4f3_23 ?_
    refine H_icmp_gt (tgt := 72) dJ6_getChars_ba4f3_25 rfl (fun q => ?_) (fun q => ?_)
    · have h100 : w < 100 := (sb_nlt (by decide) hw).mp (show -nI 100 < -nI w from q)
      refine H_aload_n dJ6_getChars_ba4f3_72 rfl 1 rfl ?_
      refine H_iinc (lv2 := [(5, Value.int ((nI p) + (-1))), (0, Value.int (-nI w)), (2, Value.ref v), (6, Value.int 0)]) dJ6_getChars_ba4f3_73 2 rfl rfl (by decide) rfl ?_
      rw [show (nI p + (-1) : Int32) = nI (p - 1) from sb_m1 (by omega)]
      refine H_iload dJ6_getChars_ba4f3_76 0 rfl ?_
      refine H_gets1 zw_1102 dJ6_getChars_ba4f3_78 ?_
      refine H_iload_n dJ6_getChars_ba4f3_81 rfl 1 rfl ?_
      refine H_ineg dJ6_getChars_ba4f3_82 ?_
      rw [e1]
      refine H_dig1 (w := w) h100 dJ6_getChars_ba4f3_83 ?_
      refine H_bast ha (vp_in_nI (show p - 1 < m by omega) (by omega)) hvz dJ6_getChars_ba4f3_84 (fun H1 zH1 oH1 h1 => ?_)
      rw [nI_clamp (show p - 1 < 2 ^ 31 by omega)] at h1
      refine H_iload_n dJ6_getChars_ba4f3_85 rfl 1 rfl ?_
      refine H_bipush (v := (-9)) rfl dJ6_getChars_ba4f3_86 ?_
      refine H_icmp_ge (tgt := 104) dJ6_getChars_ba4f3_88 rfl (fun q2 => ?_) (fun q2 => ?_)
      · have h9 : w < 10 := by have := (sb_nle (by decide) hw).mp (show -nI 9 ≤ -nI w from q2); omega
        have hd : sb_dg w = 1 := if_pos h9
        refine H_iload dJ6_getChars_ba4f3_104 3 rfl ?_
        refine H_if_eq (tgt := 118) dJ6_getChars_ba4f3_106 rfl (fun _ => ?_) (fun q9 => absurd rfl q9)
        refine H_iload dJ6_getChars_ba4f3_118 0 rfl ?_
        rw [show nI (p - 1) = nI n from congrArg nI (by omega)]
        refine H_drop (H_iret rfl rfl dJ6_getChars_ba4f3_120 (by omega) (by omega) (hP H1 _ zH1 oH1 h1 (fun j hj => pk_un (by omega)) (fun i hi => ?_) (fun hf => sb_fitU hf (sb_fitB _))))
        obtain rfl : i = 0 := by omega
        rw [Nat.sub_zero, Nat.pow_zero, Nat.div_one]
        exact pk_us
      · have h9 : ¬ w < 10 := fun z => q2 (show -nI 9 ≤ -nI w from (sb_nle (by decide) hw).mpr (by omega))
        have hd : sb_dg w = 2 := by rw [sb_dg, if_neg h9, if_pos h100]
        have d2 : w / 10 % 10 = w / 10 := by omega
        refine H_aload_n dJ6_getChars_ba4f3_91 rfl 2 rfl ?_
        refine H_iinc (lv2 := [(5, Value.int ((nI (p - 1)) + (-1))), (0, Value.int (-nI w)), (2, Value.ref v), (6, Value.int 0)]) dJ6_getChars_ba4f3_92 0 rfl rfl (by decide) rfl ?_
        rw [show (nI (p - 1) + (-1) : Int32) = nI (p - 1 - 1) from sb_m1 (by omega)]
        refine H_iload dJ6_getChars_ba4f3_95 0 rfl ?_
        refine H_gets2 zw_1104 dJ6_getChars_ba4f3_97 ?_
        refine H_iload_n dJ6_getChars_ba4f3_100 rfl 1 rfl ?_
        refine H_ineg dJ6_getChars_ba4f3_101 ?_
        rw [e1]
        refine H_dig2 (w := w) h100 dJ6_getChars_ba4f3_102 ?_
        refine H_bast h1 (vp_in_nI (show p - 1 - 1 < m by omega) (by omega)) hvz dJ6_getChars_ba4f3_103 (fun H2 zH2 oH2 h2 => ?_)
        rw [nI_clamp (show p - 1 - 1 < 2 ^ 31 by omega)] at h2
        refine H_iload dJ6_getChars_ba4f3_104 3 rfl ?_
        refine H_if_eq (tgt := 118) dJ6_getChars_ba4f3_106 rfl (fun _ => ?_) (fun q9 => absurd rfl q9)
        refine H_iload dJ6_getChars_ba4f3_118 0 rfl ?_
        rw [show nI (p - 1 - 1) = nI n from congrArg nI (by omega)]
        refine H_drop (H_iret rfl rfl dJ6_getChars_ba4f3_120 (by omega) (by omega) (hP H2 _ (zH2.trans zH1) (fun q hq => (oH2 q hq).trans (oH1 q hq)) h2 (fun j hj => by rw [pk_un (by omega), pk_un (by omega)]) (fun i hi => ?_) (fun hf => sb_fitU (sb_fitU hf (sb_fitB _)) (sb_fitB _))))
        obtain rfl | rfl : i = 0 ∨ i = 1 := by omega
        · rw [Nat.sub_zero, pk_un (by omega), Nat.pow_zero, Nat.div_one]
          exact pk_us
        · rw [Nat.pow_one, d2]
          exact pk_us
    · have h100 : ¬ w < 100 := fun z => q (show -nI 100 < -nI w from (sb_nlt (by decide) hw).mpr z)
      have hd := sb_dg100 (w := w) (by omega) hw
      have hd2 := (sb_dg_in (w / 100)).1
      refine H_iload_n dJ6_getChars_ba4f3_28 rfl 0 rfl ?_
      refine H_bipush (v := 100) rfl dJ6_getChars_ba4f3_29 ?_
      refine H_idiv dJ6_getChars_ba4f3_31 (by decide) ?_
      rw [show (-nI w) / 100 = -nI (w / 100) from sb_ndiv hw]
      refine H_istore_n (lv2 := [(3, Value.int (-nI (w / 100))), (0, Value.int (-nI w)), (2, Value.ref v), (5, Value.int (nI p)), (6, Value.int 0)]) dJ6_getChars_ba4f3_32 rfl (by decide) rfl ?_
      refine H_iload_n dJ6_getChars_ba4f3_33 rfl 0 rfl ?_
      refine H_bipush (v := 100) rfl dJ6_getChars_ba4f3_34 ?_
      refine H_imul dJ6_getChars_ba4f3_36 ?_
      refine H_iload_n dJ6_getChars_ba4f3_37 rfl 1 rfl ?_
      refine H_isub dJ6_getChars_ba4f3_38 ?_
      rw [show (-nI (w / 100)) * 100 - (-nI w) = nI (w % 100) from sb_nrem hw]
      refine H_istore (lv2 := [(4, Value.int (nI (w % 100))), (3, Value.int (-nI (w / 100))), (0, Value.int (-nI w)), (2, Value.ref v), (5, Value.int (nI p)), (6, Value.int 0)]) dJ6_getChars_ba4f3_39 (by decide) rfl ?_
      refine H_iload_n dJ6_getChars_ba4f3_41 rfl 1 rfl ?_
      refine H_istore_n (lv2 := [(0, Value.int (-nI (w / 100))), (4, Value.int (nI (w % 100))), (3, Value.int (-nI (w / 100))), (2, Value.ref v), (5, Value.int (nI p)), (6, Value.int 0)]) dJ6_getChars_ba4f3_42 rfl (by decide) rfl ?_
      refine H_aload_n dJ6_getChars_ba4f3_43 rfl 3 rfl ?_
      refine H_iinc (lv2 := [(5, Value.int ((nI p) + (-1))), (0, Value.int (-nI (w / 100))), (4, Value.int (nI (w % 100))), (3, Value.int (-nI (w / 100))), (2, Value.ref v), (6, Value.int 0)]) dJ6_getChars_ba4f3_44 4 rfl rfl (by decide) rfl ?_
      rw [show (nI p + (-1) : Int32) = nI (p - 1) from sb_m1 (by omega)]
      refine H_iload dJ6_getChars_ba4f3_47 0 rfl ?_
      refine H_gets1 zw_1102 dJ6_getChars_ba4f3_49 ?_
      refine H_iload dJ6_getChars_ba4f3_52 2 rfl ?_
      refine H_dig1 (w := (w % 100)) (Nat.mod_lt _ (by decide)) dJ6_getChars_ba4f3_54 ?_
      refine H_bast ha (vp_in_nI (show p - 1 < m by omega) (by omega)) hvz dJ6_getChars_ba4f3_55 (fun H1 zH1 oH1 h1 => ?_)
      rw [nI_clamp (show p - 1 < 2 ^ 31 by omega)] at h1
      refine H_aload_n dJ6_getChars_ba4f3_56 rfl 4 rfl ?_
      refine H_iinc (lv2 := [(5, Value.int ((nI (p - 1)) + (-1))), (0, Value.int (-nI (w / 100))), (4, Value.int (nI (w % 100))), (3, Value.int (-nI (w / 100))), (2, Value.ref v), (6, Value.int 0)]) dJ6_getChars_ba4f3_57 0 rfl rfl (by decide) rfl ?_
      rw [show (nI (p - 1) + (-1) : Int32) = nI (p - 1 - 1) from sb_m1 (by omega)]
      refine H_iload dJ6_getChars_ba4f3_60 0 rfl ?_
      refine H_gets2 zw_1104 dJ6_getChars_ba4f3_62 ?_
      refine H_iload dJ6_getChars_ba4f3_65 2 rfl ?_
      refine H_dig2 (w := (w % 100)) (Nat.mod_lt _ (by decide)) dJ6_getChars_ba4f3_67 ?_
      refine H_bast h1 (vp_in_nI (show p - 1 - 1 < m by omega) (by omega)) hvz dJ6_getChars_ba4f3_68 (fun H2 zH2 oH2 h2 => ?_)
      rw [nI_clamp (show p - 1 - 1 < 2 ^ 31 by omega)] at h2
      refine H_goto (tgt := 22) dJ6_getChars_ba4f3_69 rfl ?_
      refine H_pick [1, 4, 0, 5] rfl ?_
      rw [show w % 100 % 10 = w % 10 by omega, show w % 100 / 10 = w / 10 % 10 by omega] at h2
      refine ih (w / 100) (p - 1 - 1) H2 _ (by omega) (by omega) (by omega) (by omega) h2 (fun H3 a' z3 o3 h3 g1 g2 g3 => ?_)
      refine hP H3 a' (by omega) (fun q hq => by rw [o3 q hq, oH2 q hq, oH1 q hq]) h3 (fun j hj => by rw [g1 j (by omega), pk_un (by omega), pk_un (by omega)]) (fun i hi => ?_) (fun hf => g3 (sb_fitU (sb_fitU hf (sb_fitB _)) (sb_fitB _)))
      match i, hi with
      | 0, _ => rw [Nat.sub_zero, g1 _ (by omega), pk_un (by omega), Nat.pow_zero, Nat.div_one]; exact pk_us
      | 1, _ => rw [g1 _ (by omega), Nat.pow_one]; exact pk_us
      | k + 2, hi =>
        rw [show p - 1 - (k + 2) = p - 1 - 1 - 1 - k by omega, g2 k (by omega), Nat.div_div_eq_div_mul, show 100 * 10 ^ k = 10 ^ (k + 2) by rw [show k + 2 = k + 1 + 1 from rfl, Nat.pow_succ, Nat.pow_succ]; omega]
theorem hJ_getChars {v m n w p : Nat} {a : Nat → Int32} {K : hK} (hm : m ≤ 65536) (hvz : zfr G v) (hw : w < 2 ^ 31) (hpn : p = n + sb_dg w) (hpm : p ≤ m) (ha : hA G H v 4 m (.inl a))
    (hP : ∀ (H1 : Heap) (a' : Nat → Int32), H1.size = H.size → (∀ q, q ≠ v → H1[q]? = H[q]?) → hA G H1 v 4 m (.inl a') → (∀ j, j < n ∨ p ≤ j → a' j = a j) → (∀ i, i < sb_dg w → a' (p - 1 - i) = sb_b (48 + w / 10 ^ i % 10)) → (sb_Fit a → sb_Fit a') → K (some (.int (nI n))) H1) : hCal l G Y_J6_getChars_ba4f3 0 0 [Value.int (nI w), Value.int (nI p), Value.ref v] H K := by
  refine hCal_of (by decide) rfl (zle rfl) rfl ?_
  have hE : ∀ {mc ms : Nat} {K : hK}, zRm Y_J6_getChars_ba4f3 (hEM G Y_J6_getChars_ba4f3 mc ms K).1 := zRm_M
  refine H_iload_n dJ6_getChars_ba4f3_0 rfl 1 rfl ?_
  refine H_istore (lv2 := [(5, Value.int (nI p)), (0, Value.int (nI w)), (1, Value.int (nI p)), (2, Value.ref v)]) dJ6_getChars_ba4f3_1 (by decide) rfl ?_
  refine H_iload_n dJ6_getChars_ba4f3_3 rfl 1 rfl ?_
  refine H_if_ge (tgt := 11) dJ6_getChars_ba4f3_4 rfl (fun _ => ?_) (fun q9 => absurd (nI_pos' hw) q9)
  refine H_iconst (v := 0) rfl dJ6_getChars_ba4f3_11 ?_
  refine H_istore (lv2 := [(6, Value.int 0), (5, Value.int (nI p)), (0, Value.int (nI w)), (1, Value.int (nI p)), (2, Value.ref v)]) dJ6_getChars_ba4f3_12 (by decide) rfl ?_
  refine H_iload dJ6_getChars_ba4f3_14 0 rfl ?_
  refine H_if_ne (tgt := 22) dJ6_getChars_ba4f3_16 rfl (fun q9 => absurd q9 (by decide)) (fun _ => ?_)
  refine H_iload_n dJ6_getChars_ba4f3_19 rfl 2 rfl ?_
  refine H_ineg dJ6_getChars_ba4f3_20 ?_
  refine H_istore_n (lv2 := [(0, Value.int (-(nI w))), (6, Value.int 0), (5, Value.int (nI p)), (1, Value.int (nI p)), (2, Value.ref v)]) dJ6_getChars_ba4f3_21 rfl (by decide) rfl ?_
  refine H_tabs (fun t1 t2 => ?_)
  refine H_pick [0, 4, 2, 1] rfl ?_
  exact hJ_gc (n := n) hm hvz (w + 1) w p H a (by omega) hw hpn hpm ha hP
end HJ4
