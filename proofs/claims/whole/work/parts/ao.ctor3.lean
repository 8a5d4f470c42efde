/-! printed by wip/whole/h_ctor3.py: a setup, a past -/
abbrev Y_X7_init : zY := (yX7_init, cX7_init, 2, none, 6, [])
theorem zw_189 : Cond.methodLink RX7 3 objectInit ∈ zAll := zin 189 (by decide +kernel) (by decide +kernel)
theorem zw_190 : Cond.classLink RX7 9 RX5 ∈ zAll := zin 190 (by decide +kernel) (by decide +kernel)
theorem zw_191 : Cond.instantiable RX5 16 ∈ zAll := zin 191 (by decide +kernel) (by decide +kernel)
theorem zw_192 : Cond.methodLink RX7 11 yX5_init ∈ zAll := zin 192 (by decide +kernel) (by decide +kernel)
theorem zw_194 : Cond.code yX5_init cX5_init 2 none ∈ zAll := zin 194 (by decide +kernel) (by decide +kernel)
theorem zw_193 : Cond.instanceMethod yX5_init ∈ zAll := zin 193 (by decide +kernel) (by decide +kernel)
theorem hci_X7_init_X5_init_11 : hLI Y_X7_init 11 Y_X5_init 0 := ⟨zw_192, zw_193, zw_114, zw_194, rfl, rfl, by decide +kernel, by decide, by decide⟩
theorem hfp_X7_X7_12 : hFP RX7 12 11 1 true (.object "EarlyDrops$Router") := ⟨RX7, TX7, 3, tyX7, ⟨rfl, by decide, zw_379, zws_X7⟩, tyX7_ok, nmX7, rfl, by decide +kernel, fun _ => rfl⟩
theorem hfp_X7_X7_18 : hFP RX7 18 11 0 true (.object "EarlyDrops$Reader") := ⟨RX7, TX7, 3, tyX7, ⟨rfl, by decide, zw_378, zws_X7⟩, tyX7_ok, nmX7, rfl, by decide +kernel, fun _ => rfl⟩
abbrev Y_X2_init : zY := (yX2_init, cX2_init, 2, none, 6, [])
theorem hfl_X2_X2_11 : hFL RX2 11 6 0 := ⟨RX2, TX2, 3, rfl, by decide, zw_437, zws_X2⟩
theorem zw_434 : Cond.classLink RX2 9 RX5 ∈ zAll := zin 434 (by decide +kernel) (by decide +kernel)
theorem zw_436 : Cond.methodLink RX2 17 yX5_init ∈ zAll := zin 436 (by decide +kernel) (by decide +kernel)
theorem hci_X2_init_X5_init_17 : hLI Y_X2_init 17 Y_X5_init 0 := ⟨zw_436, zw_193, zw_114, zw_194, rfl, rfl, by decide +kernel, by decide, by decide⟩
theorem zw_433 : Cond.methodLink RX2 3 objectInit ∈ zAll := zin 433 (by decide +kernel) (by decide +kernel)
theorem hfp_X2_X2_11 : hFP RX2 11 6 0 true (.array (.object "EarlyDrops$Router")) := ⟨RX2, TX2, 3, tyX2, ⟨rfl, by decide, zw_437, zws_X2⟩, tyX2_ok, nmX2, rfl, by decide +kernel, fun _ => rfl⟩
theorem dX2_init_0 : decode cX2_init 0 = .ok (.aload_n 0, 1) := by decide +kernel
theorem dX2_init_1 : decode cX2_init 1 = .ok (.invokespecial 3, 3) := by decide +kernel
theorem dX2_init_4 : decode cX2_init 4 = .ok (.aload_n 0, 1) := by decide +kernel
theorem dX2_init_5 : decode cX2_init 5 = .ok (.bipush 8, 2) := by decide +kernel
theorem dX2_init_7 : decode cX2_init 7 = .ok (.anewarray 9, 3) := by decide +kernel
theorem dX2_init_10 : decode cX2_init 10 = .ok (.putfield 11, 3) := by decide +kernel
theorem dX2_init_13 : decode cX2_init 13 = .ok (.iconst 0, 1) := by decide +kernel
theorem dX2_init_14 : decode cX2_init 14 = .ok (.istore_n 1, 1) := by decide +kernel
theorem dX2_init_15 : decode cX2_init 15 = .ok (.iload_n 1, 1) := by decide +kernel
theorem dX2_init_16 : decode cX2_init 16 = .ok (.aload_n 0, 1) := by decide +kernel
theorem dX2_init_17 : decode cX2_init 17 = .ok (.getfield 11, 3) := by decide +kernel
theorem dX2_init_20 : decode cX2_init 20 = .ok (.arraylength, 1) := by decide +kernel
theorem dX2_init_21 : decode cX2_init 21 = .ok (.if_icmp .ge 22, 3) := by decide +kernel
theorem dX2_init_24 : decode cX2_init 24 = .ok (.aload_n 0, 1) := by decide +kernel
theorem dX2_init_25 : decode cX2_init 25 = .ok (.getfield 11, 3) := by decide +kernel
theorem dX2_init_28 : decode cX2_init 28 = .ok (.iload_n 1, 1) := by decide +kernel
theorem dX2_init_29 : decode cX2_init 29 = .ok (.new 9, 3) := by decide +kernel
theorem dX2_init_32 : decode cX2_init 32 = .ok (.dup, 1) := by decide +kernel
theorem dX2_init_33 : decode cX2_init 33 = .ok (.invokespecial 17, 3) := by decide +kernel
theorem dX2_init_36 : decode cX2_init 36 = .ok (.aastore, 1) := by decide +kernel
theorem dX2_init_37 : decode cX2_init 37 = .ok (.iinc 1 1, 3) := by decide +kernel
theorem dX2_init_40 : decode cX2_init 40 = .ok (.goto (-25), 3) := by decide +kernel
theorem dX2_init_43 : decode cX2_init 43 = .ok (.return_, 1) := by decide +kernel
theorem dX7_init_0 : decode cX7_init 0 = .ok (.aload_n 0, 1) := by decide +kernel
theorem dX7_init_1 : decode cX7_init 1 = .ok (.invokespecial 3, 3) := by decide +kernel
theorem dX7_init_4 : decode cX7_init 4 = .ok (.aload_n 0, 1) := by decide +kernel
theorem dX7_init_5 : decode cX7_init 5 = .ok (.new 9, 3) := by decide +kernel
theorem dX7_init_8 : decode cX7_init 8 = .ok (.dup, 1) := by decide +kernel
theorem dX7_init_9 : decode cX7_init 9 = .ok (.invokespecial 11, 3) := by decide +kernel
theorem dX7_init_12 : decode cX7_init 12 = .ok (.putfield 12, 3) := by decide +kernel
theorem dX7_init_15 : decode cX7_init 15 = .ok (.aload_n 0, 1) := by decide +kernel
theorem dX7_init_16 : decode cX7_init 16 = .ok (.aload_n 1, 1) := by decide +kernel
theorem dX7_init_17 : decode cX7_init 17 = .ok (.putfield 18, 3) := by decide +kernel
theorem dX7_init_20 : decode cX7_init 20 = .ok (.return_, 1) := by decide +kernel
section HCT3
variable {l : Launch} {G : zG} {H : Heap}
theorem ct_X7 {a x : Nat} (ho : hO G H a 11 (vp_V [Value.null, Value.null, Value.int 0])) (haz : zfr G a) (hz : gz G ≤ H.size ∧ ga G 50 0 < H.size ∧ ga G 51 0 < H.size) : hCal l G Y_X7_init 18 453 [Value.ref a, Value.ref x] H (fun r H1 => r = none ∧ H1.size = H.size + 18 ∧ (∀ q, q < H.size → q ≠ a → H1[q]? = H[q]?) ∧ Rtr G H1 H.size ∧ hO G H1 a 11 (vp_V [Value.ref x, Value.ref H.size, Value.int 0])) := by
  refine hCal_of (by decide) rfl (zle rfl) rfl ?_
  have hE : ∀ {mc ms : Nat} {K : hK}, zRm Y_X7_init (hEM G Y_X7_init mc ms K).1 := zRm_M
  have hal := ho.lt
  refine H_aload_n dX7_init_0 rfl 0 rfl ?_
  refine H_objInit zw_189 zw_146 zw_147 hE (by decide) (zle rfl) dX7_init_1 ?_
  refine H_aload_n dX7_init_4 rfl 0 rfl ?_
  refine H_new (ci := 9) (N := 16) (V := vp_V [Value.int 0, Value.int 0, Value.int 0, Value.int 0, Value.int 0, Value.int 0, Value.int 0, Value.int 0, Value.int 0, Value.int 0, Value.int 0, Value.int 0, Value.int 0, Value.null, Value.null, Value.null]) tyX5 rfl zws_X5 tyX5_ok zw_190 zw_191 zw_114 (fun j hj => by have h4 : j = 0 ∨ j = 1 ∨ j = 2 ∨ j = 3 ∨ j = 4 ∨ j = 5 ∨ j = 6 ∨ j = 7 ∨ j = 8 ∨ j = 9 ∨ j = 10 ∨ j = 11 ∨ j = 12 ∨ j = 13 ∨ j = 14 ∨ j = 15 := (by omega); rcases h4 with e | e | e | e | e | e | e | e | e | e | e | e | e | e | e | e <;> subst e <;> rfl) (by show 1 ≤ 18; omega) (by show 16 ≤ 453; omega) dX7_init_5 (fun H1 z1 o1 ro => ?_)
  have z1 : H1.size = H.size + 1 := by omega
  replace ho := ho.kept (o1 a (by omega))
  refine H_dup rfl dX7_init_8 ?_
  refine H_callI (as := []) (st := [Value.ref H.size, Value.ref a]) (mc' := 17) (ms' := 437) hE hci_X7_init_X5_init_11 rfl rfl (zle rfl) dX7_init_9 ⟨by show 18 ≤ 18; omega, by show 453 ≤ 453; omega⟩ (ct_X5 ro (zfr_gt (by omega)) (by omega) (by omega)) (fun r2 H2 q2 => ?_)
  obtain ⟨rfl, z2, o2, rt⟩ := q2
  simp only [z1, Nat.add_assoc, Nat.reduceAdd] at z2 o2 rt
  have z2 : H2.size = H.size + 18 := by omega
  replace ho := ho.kept (o2 a (by omega) (by omega))
  refine H_putV (fs2 := [Value.null, Value.ref H.size, Value.int 0]) hfp_X7_X7_12 (fun _ => rfl) ho rfl (zle rfl) rfl rfl (by omega) dX7_init_12 (fun H3 z3 o3 hoN => ?_)
  have z3 : H3.size = H.size + 18 := by omega
  replace rt := rt.kept (fun q q1 q2 => o3 q (by omega))
  have ho := hoN
  refine H_aload_n dX7_init_15 rfl 0 rfl ?_
  refine H_aload_n dX7_init_16 rfl 1 rfl ?_
  refine H_putV (fs2 := [Value.ref x, Value.ref H.size, Value.int 0]) hfp_X7_X7_18 (fun _ => rfl) ho rfl (zle rfl) rfl rfl (by omega) dX7_init_17 (fun H4 z4 o4 hoN => ?_)
  have z4 : H4.size = H.size + 18 := by omega
  replace rt := rt.kept (fun q q1 q2 => o4 q (by omega))
  have ho := hoN
  exact H_vret rfl dX7_init_20 (by show 18 ≤ 18; omega) (by show 453 ≤ 453; omega) ⟨rfl, z4, fun q hq hqa => ((o4 q (by omega)).trans ((o3 q (by omega)).trans ((o2 q (by omega) (by omega)).trans (o1 q (by omega))))), rt, ho⟩
def LS2 (G : zG) (H : Heap) (a i : Nat) (H1 : Heap) : Prop := (H1.size = H.size + 1 + 18 * i) ∧ (∀ q, q < H.size → q ≠ a → H1[q]? = H[q]?) ∧ (hO G H1 a 6 (vp_V [Value.ref H.size, Value.int 0, Value.int 0])) ∧ (hA G H1 H.size 7 8 (refs (fun j => if j < i then some (H.size + 1 + 18 * j) else none))) ∧ (∀ j, j < i → Rtr G H1 (H.size + 1 + 18 * j))
theorem LS2.sz {G : zG} {H : Heap} {a i : Nat} {H1 : Heap} (h9 : LS2 G H a i H1) : H1.size = H.size + 1 + 18 * i := h9.1
theorem LS2.old {G : zG} {H : Heap} {a i : Nat} {H1 : Heap} (h9 : LS2 G H a i H1) : ∀ q, q < H.size → q ≠ a → H1[q]? = H[q]? := h9.2.1
theorem LS2.ob {G : zG} {H : Heap} {a i : Nat} {H1 : Heap} (h9 : LS2 G H a i H1) : hO G H1 a 6 (vp_V [Value.ref H.size, Value.int 0, Value.int 0]) := h9.2.2.1
theorem LS2.arr {G : zG} {H : Heap} {a i : Nat} {H1 : Heap} (h9 : LS2 G H a i H1) : hA G H1 H.size 7 8 (refs (fun j => if j < i then some (H.size + 1 + 18 * j) else none)) := h9.2.2.2.1
theorem LS2.rt {G : zG} {H : Heap} {a i : Nat} {H1 : Heap} (h9 : LS2 G H a i H1) : ∀ j, j < i → Rtr G H1 (H.size + 1 + 18 * j) := h9.2.2.2.2
theorem LS2.mk {G : zG} {H : Heap} {a i : Nat} {H1 : Heap} (sz : H1.size = H.size + 1 + 18 * i) (old : ∀ q, q < H.size → q ≠ a → H1[q]? = H[q]?) (ob : hO G H1 a 6 (vp_V [Value.ref H.size, Value.int 0, Value.int 0])) (arr : hA G H1 H.size 7 8 (refs (fun j => if j < i then some (H.size + 1 + 18 * j) else none))) (rt : ∀ j, j < i → Rtr G H1 (H.size + 1 + 18 * j)) : LS2 G H a i H1 := ⟨sz, old, ob, arr, rt⟩
theorem lp_X2 {a : Nat} (haz : zfr G a) (hz : gz G ≤ H.size ∧ ga G 50 0 < H.size ∧ ga G 51 0 < H.size) (hal : a < H.size) :
    ∀ d i, i + d = 8 → ∀ Hb : Heap, LS2 G H a i Hb → hAt l G Y_X2_init (hEM G Y_X2_init 145 3632 (fun r H1 => r = none ∧ H1.size = H.size + 145 ∧ (∀ q, q < H.size → q ≠ a → H1[q]? = H[q]?) ∧ hA G H1 H.size 7 8 (refs (fun j => some (H.size + 1 + 18 * j))) ∧ hO G H1 a 6 (vp_V [Value.ref H.size, Value.int 0, Value.int 0]) ∧ ∀ j, j < 8 → Rtr G H1 (H.size + 1 + 18 * j))) 15 [(1, Value.int (nI i)), (0, Value.ref a)] [] Hb (1 + 18 * i) (8 + 453 * i) := by
  have hE : ∀ {mc ms : Nat} {K : hK}, zRm Y_X2_init (hEM G Y_X2_init mc ms K).1 := zRm_M
  intro d
  induction d with
  | zero =>
    intro i hi Hb hL
    obtain ⟨hs, old, ob, arr, rt⟩ := hL
    refine H_iload_n dX2_init_15 rfl 0 rfl ?_
    refine H_aload_n dX2_init_16 rfl 1 rfl ?_
    refine H_getV hfl_X2_X2_11 ob rfl dX2_init_17 ?_
    refine H_alenR arr (by decide) dX2_init_20 ?_
    refine H_icmp_ge (tgt := 43) dX2_init_21 rfl (fun _ => ?_) (fun q9 => absurd (by rw [ti_le, ti_nI (by omega), ti_nI (by omega)]; omega) q9)
    exact H_vret rfl dX2_init_43 (by show 1 + 18 * i ≤ 145; omega) (by show 8 + 453 * i ≤ 3632; omega) ⟨rfl, by omega, old, hA.cong arr fun j hj => if_pos (by omega), ob, fun j hj => rt j (by omega)⟩
  | succ d ih =>
    intro i hi Hb hL
    obtain ⟨hs, old, ob, arr, rt⟩ := hL
    refine H_iload_n dX2_init_15 rfl 0 rfl ?_
    refine H_aload_n dX2_init_16 rfl 1 rfl ?_
    refine H_getV hfl_X2_X2_11 ob rfl dX2_init_17 ?_
    refine H_alenR arr (by decide) dX2_init_20 ?_
    refine H_icmp_ge (tgt := 43) dX2_init_21 rfl (fun q9 => absurd q9 (by rw [ti_le, ti_nI (by omega), ti_nI (by omega)]; omega)) (fun _ => ?_)
    refine H_aload_n dX2_init_24 rfl 1 rfl ?_
    refine H_getV hfl_X2_X2_11 ob rfl dX2_init_25 ?_
    refine H_iload_n dX2_init_28 rfl 0 rfl ?_
    refine H_new (ci := 9) (N := 16) (V := vp_V [Value.int 0, Value.int 0, Value.int 0, Value.int 0, Value.int 0, Value.int 0, Value.int 0, Value.int 0, Value.int 0, Value.int 0, Value.int 0, Value.int 0, Value.int 0, Value.null, Value.null, Value.null]) tyX5 rfl zws_X5 tyX5_ok zw_434 zw_191 zw_114 (fun j hj => by have h4 : j = 0 ∨ j = 1 ∨ j = 2 ∨ j = 3 ∨ j = 4 ∨ j = 5 ∨ j = 6 ∨ j = 7 ∨ j = 8 ∨ j = 9 ∨ j = 10 ∨ j = 11 ∨ j = 12 ∨ j = 13 ∨ j = 14 ∨ j = 15 := (by omega); rcases h4 with e | e | e | e | e | e | e | e | e | e | e | e | e | e | e | e <;> subst e <;> rfl) (by show 1 + 18 * i + 1 ≤ 145; omega) (by show 8 + 453 * i + 16 ≤ 3632; omega) dX2_init_29 (fun H1 z1 o1 ro => ?_)
    have z1 : H1.size = Hb.size + 1 := by omega
    replace ob := ob.kept (o1 a (by omega))
    replace arr := (o1 H.size (by omega)).trans arr
    replace rt := fun j hj => (rt j hj).kept (fun q q1 q2 => o1 q (by omega))
    refine H_dup rfl dX2_init_32 ?_
    refine H_callI (as := []) (st := [Value.ref Hb.size, Value.int (nI i), Value.ref H.size]) (mc' := 17) (ms' := 437) hE hci_X2_init_X5_init_17 rfl rfl (zle rfl) dX2_init_33 ⟨by show 1 + 18 * i + 18 ≤ 145; omega, by show 8 + 453 * i + 453 ≤ 3632; omega⟩ (ct_X5 ro (zfr_gt (by omega)) (by omega) (by omega)) (fun r2 H2 q2 => ?_)
    obtain ⟨rfl, z2, o2, rn⟩ := q2
    simp only [z1, Nat.add_assoc, Nat.reduceAdd] at z2 o2 rn
    have z2 : H2.size = Hb.size + 18 := by omega
    replace ob := ob.kept (o2 a (by omega) (by omega))
    replace arr := (o2 H.size (by omega) (by omega)).trans arr
    replace rt := fun j hj => (rt j hj).kept (fun q q1 q2 => o2 q (by omega) (by omega))
    refine H_aast (t := 7) (ci := 9) (by decide) rfl rfl arr rn.ob.rc (ti_in (by rw [ti_nI (by omega)]; omega)) (zfr_gt (by omega)) dX2_init_36 (fun H3 z3 o3 arr2 => ?_)
    have z3 : H3.size = Hb.size + 18 := by omega
    replace ob := ob.kept (o3 a (by omega))
    replace rt := fun j hj => (rt j hj).kept (fun q q1 q2 => o3 q (by omega))
    replace rn := rn.kept (fun q q1 q2 => o3 q (by omega))
    rw [ti_at (ti_nI (show i < 2147483648 by omega))] at arr2
    refine H_iinc (lv2 := [(1, Value.int ((nI i) + 1)), (0, Value.ref a)]) dX2_init_37 0 rfl rfl (by decide) rfl ?_
    refine H_goto (tgt := 15) dX2_init_40 rfl ?_
    rw [show nI i + 1 = nI (i + 1) from nI_ofT (ti_inc (ti_nI (by omega)) (by omega))]
    rw [show 1 + 18 * i + 1 + 17 = 1 + 18 * (i + 1) by omega, show 8 + 453 * i + 16 + 437 = 8 + 453 * (i + 1) by omega]
    refine ih (i + 1) (by omega) H3 (LS2.mk (by omega) (fun q q1 q2 => (((o3 q (by omega)).trans ((o2 q (by omega) (by omega)).trans (o1 q (by omega))))).trans (old q q1 q2)) ob (hA.cong arr2 fun j hj => ?_) fun j hj => ?_)
    · by_cases c : j = i
      · rw [if_pos c, if_pos (by omega), c, hs]
      · rw [if_neg c]
        by_cases c2 : j < i
        · rw [if_pos c2, if_pos (by omega)]
        · rw [if_neg c2, if_neg (by omega)]
    · by_cases c : j = i
      · rw [c, show H.size + 1 + 18 * i = Hb.size from hs.symm]
        exact rn
      · exact rt j (by omega)
theorem ct_X2 {a : Nat} (ho : hO G H a 6 (vp_V [Value.null, Value.int 0, Value.int 0])) (haz : zfr G a) (hz : gz G ≤ H.size ∧ ga G 50 0 < H.size ∧ ga G 51 0 < H.size) : hCal l G Y_X2_init 145 3632 [Value.ref a] H (fun r H1 => r = none ∧ H1.size = H.size + 145 ∧ (∀ q, q < H.size → q ≠ a → H1[q]? = H[q]?) ∧ hA G H1 H.size 7 8 (refs (fun j => some (H.size + 1 + 18 * j))) ∧ hO G H1 a 6 (vp_V [Value.ref H.size, Value.int 0, Value.int 0]) ∧ ∀ j, j < 8 → Rtr G H1 (H.size + 1 + 18 * j)) := by
  refine hCal_of (by decide) rfl (zle rfl) rfl ?_
  have hE : ∀ {mc ms : Nat} {K : hK}, zRm Y_X2_init (hEM G Y_X2_init mc ms K).1 := zRm_M
  have hal := ho.lt
  refine H_aload_n dX2_init_0 rfl 0 rfl ?_
  refine H_objInit zw_433 zw_146 zw_147 hE (by decide) (zle rfl) dX2_init_1 ?_
  refine H_aload_n dX2_init_4 rfl 0 rfl ?_
  refine H_bipush (v := 8) rfl dX2_init_5 ?_
  refine H_anewa (t := 7) (n := 8) (by decide) rfl zw_434 (fun U h => h.2.2.2.1.2.1) rfl (by decide) (by show 1 ≤ 145; omega) (by show 8 ≤ 3632; omega) dX2_init_7 (fun H1 z1 o1 arr => ?_)
  have z1 : H1.size = H.size + 1 := by omega
  replace ho := ho.kept (o1 a (by omega))
  refine H_putV (fs2 := [Value.ref H.size, Value.int 0, Value.int 0]) hfp_X2_X2_11 (fun _ => rfl) ho rfl (zle rfl) rfl rfl (by omega) dX2_init_10 (fun H2 z2 o2 hoN => ?_)
  have z2 : H2.size = H.size + 1 := by omega
  replace arr := (o2 H.size (by omega)).trans arr
  have ho := hoN
  refine H_iconst (v := 0) rfl dX2_init_13 ?_
  refine H_istore_n (lv2 := [(1, Value.int 0), (0, Value.ref a)]) dX2_init_14 rfl (by decide) rfl ?_
  exact lp_X2 haz hz hal 8 0 rfl H2 (LS2.mk (by omega) (fun q hq hqa => ((o2 q (by omega)).trans (o1 q (by omega)))) ho (hA.cong arr fun j _ => (if_neg (by omega)).symm) (fun j hj => absurd hj (by omega)))
end HCT3
