/-! printed by wip/whole/h_*.py -/
theorem hfl_X4_X4_19 : hFL RX4 19 8 1 := ⟨RX4, TX4, 7, rfl, by decide, zw_156, zws_X4⟩
theorem hfl_X4_X4_9 : hFL RX4 9 8 0 := ⟨RX4, TX4, 7, rfl, by decide, zw_154, zws_X4⟩
theorem hfl_X4_X4_31 : hFL RX4 31 8 3 := ⟨RX4, TX4, 7, rfl, by decide, zw_160, zws_X4⟩
theorem hcv_X4_word_X4_byteAt_34 : zLV Y_X4_word 34 Y_X4_byteAt 1 RX4 := ⟨zw_537, zw_539, zw_0, zw_112, zw_540, by decide +kernel, by decide, by decide⟩
theorem dX4_word_0 : decode cX4_word 0 = .ok (.aload_n 0, 1) := by decide +kernel
theorem dX4_word_1 : decode cX4_word 1 = .ok (.getfield 25, 3) := by decide +kernel
theorem dX4_word_4 : decode cX4_word 4 = .ok (.aload_n 0, 1) := by decide +kernel
theorem dX4_word_5 : decode cX4_word 5 = .ok (.getfield 31, 3) := by decide +kernel
theorem dX4_word_8 : decode cX4_word 8 = .ok (.isub, 1) := by decide +kernel
theorem dX4_word_9 : decode cX4_word 9 = .ok (.istore_n 1, 1) := by decide +kernel
theorem dX4_word_10 : decode cX4_word 10 = .ok (.iload_n 1, 1) := by decide +kernel
theorem dX4_word_11 : decode cX4_word 11 = .ok (.ifCond .lt 9, 3) := by decide +kernel
theorem dX4_word_14 : decode cX4_word 14 = .ok (.iload_n 1, 1) := by decide +kernel
theorem dX4_word_15 : decode cX4_word 15 = .ok (.bipush 8, 2) := by decide +kernel
theorem dX4_word_17 : decode cX4_word 17 = .ok (.if_icmp .le 6, 3) := by decide +kernel
theorem dX4_word_20 : decode cX4_word 20 = .ok (.ldc 83, 2) := by decide +kernel
theorem dX4_word_22 : decode cX4_word 22 = .ok (.areturn, 1) := by decide +kernel
theorem dX4_word_23 : decode cX4_word 23 = .ok (.iload_n 1, 1) := by decide +kernel
theorem dX4_word_24 : decode cX4_word 24 = .ok (.newarray .char, 2) := by decide +kernel
theorem dX4_word_26 : decode cX4_word 26 = .ok (.astore_n 2, 1) := by decide +kernel
theorem dX4_word_27 : decode cX4_word 27 = .ok (.iconst 0, 1) := by decide +kernel
theorem dX4_word_28 : decode cX4_word 28 = .ok (.istore_n 3, 1) := by decide +kernel
theorem dX4_word_29 : decode cX4_word 29 = .ok (.iload_n 3, 1) := by decide +kernel
theorem dX4_word_30 : decode cX4_word 30 = .ok (.aload_n 2, 1) := by decide +kernel
theorem dX4_word_31 : decode cX4_word 31 = .ok (.arraylength, 1) := by decide +kernel
theorem dX4_word_32 : decode cX4_word 32 = .ok (.if_icmp .ge 23, 3) := by decide +kernel
theorem dX4_word_35 : decode cX4_word 35 = .ok (.aload_n 2, 1) := by decide +kernel
theorem dX4_word_36 : decode cX4_word 36 = .ok (.iload_n 3, 1) := by decide +kernel
theorem dX4_word_37 : decode cX4_word 37 = .ok (.aload_n 0, 1) := by decide +kernel
theorem dX4_word_38 : decode cX4_word 38 = .ok (.aload_n 0, 1) := by decide +kernel
theorem dX4_word_39 : decode cX4_word 39 = .ok (.getfield 31, 3) := by decide +kernel
theorem dX4_word_42 : decode cX4_word 42 = .ok (.iload_n 3, 1) := by decide +kernel
theorem dX4_word_43 : decode cX4_word 43 = .ok (.iadd, 1) := by decide +kernel
theorem dX4_word_44 : decode cX4_word 44 = .ok (.invokevirtual 34, 3) := by decide +kernel
theorem dX4_word_47 : decode cX4_word 47 = .ok (.i2c, 1) := by decide +kernel
theorem dX4_word_48 : decode cX4_word 48 = .ok (.castore, 1) := by decide +kernel
theorem dX4_word_49 : decode cX4_word 49 = .ok (.iinc 3 1, 3) := by decide +kernel
theorem dX4_word_52 : decode cX4_word 52 = .ok (.goto (-23), 3) := by decide +kernel
theorem dX4_word_55 : decode cX4_word 55 = .ok (.new 49, 3) := by decide +kernel
theorem dX4_word_58 : decode cX4_word 58 = .ok (.dup, 1) := by decide +kernel
theorem dX4_word_59 : decode cX4_word 59 = .ok (.aload_n 2, 1) := by decide +kernel
theorem dX4_word_60 : decode cX4_word 60 = .ok (.invokespecial 85, 3) := by decide +kernel
theorem dX4_word_63 : decode cX4_word 63 = .ok (.areturn, 1) := by decide +kernel
section HW0
variable {l : Launch} {G : zG} {Y : zY} {E : zE} {pc : Nat} {lv : List (Nat × Value)} {st : List Value} {H : Heap} {c k : Nat}
theorem H_iald {v n : Nat} {f : Nat → Int32} {x : Int32} (hb : hA G H v 0 n (.inl f)) (hin : vp_in x n) (d : decode (zyC Y) pc = .ok (.iaload, 1)) (h : hAt l G Y E (pc + 1) lv (.int (f x.toNatClampNeg) :: st) H c k) : hAt l G Y E pc lv (.int x :: .ref v :: st) H c k := by
  intro p e s m args below meth cd locs ls C hN hR hlo hl
  have hlt : x.toNatClampNeg < n := Nat.not_le.mp fun q => hin (Or.inr q)
  exact W.iald (v := .int (f x.toNatClampNeg)) C.1 C.2.1 hb (zarrT C (t := 0) (by decide) n (fun j => .int (f j))) (fun q => by cases q) (by show ¬ (x < 0 ∨ (arrV _ _ _).slots.size ≤ _); rw [arrV_size]; exact hin) (by show (arrV _ _ _).slots[_]? = _; rw [arrV_read _ _ hlt]) rfl rfl d (h p e s m args below meth cd locs ls C hN hR hlo hl)
theorem H_cast {v n : Nat} {f : Nat → Int32} {x y : Int32} (hb : hA G H v 3 n (.inl f)) (hin : vp_in x n) (ha : zfr G v) (hn : narrow .char (.int y) = .int y) (d : decode (zyC Y) pc = .ok (.castore, 1))
    (h : ∀ H1 : Heap, H1.size = H.size → (∀ q, q ≠ v → H1[q]? = H[q]?) → hA G H1 v 3 n (.inl (upd f x.toNatClampNeg y)) → hAt l G Y E (pc + 1) lv st H1 c k) : hAt l G Y E pc lv (.int y :: .int x :: .ref v :: st) H c k := by
  intro p e s m args below meth cd locs ls C hN hR hlo hl
  refine W.cast C.1 C.2.1 hb (zarrT C (t := 3) (by decide) n (fun j => .int (f j))) (fun q => by cases q) (by show ¬ (x < 0 ∨ (arrV _ _ _).slots.size ≤ _); rw [arrV_size]; exact hin) rfl rfl d fun H1 e1 e2 e3 => ?_
  refine h H1 e2 e3 ?_ p e s m args below meth cd _ ls C hN (hR.put ha.1 e2 e3) (fun q hq => ?_) hl
  · rw [hn] at e1
    refine e1.trans (congrArg some ?_)
    show (arrV (gA G 3) n fun j => .int (f j)).setSlot _ _ = arrV (gA G 3) n fun j => .int (upd f x.toNatClampNeg y j)
    rw [arrV_store]
    refine congrArg (arrV (gA G 3) n) ?_
    funext j
    unfold updV upd
    split <;> rfl
  · rcases List.mem_append.mp hq with h1 | h1
    · exact hlo q h1
    · rw [List.mem_singleton.mp h1]
      exact ha
end HW0
section HW1
variable {l : Launch} {G : zG} {H : Heap} {M : zM}
theorem hX_byteAt {i F : Nat} {K : hK} (ho : hO G H (ga G 1 0) 8 (zfv G M 1 0)) (hb : hA G H (ga G 2 0) 0 500 (.inl (zmI M 2 0))) (hlen : zmI M 1 0 1 = nI F) (hF : F ≤ 500) (hi : i < F) (hp : K (some (.int (zmI M 2 0 i))) H) : hCal l G Y_X4_byteAt 0 0 [Value.ref (ga G 1 0), Value.int (nI i)] H K := by
  refine hCal_of (by decide) rfl (zle rfl) rfl ?_
  have hE : ∀ {mc ms : Nat} {K : hK}, zRm Y_X4_byteAt (hEM G Y_X4_byteAt mc ms K).1 := zRm_M
  refine H_iload_n dX4_byteAt_0 rfl 1 rfl ?_
  refine H_if_lt (tgt := 30) dX4_byteAt_1 rfl (fun q9 => absurd q9 (nI_pos (by omega))) (fun _ => ?_)
  refine H_iload_n dX4_byteAt_4 rfl 1 rfl ?_
  refine H_aload_n dX4_byteAt_5 rfl 0 rfl ?_
  refine H_getO hfl_X4_X4_19 ho dX4_byteAt_6 ?_
  rw [show zfv G M 1 0 1 = Value.int (zmI M 1 0 1) from rfl]
  rw [hlen]
  refine H_icmp_ge (tgt := 30) dX4_byteAt_9 rfl (fun q9 => absurd q9 (fun z => absurd (ti_le.mp z) (by rw [ti_nI (by omega), ti_nI (by omega)]; omega))) (fun _ => ?_)
  refine H_iload_n dX4_byteAt_12 rfl 1 rfl ?_
  refine H_aload_n dX4_byteAt_13 rfl 0 rfl ?_
  refine H_getO hfl_X4_X4_9 ho dX4_byteAt_14 ?_
  rw [show zfv G M 1 0 0 = Value.ref (ga G 2 0) from rfl]
  refine H_alenI hb (by decide) dX4_byteAt_17 ?_
  refine H_icmp_ge (tgt := 30) dX4_byteAt_18 rfl (fun q9 => absurd q9 (fun z => absurd (ti_le.mp z) (by rw [ti_nI (by omega), ti_nI (by omega)]; omega))) (fun _ => ?_)
  refine H_aload_n dX4_byteAt_21 rfl 0 rfl ?_
  refine H_getO hfl_X4_X4_9 ho dX4_byteAt_22 ?_
  rw [show zfv G M 1 0 0 = Value.ref (ga G 2 0) from rfl]
  refine H_iload_n dX4_byteAt_25 rfl 1 rfl ?_
  refine H_iald hb (vp_in_nI (show i < 500 by omega) (by omega)) dX4_byteAt_26 ?_
  rw [nI_clamp (show i < 2 ^ 31 by omega)]
  refine H_goto (tgt := 31) dX4_byteAt_27 rfl ?_
  exact H_iret rfl rfl dX4_byteAt_31 (by omega) (by omega) hp
theorem wc_16 {c : Nat} (h : c < 65536) : ((nI c).toUInt32 % 65536).toInt32 = nI c := by
  apply Int32.toBitVec_inj.mp
  apply BitVec.eq_of_toNat_eq
  show (((nI c).toUInt32 % 65536).toInt32).toBitVec.toNat = (nI c).toBitVec.toNat
  have e1 : (nI c).toBitVec.toNat = c := by
    show (Int32.ofNat c).toBitVec.toNat = c
    simp
    omega
  have e2 : (((nI c).toUInt32 % 65536).toInt32).toBitVec.toNat = (nI c).toBitVec.toNat % 65536 := rfl
  rw [e2, e1, Nat.mod_eq_of_lt h]
theorem hX_wordl {u n a F mc ms c k : Nat} {b : Nat → Int32} {K : hK} (hn : n ≤ 8) (huz : zfr G u) (hu1 : ¬ ga G 1 0 = u) (hu2 : ¬ ga G 2 0 = u) (hlen : zmI M 1 0 1 = nI F) (hF : F ≤ 500) (hst : zmI M 1 0 3 = nI a) (haF : a + n ≤ F) (hbb : ∀ j, j < F → zmI M 2 0 j = b j) (hb : ∀ j, j < F → 1 ≤ (b j).toInt ∧ (b j).toInt ≤ 255) (hcm : c ≤ mc) (hkm : k ≤ ms) : ∀ (d j : Nat) (H : Heap) (g : Nat → Int32), j + d = n → hO G H (ga G 1 0) 8 (zfv G M 1 0) → hA G H (ga G 2 0) 0 500 (.inl (zmI M 2 0)) → hA G H u 3 n (.inl g) →
    (∀ i, i < j → g i = b (a + i)) →
    (∀ (H1 : Heap) (g' : Nat → Int32), H1.size = H.size → (∀ q, q ≠ u → H1[q]? = H[q]?) → hA G H1 u 3 n (.inl g') → (∀ i, i < n → g' i = b (a + i)) → hAt l G Y_X4_word (hEM G Y_X4_word mc ms K) 55 [(2, Value.ref u)] [] H1 c k) →
    hAt l G Y_X4_word (hEM G Y_X4_word mc ms K) 29 [(0, Value.ref (ga G 1 0)), (1, Value.int (nI n)), (2, Value.ref u), (3, Value.int (nI j))] [] H c k := by
  have hE : ∀ {mc ms : Nat} {K : hK}, zRm Y_X4_word (hEM G Y_X4_word mc ms K).1 := zRm_M
  intro d
  induction d with
  | zero =>
    intro j H g hj ho hbA hu hg hP
    refine H_iload_n dX4_word_29 rfl 3 rfl ?_
    refine H_aload_n dX4_word_30 rfl 2 rfl ?_
    refine H_alenI hu (by decide) dX4_word_31 ?_
    refine H_icmp_ge (tgt := 55) dX4_word_32 rfl (fun q => ?_) (fun q => ?_)
    · refine H_pick [2] rfl (hP H g rfl (fun _ _ => rfl) hu (fun i hi => hg i (by omega)))
    · exfalso
      exact q (ti_le.mpr (by rw [ti_nI (by omega), ti_nI (by omega)]; omega))
  | succ d ih =>
    intro j H g hj ho hbA hu hg hP
    refine H_iload_n dX4_word_29 rfl 3 rfl ?_
    refine H_aload_n dX4_word_30 rfl 2 rfl ?_
    refine H_alenI hu (by decide) dX4_word_31 ?_
    refine H_icmp_ge (tgt := 55) dX4_word_32 rfl (fun q => ?_) (fun q => ?_)
    · exfalso
      rw [ti_le, ti_nI (by omega), ti_nI (by omega)] at q
      omega
    · have hjn : j < n := by omega
      refine H_aload_n dX4_word_35 rfl 2 rfl ?_
      refine H_iload_n dX4_word_36 rfl 3 rfl ?_
      refine H_aload_n dX4_word_37 rfl 0 rfl ?_
      refine H_aload_n dX4_word_38 rfl 0 rfl ?_
      refine H_getO hfl_X4_X4_31 ho dX4_word_39 ?_
      rw [show zfv G M 1 0 3 = Value.int (zmI M 1 0 3) from rfl]
      rw [hst]
      refine H_iload_n dX4_word_42 rfl 3 rfl ?_
      refine H_iadd dX4_word_43 ?_
      rw [show (nI a + nI j : Int32) = nI (a + j) from nI_add a j]
      refine H_callV (as := [Value.int (nI (a + j))]) (st := [Value.int (nI j), Value.ref u]) (mc' := 0) (ms' := 0) hE hcv_X4_word_X4_byteAt_34 rfl ho.rc rfl rfl (zle rfl) dX4_word_44 ⟨by show c + 0 ≤ mc; omega, by show k + 0 ≤ ms; omega⟩ (hX_byteAt (K := fun r H1 => r = some (.int (zmI M 2 0 (a + j))) ∧ H = H1) ho hbA hlen hF (by omega) ⟨rfl, rfl⟩) (fun r1 H1 q1 => ?_)
      obtain ⟨rfl, rfl⟩ := q1
      rw [hbb (a + j) (by omega)]
      have hbj := hb (a + j) (by omega)
      have hnb : b (a + j) = nI (b (a + j)).toInt.toNat := nI_ofT (by omega)
      refine H_i2c dX4_word_47 ?_
      rw [show ((b (a + j)).toUInt32 % 65536).toInt32 = b (a + j) from by rw [hnb]; exact wc_16 (by omega)]
      refine H_cast hu (vp_in_nI (show j < n by omega) (by omega)) huz (by rw [hnb]; exact (pk_charN (by omega)).1) dX4_word_48 (fun H1 z1 o1 h1 => ?_)
      rw [nI_clamp (show j < 2 ^ 31 by omega)] at h1
      refine H_iinc (lv2 := [(3, Value.int ((nI j) + 1)), (0, Value.ref (ga G 1 0)), (1, Value.int (nI n)), (2, Value.ref u)]) dX4_word_49 3 rfl rfl (by decide) rfl ?_
      refine H_goto (tgt := 29) dX4_word_52 rfl ?_
      rw [show (nI j + 1 : Int32) = nI (j + 1) from nI_1 j]
      refine H_pick [1, 2, 3, 0] rfl ?_
      refine ih (j + 1) H1 _ (by omega) (ho.kept (o1 _ hu1)) ((o1 _ hu2).trans hbA) h1 (fun i hi => ?_) (fun H2 g2 z2 o2 h2 a2 => hP H2 g2 (z2.trans z1) (fun q hq => (o2 q hq).trans (o1 q hq)) h2 a2)
      by_cases c : i = j
      · rw [c]; exact if_pos rfl
      · rw [show upd g j (b (a + j)) i = g i from if_neg c]; exact hg i (by omega)
end HW1
