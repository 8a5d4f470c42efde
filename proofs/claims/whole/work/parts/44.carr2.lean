section
variable {l : Launch} {G : zG} {M : zM} {r : Nat} {w : Nat → Int32} {e : Bool}
/-- the end of an arrival: what was decided is written down -/
theorem C_arr_end {i n a L K : Nat} {way out counted ch dr s0 : Int32} {w' : Nat → Int32} {M2 : zM} {Kf : Int32 → zM → Prop} (hn : n ≤ 6) (hi : i < n) (hF : zFr r M M2)
    (g17 : M2.1 17 = M.1 17) (g18 : M2.2.1 18 = M.2.1 18) (g19 : M2.1 19 = M.1 19) (g20 : M2.1 20 = M.1 20) (g21 : M2.1 21 = M.1 21) (g22 : M2.1 22 = M.1 22) (gN : M2.2.2.2 = M.2.2.2)
    (hN : (zmI M 19 r 1).toInt ≤ 40 ∧ 0 ≤ (zmI M 19 r 1).toInt) (hN2 : out ≠ 2 → (zmI M 19 r 1).toInt < 40)
    (ha : (out = 0 ∧ a = 0) ∨ (out = 1 ∧ a = 1) ∨ (out = 2 ∧ way = 0 ∧ a = 4) ∨ (out = 2 ∧ way = 2 ∧ a = 3) ∨ (out = 2 ∧ way = 3 ∧ a = 2))
    (ht : zmI M 17 (6 * r + i) 8 = 0 ∨ zmI M 17 (6 * r + i) 8 = 1) (hL : L < 24) (hK : K ≤ 24) (hb2 : zmI M 21 r 2 = nI L) (hb1 : zmI M 21 r 1 = nI K) (h11 : (w' 11).toInt = n)
    (pA : RA (zup (zmI M2 15 r) 9 s0) w' e)
    (pF : ∀ j, j < n → j ≠ i → RF (zmI M 17 (6 * r + j)) (zmL M 18 (6 * r + j)) (zmT M (zmN M 17 (6 * r + j) 0)) w' j)
    (pFi : RF (if out = 0 then zmI M 17 (6 * r + i) else zup (zmI M 17 (6 * r + i)) 8 1) (ct_L (zmL M 18 (6 * r + i)) a) (zmT M (zmN M 17 (6 * r + i) 0)) w' i)
    (pQ : out ≠ 2 → ∀ N : Nat, (zmI M 19 r 1).toInt = N → RQ (zup (zmI M 19 r) 1 (zmI M 19 r 1 + 1)) (zup (zup (zup (zmI M 20 r) (3 * N) (nI i)) (3 * N + 1) (zmI M2 15 r 7)) (3 * N + 2) (if out = 1 then 1 else 0)) w')
    (pQ2 : out = 2 → RQ (zmI M 19 r) (zmI M 20 r) w')
    (pD : RD (rd_b (zmI M 21 r) L K) (rd_c (zmI M 22 r) ((L + 1) % 24) (zmI M2 15 r 7) (nI i) way (zmI M2 15 r 8) counted ch dr out) w' e)
    (h : ∀ M', zFr r M M' → Rel M' r w' e → Kf out M') :
    zAt l G Y_X5_arrive (zEI G Y_X5_arrive Kf) 126 [(0, vr 15 r), (1, vi (nI i)), (2, vi way), (3, vi counted), (4, vi ch), (5, vi dr), (6, vi out)] [vi s0, vr 15 r] M2 0 0 := by
  have hI : (nI i).toInt = i := ti_nI (by omega)
  simp only [zmI] at hN hN2
  -- behind the queue
  have tail : ∀ (M3 : zM), zFr r M M3 → M3.1 15 r = zup (M2.1 15 r) 9 s0 → M3.1 17 = M.1 17 → M3.2.1 18 = M.2.1 18 → M3.1 21 = M.1 21 → M3.1 22 = M.1 22 → M3.2.2.2 = M.2.2.2 → RQ (zmI M3 19 r) (zmI M3 20 r) w' →
      zAt l G Y_X5_arrive (zEI G Y_X5_arrive Kf) 158 [(0, vr 15 r), (1, vi (nI i)), (2, vi way), (3, vi counted), (4, vi ch), (5, vi dr), (6, vi out)] [] M3 0 0 := by
    intro M3 f3 k15 k17 k18 k21 k22 kN kQ
    have k7 : M3.1 15 r 7 = M2.1 15 r 7 := by rw [k15, zup_ne _ _ (by omega)]
    have k8 : M3.1 15 r 8 = M2.1 15 r 8 := by rw [k15, zup_ne _ _ (by omega)]
    refine zb_X5_arrive_158 ⟨ti_in (by rw [hI]; omega), ?_⟩
    rw [ti_at hI]
    refine C_countArrival (a := a) ha (by (simp only [zmI, zmL, zmN, zmT, zmI_sI, zmI_sL, zmI_sN, zsI2, zsL2, zmL_sL, zmL_sI, zmN_sI, zmN_sL, zmT_sI, zmT_sL, Nat.reduceEqDiff, false_and, and_false, and_self, if_false, if_true]); rw [k17]; exact ht) (C_open (L := L) (K := K) (by (simp only [zmI, zmL, zmN, zmT, zmI_sI, zmI_sL, zmI_sN, zsI2, zsL2, zmL_sL, zmL_sI, zmN_sI, zmN_sL, zmT_sI, zmT_sL, Nat.reduceEqDiff, false_and, and_false, and_self, if_false, if_true]); rw [k21]; exact hb2) (by (simp only [zmI, zmL, zmN, zmT, zmI_sI, zmI_sL, zmI_sN, zsI2, zsL2, zmL_sL, zmL_sI, zmN_sI, zmN_sL, zmT_sI, zmT_sL, Nat.reduceEqDiff, false_and, and_false, and_self, if_false, if_true]); rw [k21]; exact hb1) hL hK (C_close (L := (L + 1) % 24) (by (simp only [zmI, zmL, zmN, zmT, zmI_sI, zmI_sL, zmI_sN, zsI2, zsL2, zmL_sL, zmL_sI, zmN_sI, zmN_sL, zmT_sI, zmT_sL, Nat.reduceEqDiff, false_and, and_false, and_self, if_false, if_true]); rw [zup_ne _ _ (by omega), zup_self]) (by omega) (h _ ?_ ?_)))
    · exact ((((f3.L (inR18 (by omega))).I (inR17 (by omega))).I (inR21 r)).I (inR22 r)).I (inR22 r)
    · unfold Rel
      (simp only [zmI, zmL, zmN, zmT, zmI_sI, zmI_sL, zmI_sN, zsI2, zsL2, zmL_sL, zmL_sI, zmN_sI, zmN_sL, zmT_sI, zmT_sL, Nat.reduceEqDiff, false_and, and_false, and_self, if_false, if_true])
      rw [k15, k17, k18, k21, k22, kN, show zup (M2.1 15 r) 9 s0 7 = M2.1 15 r 7 from zup_ne _ _ (by omega), show zup (M2.1 15 r) 9 s0 8 = M2.1 15 r 8 from zup_ne _ _ (by omega)]
      refine ⟨pA, fun j hj => ?_, kQ, pD⟩
      rw [h11] at hj
      by_cases hji : j = i
      · rw [hji]
        simp only [if_true]
        exact pFi
      · have q1 : ¬ (6 * r + j = 6 * r + i) := by omega
        simp only [q1, if_false]
        exact pF j (by omega) hji
  refine zb_X5_arrive_126 ⟨fun c => ?_, fun c => ⟨fun d => zb_X5_arrive_155 (C_add (N := (zmI M 19 r 1).toInt.toNat) ?_ ?_ ?_), fun d => zb_X5_arrive_155 (C_add (N := (zmI M 19 r 1).toInt.toNat) ?_ ?_ ?_)⟩⟩
  · refine tail _ (hF.I (inR15 r)) ?_ ?_ g18 ?_ ?_ gN ?_
    · (simp only [zmI, zmL, zmN, zmT, zmI_sI, zmI_sL, zmI_sN, zsI2, zsL2, zmL_sL, zmL_sI, zmN_sI, zmN_sL, zmT_sI, zmT_sL, Nat.reduceEqDiff, false_and, and_false, and_self, if_false, if_true])
    · funext q
      (simp only [zmI, zmL, zmN, zmT, zmI_sI, zmI_sL, zmI_sN, zsI2, zsL2, zmL_sL, zmL_sI, zmN_sI, zmN_sL, zmT_sI, zmT_sL, Nat.reduceEqDiff, false_and, and_false, and_self, if_false, if_true])
      rw [g17]
    · funext q
      (simp only [zmI, zmL, zmN, zmT, zmI_sI, zmI_sL, zmI_sN, zsI2, zsL2, zmL_sL, zmL_sI, zmN_sI, zmN_sL, zmT_sI, zmT_sL, Nat.reduceEqDiff, false_and, and_false, and_self, if_false, if_true])
      rw [g21]
    · funext q
      (simp only [zmI, zmL, zmN, zmT, zmI_sI, zmI_sL, zmI_sN, zsI2, zsL2, zmL_sL, zmL_sI, zmN_sI, zmN_sL, zmT_sI, zmT_sL, Nat.reduceEqDiff, false_and, and_false, and_self, if_false, if_true])
      rw [g22]
    · (simp only [zmI, zmL, zmN, zmT, zmI_sI, zmI_sL, zmI_sN, zsI2, zsL2, zmL_sL, zmL_sI, zmN_sI, zmN_sL, zmT_sI, zmT_sL, Nat.reduceEqDiff, false_and, and_false, and_self, if_false, if_true])
      rw [g19, g20]
      exact pQ2 c
  · (simp only [zmI, zmL, zmN, zmT, zmI_sI, zmI_sL, zmI_sN, zsI2, zsL2, zmL_sL, zmL_sI, zmN_sI, zmN_sL, zmT_sI, zmT_sL, Nat.reduceEqDiff, false_and, and_false, and_self, if_false, if_true])
    rw [g19]
    omega
  · have := hN2 c
    simp only [zmI]
    omega
  · refine tail _ (((hF.I (inR15 r)).I (inR20 r)).I (inR19 r)) ?_ ?_ g18 ?_ ?_ gN ?_
    · (simp only [zmI, zmL, zmN, zmT, zmI_sI, zmI_sL, zmI_sN, zsI2, zsL2, zmL_sL, zmL_sI, zmN_sI, zmN_sL, zmT_sI, zmT_sL, Nat.reduceEqDiff, false_and, and_false, and_self, if_false, if_true])
    · funext q
      (simp only [zmI, zmL, zmN, zmT, zmI_sI, zmI_sL, zmI_sN, zsI2, zsL2, zmL_sL, zmL_sI, zmN_sI, zmN_sL, zmT_sI, zmT_sL, Nat.reduceEqDiff, false_and, and_false, and_self, if_false, if_true])
      rw [g17]
    · funext q
      (simp only [zmI, zmL, zmN, zmT, zmI_sI, zmI_sL, zmI_sN, zsI2, zsL2, zmL_sL, zmL_sI, zmN_sI, zmN_sL, zmT_sI, zmT_sL, Nat.reduceEqDiff, false_and, and_false, and_self, if_false, if_true])
      rw [g21]
    · funext q
      (simp only [zmI, zmL, zmN, zmT, zmI_sI, zmI_sL, zmI_sN, zsI2, zsL2, zmL_sL, zmL_sI, zmN_sI, zmN_sL, zmT_sI, zmT_sL, Nat.reduceEqDiff, false_and, and_false, and_self, if_false, if_true])
      rw [g22]
    · (simp only [zmI, zmL, zmN, zmT, zmI_sI, zmI_sL, zmI_sN, zsI2, zsL2, zmL_sL, zmL_sI, zmN_sI, zmN_sL, zmT_sI, zmT_sL, Nat.reduceEqDiff, false_and, and_false, and_self, if_false, if_true])
      rw [g19, g20, zup_ne _ _ (by omega)]
      have q := pQ c _ (Int.toNat_of_nonneg hN.2).symm
      rw [if_neg d] at q
      exact q
  · (simp only [zmI, zmL, zmN, zmT, zmI_sI, zmI_sL, zmI_sN, zsI2, zsL2, zmL_sL, zmL_sI, zmN_sI, zmN_sL, zmT_sI, zmT_sL, Nat.reduceEqDiff, false_and, and_false, and_self, if_false, if_true])
    rw [g19]
    omega
  · have := hN2 c
    simp only [zmI]
    omega
  · refine tail _ (((hF.I (inR15 r)).I (inR20 r)).I (inR19 r)) ?_ ?_ g18 ?_ ?_ gN ?_
    · (simp only [zmI, zmL, zmN, zmT, zmI_sI, zmI_sL, zmI_sN, zsI2, zsL2, zmL_sL, zmL_sI, zmN_sI, zmN_sL, zmT_sI, zmT_sL, Nat.reduceEqDiff, false_and, and_false, and_self, if_false, if_true])
    · funext q
      (simp only [zmI, zmL, zmN, zmT, zmI_sI, zmI_sL, zmI_sN, zsI2, zsL2, zmL_sL, zmL_sI, zmN_sI, zmN_sL, zmT_sI, zmT_sL, Nat.reduceEqDiff, false_and, and_false, and_self, if_false, if_true])
      rw [g17]
    · funext q
      (simp only [zmI, zmL, zmN, zmT, zmI_sI, zmI_sL, zmI_sN, zsI2, zsL2, zmL_sL, zmL_sI, zmN_sI, zmN_sL, zmT_sI, zmT_sL, Nat.reduceEqDiff, false_and, and_false, and_self, if_false, if_true])
      rw [g21]
    · funext q
      (simp only [zmI, zmL, zmN, zmT, zmI_sI, zmI_sL, zmI_sN, zsI2, zsL2, zmL_sL, zmL_sI, zmN_sI, zmN_sL, zmT_sI, zmT_sL, Nat.reduceEqDiff, false_and, and_false, and_self, if_false, if_true])
      rw [g22]
    · (simp only [zmI, zmL, zmN, zmT, zmI_sI, zmI_sL, zmI_sN, zsI2, zsL2, zmL_sL, zmL_sI, zmN_sI, zmN_sL, zmT_sI, zmT_sL, Nat.reduceEqDiff, false_and, and_false, and_self, if_false, if_true])
      rw [g19, g20, zup_ne _ _ (by omega)]
      have q := pQ c _ (Int.toNat_of_nonneg hN.2).symm
      rw [if_pos d] at q
      exact q
end
