/-! printed by wip/whole/h_*.py -/


section LHD
theorem l_ar {c c1 n a d : Nat} (h : c ≤ a + d * n) (h1 : c1 ≤ c + d) : c1 ≤ a + d * (n + 1) := by
  rw [Nat.mul_succ]
  omega
variable {l : Launch} {G : zG} {E : zE}
theorem l_switch {n A : Nat} {M : lW} {c k : Nat} (hE : zRm YL_law E.1) (hl : l.stackTraces = false) (hb : 6 * n + 6 ≤ gn G) (hL : gn G ≤ 3072) (hI : Inv M.1 A) (hA : A ≤ 299000000) (hc : c + 753 ≤ E.1.cells ∧ k + 5020 ≤ E.1.slots) (kk : ∀ (w1 : lW) (c1 k1 : Nat), Inv w1.1 (A + 108000) → c1 ≤ c + 753 → k1 ≤ k + 5020 → lAt l G YL_law E 2335 (lLV n) [] w1 c1 k1) : lAt l G YL_law E 45 (lLV n) [vi (gs G (nI (6 * n)).toNatClampNeg &&& 63)] M c k := by
  by_cases qs0 : gs G (nI (6 * n)).toNatClampNeg &&& 63 = 0
  · exact L_tabIn (x := gs G (nI (6 * n)).toNatClampNeg &&& 63) dL_law_45 (j := 0) (by rw [qs0]; decide) (off := 183) (tgt := 228) rfl (by decide) (lc_feed hE hl hb hL hI hA hc kk)
  by_cases qs1 : gs G (nI (6 * n)).toNatClampNeg &&& 63 = 1
  · exact L_tabIn (x := gs G (nI (6 * n)).toNatClampNeg &&& 63) dL_law_45 (j := 1) (by rw [qs1]; decide) (off := 256) (tgt := 301) rfl (by decide) (lc_load hE hl hb hL hI hA hc kk)
  by_cases qs2 : gs G (nI (6 * n)).toNatClampNeg &&& 63 = 2
  · exact L_tabIn (x := gs G (nI (6 * n)).toNatClampNeg &&& 63) dL_law_45 (j := 2) (by rw [qs2]; decide) (off := 269) (tgt := 314) rfl (by decide) (lc_run hE hl hb hL hI hA hc kk)
  by_cases qs3 : gs G (nI (6 * n)).toNatClampNeg &&& 63 = 3
  · exact L_tabIn (x := gs G (nI (6 * n)).toNatClampNeg &&& 63) dL_law_45 (j := 3) (by rw [qs3]; decide) (off := 282) (tgt := 327) rfl (by decide) (lc_errorPosition hE hl hb hL hI hA hc kk)
  by_cases qs4 : gs G (nI (6 * n)).toNatClampNeg &&& 63 = 4
  · exact L_tabIn (x := gs G (nI (6 * n)).toNatClampNeg &&& 63) dL_law_45 (j := 4) (by rw [qs4]; decide) (off := 295) (tgt := 340) rfl (by decide) (lc_size hE hl hb hL hI hA hc kk)
  by_cases qs5 : gs G (nI (6 * n)).toNatClampNeg &&& 63 = 5
  · exact L_tabIn (x := gs G (nI (6 * n)).toNatClampNeg &&& 63) dL_law_45 (j := 5) (by rw [qs5]; decide) (off := 351) (tgt := 396) rfl (by decide) (lc_flow hE hl hb hL hI hA hc kk)
  by_cases qs6 : gs G (nI (6 * n)).toNatClampNeg &&& 63 = 6
  · exact L_tabIn (x := gs G (nI (6 * n)).toNatClampNeg &&& 63) dL_law_45 (j := 6) (by rw [qs6]; decide) (off := 419) (tgt := 464) rfl (by decide) (lc_letter hE hl hb hL hI hA hc kk)
  by_cases qs7 : gs G (nI (6 * n)).toNatClampNeg &&& 63 = 7
  · exact L_tabIn (x := gs G (nI (6 * n)).toNatClampNeg &&& 63) dL_law_45 (j := 7) (by rw [qs7]; decide) (off := 487) (tgt := 532) rfl (by decide) (lc_packet hE hl hb hL hI hA hc kk)
  by_cases qs8 : gs G (nI (6 * n)).toNatClampNeg &&& 63 = 8
  · exact L_tabIn (x := gs G (nI (6 * n)).toNatClampNeg &&& 63) dL_law_45 (j := 8) (by rw [qs8]; decide) (off := 555) (tgt := 600) rfl (by decide) (lc_account hE hl hb hL hI hA hc kk)
  by_cases qs9 : gs G (nI (6 * n)).toNatClampNeg &&& 63 = 9
  · exact L_tabIn (x := gs G (nI (6 * n)).toNatClampNeg &&& 63) dL_law_45 (j := 9) (by rw [qs9]; decide) (off := 622) (tgt := 667) rfl (by decide) (lc_decision hE hl hb hL hI hA hc kk)
  by_cases qs10 : gs G (nI (6 * n)).toNatClampNeg &&& 63 = 10
  · exact L_tabIn (x := gs G (nI (6 * n)).toNatClampNeg &&& 63) dL_law_45 (j := 10) (by rw [qs10]; decide) (off := 690) (tgt := 735) rfl (by decide) (lc_amiss hE hl hb hL hI hA hc kk)
  by_cases qs11 : gs G (nI (6 * n)).toNatClampNeg &&& 63 = 11
  · exact L_tabIn (x := gs G (nI (6 * n)).toNatClampNeg &&& 63) dL_law_45 (j := 11) (by rw [qs11]; decide) (off := 703) (tgt := 748) rfl (by decide) (lc_average hE hl hb hL hI hA hc kk)
  by_cases qs12 : gs G (nI (6 * n)).toNatClampNeg &&& 63 = 12
  · exact L_tabIn (x := gs G (nI (6 * n)).toNatClampNeg &&& 63) dL_law_45 (j := 12) (by rw [qs12]; decide) (off := 744) (tgt := 789) rfl (by decide) (lc_lossShare hE hl hb hL hI hA hc kk)
  by_cases qs13 : gs G (nI (6 * n)).toNatClampNeg &&& 63 = 13
  · exact L_tabIn (x := gs G (nI (6 * n)).toNatClampNeg &&& 63) dL_law_45 (j := 13) (by rw [qs13]; decide) (off := 787) (tgt := 832) rfl (by decide) (lc_fairness hE hl hb hL hI hA hc kk)
  by_cases qs14 : gs G (nI (6 * n)).toNatClampNeg &&& 63 = 14
  · exact L_tabIn (x := gs G (nI (6 * n)).toNatClampNeg &&& 63) dL_law_45 (j := 14) (by rw [qs14]; decide) (off := 828) (tgt := 873) rfl (by decide) (lc_meanWait hE hl hb hL hI hA hc kk)
  by_cases qs15 : gs G (nI (6 * n)).toNatClampNeg &&& 63 = 15
  · exact L_tabIn (x := gs G (nI (6 * n)).toNatClampNeg &&& 63) dL_law_45 (j := 15) (by rw [qs15]; decide) (off := 905) (tgt := 950) rfl (by decide) (lc_base hE hl hb hL hI hA hc kk)
  by_cases qs16 : gs G (nI (6 * n)).toNatClampNeg &&& 63 = 16
  · exact L_tabIn (x := gs G (nI (6 * n)).toNatClampNeg &&& 63) dL_law_45 (j := 16) (by rw [qs16]; decide) (off := 961) (tgt := 1006) rfl (by decide) (lc_chance hE hl hb hL hI hA hc kk)
  by_cases qs17 : gs G (nI (6 * n)).toNatClampNeg &&& 63 = 17
  · exact L_tabIn (x := gs G (nI (6 * n)).toNatClampNeg &&& 63) dL_law_45 (j := 17) (by rw [qs17]; decide) (off := 1029) (tgt := 1074) rfl (by decide) (lc_next hE hl hb hL hI hA hc kk)
  by_cases qs18 : gs G (nI (6 * n)).toNatClampNeg &&& 63 = 18
  · exact L_tabIn (x := gs G (nI (6 * n)).toNatClampNeg &&& 63) dL_law_45 (j := 18) (by rw [qs18]; decide) (off := 1042) (tgt := 1087) rfl (by decide) (lc_nextChance hE hl hb hL hI hA hc kk)
  by_cases qs19 : gs G (nI (6 * n)).toNatClampNeg &&& 63 = 19
  · exact L_tabIn (x := gs G (nI (6 * n)).toNatClampNeg &&& 63) dL_law_45 (j := 19) (by rw [qs19]; decide) (off := 1055) (tgt := 1100) rfl (by decide) (lc_burst hE hl hb hL hI hA hc kk)
  by_cases qs20 : gs G (nI (6 * n)).toNatClampNeg &&& 63 = 20
  · exact L_tabIn (x := gs G (nI (6 * n)).toNatClampNeg &&& 63) dL_law_45 (j := 20) (by rw [qs20]; decide) (off := 1132) (tgt := 1177) rfl (by decide) (lc_sureBurst hE hl hb hL hI hA hc kk)
  by_cases qs21 : gs G (nI (6 * n)).toNatClampNeg &&& 63 = 21
  · exact L_tabIn (x := gs G (nI (6 * n)).toNatClampNeg &&& 63) dL_law_45 (j := 21) (by rw [qs21]; decide) (off := 1188) (tgt := 1233) rfl (by decide) (lc_accountIn hE hl hb hL hI hA hc kk)
  by_cases qs22 : gs G (nI (6 * n)).toNatClampNeg &&& 63 = 22
  · exact L_tabIn (x := gs G (nI (6 * n)).toNatClampNeg &&& 63) dL_law_45 (j := 22) (by rw [qs22]; decide) (off := 1267) (tgt := 1312) rfl (by decide) (lc_queueIn hE hl hb hL hI hA hc kk)
  by_cases qs23 : gs G (nI (6 * n)).toNatClampNeg &&& 63 = 23
  · exact L_tabIn (x := gs G (nI (6 * n)).toNatClampNeg &&& 63) dL_law_45 (j := 23) (by rw [qs23]; decide) (off := 1323) (tgt := 1368) rfl (by decide) (lc_averageIn hE hl hb hL hI hA hc kk)
  by_cases qs24 : gs G (nI (6 * n)).toNatClampNeg &&& 63 = 24
  · exact L_tabIn (x := gs G (nI (6 * n)).toNatClampNeg &&& 63) dL_law_45 (j := 24) (by rw [qs24]; decide) (off := 1379) (tgt := 1424) rfl (by decide) (lc_windowIn hE hl hb hL hI hA hc kk)
  by_cases qs25 : gs G (nI (6 * n)).toNatClampNeg &&& 63 = 25
  · exact L_tabIn (x := gs G (nI (6 * n)).toNatClampNeg &&& 63) dL_law_45 (j := 25) (by rw [qs25]; decide) (off := 1447) (tgt := 1492) rfl (by decide) (lc_longest hE hl hb hL hI hA hc kk)
  by_cases qs26 : gs G (nI (6 * n)).toNatClampNeg &&& 63 = 26
  · exact L_tabIn (x := gs G (nI (6 * n)).toNatClampNeg &&& 63) dL_law_45 (j := 26) (by rw [qs26]; decide) (off := 1503) (tgt := 1548) rfl (by decide) (lc_dropIn hE hl hb hL hI hA hc kk)
  by_cases qs27 : gs G (nI (6 * n)).toNatClampNeg &&& 63 = 27
  · exact L_tabIn (x := gs G (nI (6 * n)).toNatClampNeg &&& 63) dL_law_45 (j := 27) (by rw [qs27]; decide) (off := 1516) (tgt := 1561) rfl (by decide) (lc_bestWeight hE hl hb hL hI hA hc kk)
  by_cases qs28 : gs G (nI (6 * n)).toNatClampNeg &&& 63 = 28
  · exact L_tabIn (x := gs G (nI (6 * n)).toNatClampNeg &&& 63) dL_law_45 (j := 28) (by rw [qs28]; decide) (off := 1572) (tgt := 1617) rfl (by decide) (lc_bestTop hE hl hb hL hI hA hc kk)
  by_cases qs29 : gs G (nI (6 * n)).toNatClampNeg &&& 63 = 29
  · exact L_tabIn (x := gs G (nI (6 * n)).toNatClampNeg &&& 63) dL_law_45 (j := 29) (by rw [qs29]; decide) (off := 1628) (tgt := 1673) rfl (by decide) (lc_gain hE hl hb hL hI hA hc kk)
  by_cases qs30 : gs G (nI (6 * n)).toNatClampNeg &&& 63 = 30
  · exact L_tabIn (x := gs G (nI (6 * n)).toNatClampNeg &&& 63) dL_law_45 (j := 30) (by rw [qs30]; decide) (off := 1683) (tgt := 1728) rfl (by decide) (lc_tick hE hl hb hL hI hA hc kk)
  by_cases qs31 : gs G (nI (6 * n)).toNatClampNeg &&& 63 = 31
  · exact L_tabIn (x := gs G (nI (6 * n)).toNatClampNeg &&& 63) dL_law_45 (j := 31) (by rw [qs31]; decide) (off := 1739) (tgt := 1784) rfl (by decide) (lc_send hE hl hb hL hI hA hc kk)
  by_cases qs32 : gs G (nI (6 * n)).toNatClampNeg &&& 63 = 32
  · exact L_tabIn (x := gs G (nI (6 * n)).toNatClampNeg &&& 63) dL_law_45 (j := 32) (by rw [qs32]; decide) (off := 1807) (tgt := 1852) rfl (by decide) (lc_setLimits hE hl hb hL hI hA hc kk)
  by_cases qs33 : gs G (nI (6 * n)).toNatClampNeg &&& 63 = 33
  · exact L_tabIn (x := gs G (nI (6 * n)).toNatClampNeg &&& 63) dL_law_45 (j := 33) (by rw [qs33]; decide) (off := 1875) (tgt := 1920) rfl (by decide) (lc_setTop hE hl hb hL hI hA hc kk)
  by_cases qs34 : gs G (nI (6 * n)).toNatClampNeg &&& 63 = 34
  · exact L_tabIn (x := gs G (nI (6 * n)).toNatClampNeg &&& 63) dL_law_45 (j := 34) (by rw [qs34]; decide) (off := 1931) (tgt := 1976) rfl (by decide) (lc_setWeight hE hl hb hL hI hA hc kk)
  by_cases qs35 : gs G (nI (6 * n)).toNatClampNeg &&& 63 = 35
  · exact L_tabIn (x := gs G (nI (6 * n)).toNatClampNeg &&& 63) dL_law_45 (j := 35) (by rw [qs35]; decide) (off := 1987) (tgt := 2032) rfl (by decide) (lc_setGentle hE hl hb hL hI hA hc kk)
  by_cases qs36 : gs G (nI (6 * n)).toNatClampNeg &&& 63 = 36
  · exact L_tabIn (x := gs G (nI (6 * n)).toNatClampNeg &&& 63) dL_law_45 (j := 36) (by rw [qs36]; decide) (off := 2043) (tgt := 2088) rfl (by decide) (lc_setOn hE hl hb hL hI hA hc kk)
  by_cases qs37 : gs G (nI (6 * n)).toNatClampNeg &&& 63 = 37
  · exact L_tabIn (x := gs G (nI (6 * n)).toNatClampNeg &&& 63) dL_law_45 (j := 37) (by rw [qs37]; decide) (off := 2127) (tgt := 2172) rfl (by decide) (lc_report hE hl hb hL hI hA hc kk)
  by_cases qs38 : gs G (nI (6 * n)).toNatClampNeg &&& 63 = 38
  · exact L_tabIn (x := gs G (nI (6 * n)).toNatClampNeg &&& 63) dL_law_45 (j := 38) (by rw [qs38]; decide) (off := 2140) (tgt := 2185) rfl (by decide) (lc_reportByte hE hl hb hL hI hA hc kk)
  by_cases qs39 : gs G (nI (6 * n)).toNatClampNeg &&& 63 = 39
  · exact L_tabIn (x := gs G (nI (6 * n)).toNatClampNeg &&& 63) dL_law_45 (j := 39) (by rw [qs39]; decide) (off := 2165) (tgt := 2210) rfl (by decide) (lc_undo hE hl hb hL hI hA hc kk)
  by_cases qs40 : gs G (nI (6 * n)).toNatClampNeg &&& 63 = 40
  · exact L_tabIn (x := gs G (nI (6 * n)).toNatClampNeg &&& 63) dL_law_45 (j := 40) (by rw [qs40]; decide) (off := 2178) (tgt := 2223) rfl (by decide) (lc_save hE hl hb hL hI hA hc kk)
  by_cases qs41 : gs G (nI (6 * n)).toNatClampNeg &&& 63 = 41
  · exact L_tabIn (x := gs G (nI (6 * n)).toNatClampNeg &&& 63) dL_law_45 (j := 41) (by rw [qs41]; decide) (off := 2234) (tgt := 2279) rfl (by decide) (lc_restore hE hl hb hL hI hA hc kk)
  refine L_tabOut (x := gs G (nI (6 * n)).toNatClampNeg &&& 63) (tgt := 2335) dL_law_45 ?_ (by decide) (kk M c k (Good.mono (th := M.1.1 30 0 7) ⟨rfl, hI⟩ (by omega)).2 (by omega) (by omega))
  have f0 := zsw_ne (n := 0) qs0 (by decide)
  have f1 := zsw_ne (n := 1) qs1 (by decide)
  have f2 := zsw_ne (n := 2) qs2 (by decide)
  have f3 := zsw_ne (n := 3) qs3 (by decide)
  have f4 := zsw_ne (n := 4) qs4 (by decide)
  have f5 := zsw_ne (n := 5) qs5 (by decide)
  have f6 := zsw_ne (n := 6) qs6 (by decide)
  have f7 := zsw_ne (n := 7) qs7 (by decide)
  have f8 := zsw_ne (n := 8) qs8 (by decide)
  have f9 := zsw_ne (n := 9) qs9 (by decide)
  have f10 := zsw_ne (n := 10) qs10 (by decide)
  have f11 := zsw_ne (n := 11) qs11 (by decide)
  have f12 := zsw_ne (n := 12) qs12 (by decide)
  have f13 := zsw_ne (n := 13) qs13 (by decide)
  have f14 := zsw_ne (n := 14) qs14 (by decide)
  have f15 := zsw_ne (n := 15) qs15 (by decide)
  have f16 := zsw_ne (n := 16) qs16 (by decide)
  have f17 := zsw_ne (n := 17) qs17 (by decide)
  have f18 := zsw_ne (n := 18) qs18 (by decide)
  have f19 := zsw_ne (n := 19) qs19 (by decide)
  have f20 := zsw_ne (n := 20) qs20 (by decide)
  have f21 := zsw_ne (n := 21) qs21 (by decide)
  have f22 := zsw_ne (n := 22) qs22 (by decide)
  have f23 := zsw_ne (n := 23) qs23 (by decide)
  have f24 := zsw_ne (n := 24) qs24 (by decide)
  have f25 := zsw_ne (n := 25) qs25 (by decide)
  have f26 := zsw_ne (n := 26) qs26 (by decide)
  have f27 := zsw_ne (n := 27) qs27 (by decide)
  have f28 := zsw_ne (n := 28) qs28 (by decide)
  have f29 := zsw_ne (n := 29) qs29 (by decide)
  have f30 := zsw_ne (n := 30) qs30 (by decide)
  have f31 := zsw_ne (n := 31) qs31 (by decide)
  have f32 := zsw_ne (n := 32) qs32 (by decide)
  have f33 := zsw_ne (n := 33) qs33 (by decide)
  have f34 := zsw_ne (n := 34) qs34 (by decide)
  have f35 := zsw_ne (n := 35) qs35 (by decide)
  have f36 := zsw_ne (n := 36) qs36 (by decide)
  have f37 := zsw_ne (n := 37) qs37 (by decide)
  have f38 := zsw_ne (n := 38) qs38 (by decide)
  have f39 := zsw_ne (n := 39) qs39 (by decide)
  have f40 := zsw_ne (n := 40) qs40 (by decide)
  have f41 := zsw_ne (n := 41) qs41 (by decide)
  generalize (gs G (nI (6 * n)).toNatClampNeg &&& 63).toInt = z at *
  omega
theorem l_head (hE : zRm YL_law E.1) (hcap : E.1.cells = 601024 ∧ E.1.slots = 7293034) (hl : l.stackTraces = false) (hL : gn G ≤ 3072) (hret : ∀ (lv : List (Nat × zV)) (M : lW) (c k : Nat), c ≤ 601024 → k ≤ 7293034 → lAt l G YL_law E 2342 lv [vi 1] M c k) (d : Nat) (ih : ∀ d0 : Nat, d = d0 + 1 → ∀ (n : Nat) (M : lW) (c k : Nat), n + d0 = 513 → Inv M.1 (108000 * n) → c ≤ 267 + 753 * n → k ≤ 14181 + 5020 * n → lAt l G YL_law E 28 (lLV n) [] M c k) (n : Nat) (M : lW) (c k : Nat) (hd : n + d = 513) (hI : Inv M.1 (108000 * n)) (hc : c ≤ 267 + 753 * n) (hk : k ≤ 14181 + 5020 * n) : lAt l G YL_law E 28 (lLV n) [] M c k := by
  have e0 : (nI (6 * n)).toInt = ((6 * n : Nat) : Int) := ti_of _ (by omega)
  have e1 : (Int32.ofNat (gn G)).toInt = (gn G : Int) := ti_of _ (by omega)
  have e3 : (6 : Int32).toInt = 6 := by decide
  refine L_iload dL_law_28 0 rfl ?_
  refine L_aload_n dL_law_30 rfl 1 rfl ?_
  refine L_slen dL_law_31 ?_
  refine L_bipush (v := 6) (by decide) dL_law_32 ?_
  refine L_isub dL_law_34 ?_
  refine L_icmp_gt (tgt := 2341) dL_law_35 (by decide) (fun q9 => ?_) (fun q9 => ?_)
  · refine L_iconst (v := 1) (by decide) dL_law_2341 ?_
    exact hret (lLV n) M c k (by omega) (by omega)
  · have hb : 6 * n + 6 ≤ gn G := by
      rw [ti_lt, ti_sub (by rw [e1, e3]; omega), e0, e1, e3] at q9
      omega
    refine L_aload_n dL_law_38 rfl 1 rfl ?_
    refine L_iload dL_law_39 0 rfl ?_
    refine L_sld (l_inz hb hL) dL_law_41 ?_
    refine L_bipush (v := 63) (by decide) dL_law_42 ?_
    refine L_iand dL_law_44 ?_
    refine l_switch hE hl hb hL hI (by omega) ⟨by omega, by omega⟩ (fun w1 c1 k1 g1 g2 g3 => ?_)
    cases d with
    | zero => omega
    | succ d =>
      refine L_iinc (lv2 := lLV (n + 1)) dL_law_2335 0 rfl (v := nI (6 * (n + 1))) ?_ (by decide) rfl ?_
      · have e8 : (nI (6 * (n + 1))).toInt = ((6 * (n + 1) : Nat) : Int) := ti_of _ (by omega)
        rw [ti_eq, ti_add (by rw [e0]; show _ ∧ _; constructor <;> (rw [show (Int32.ofInt 6).toInt = 6 by decide]; omega)), e0, e8, show (Int32.ofInt 6).toInt = 6 by decide]
        omega
      · refine L_goto (tgt := 28) dL_law_2338 (by decide) ?_
        exact ih d rfl (n + 1) w1 c1 k1 (by omega) (by rw [Nat.mul_succ]; exact g1) (l_ar hc g2) (l_ar hk g3)
theorem l_loop (hE : zRm YL_law E.1) (hcap : E.1.cells = 601024 ∧ E.1.slots = 7293034) (hl : l.stackTraces = false) (hL : gn G ≤ 3072) (hret : ∀ (lv : List (Nat × zV)) (M : lW) (c k : Nat), c ≤ 601024 → k ≤ 7293034 → lAt l G YL_law E 2342 lv [vi 1] M c k) : ∀ (d n : Nat) (M : lW) (c k : Nat), n + d = 513 → Inv M.1 (108000 * n) → c ≤ 267 + 753 * n → k ≤ 14181 + 5020 * n → lAt l G YL_law E 28 (lLV n) [] M c k := by
  intro d
  induction d with
  | zero => exact fun n M c k h1 h2 h3 h4 => l_head hE hcap hl hL hret 0 (fun d0 h => by cases h) n M c k h1 h2 h3 h4
  | succ d ih => exact fun n M c k h1 h2 h3 h4 => l_head hE hcap hl hL hret (d + 1) (fun d0 h => by cases h; exact ih) n M c k h1 h2 h3 h4
end LHD
