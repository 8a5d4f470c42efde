section
variable {l : Launch} {G : zG} {M : zM} {A : Nat}
theorem P_letter (hl : l.stackTraces = false) {f p : Int32} (hI : Inv M A) :
    zCalIX l G Y_X8_letter 1 6 [vr 0 0, vi f, vi p] M (fun x M1 => zCalI l G Y_X9_letter 0 0 [vr 30 0, vi f, vi p] M1 (fun y M2 => y = x ∧ Good A 0 M2)) (fun E M1 => E = IOE ∧ zCalI l G Y_X9_letter 0 0 [vr 30 0, vi f, vi p] M1 (fun _ M2 => Good A 1 M2)) := by
  obtain ⟨n, hR, hO⟩ := hI.1
  have hn := hO.nf
  have e31 : zmI (zsI M 30 0 7 0) 31 0 = zmI M 31 0 := z31_thr M 0
  have en : (zmI (zsI M 30 0 7 0) 31 0 11).toInt = n := by rw [z31_thr]; exact hn.1
  refine zm_X8_letter (zm_X8_flowAt (C_index hl (hR.n hO) (fun b => ⟨ti_in (by omega), rfl, ?_⟩) fun b => ⟨rfl, zm_X9_letter (R_noFlow en (z7_0 M) (fun d => absurd d b) fun _ => ⟨fun d => absurd d (by decide), fun _ => Good.thr hI 1⟩)⟩))
  obtain ⟨i, hi⟩ : ∃ i : Nat, f.toInt = i := ⟨_, (Int.toNat_of_nonneg b.1).symm⟩
  have hin : i < n := by omega
  rw [ti_at hi]
  obtain ⟨-, -, t, ht, tl, tv⟩ := hR.2.1 i (by omega)
  have fo := hO.fl i hin
  have lng : 0 ≤ (zmI M 31 0 (sf i 9)).toInt ∧ (zmI M 31 0 (sf i 9)).toInt ≤ 8 := fo.lng
  have let9 : ∀ j : Nat, (j : Int) < (zmI M 31 0 (sf i 9)).toInt → 97 ≤ (zmI M 31 0 (sf i (10 + j))).toInt ∧ (zmI M 31 0 (sf i (10 + j))).toInt ≤ 122 := fo.let_
  have ec : (zmI M 31 0 (sf i 9) - 1).toInt = (zmI M 31 0 (sf i 9)).toInt - 1 := ti_sub (by rw [ti_1]; omega)
  -- the reference
  have gate0 : ¬ (0 ≤ p.toInt ∧ p.toInt < t.length) → zCalI l G Y_X9_letter 0 0 [vr 30 0, vi f, vi p] M (fun y M2 => y = (-1) ∧ Good A 0 M2) := by
    intro c
    refine zm_X9_letter (R_noFlow en (z7_0 M) (fun _ => ⟨fun _ => R_ofFlow (k := 9) hi rfl (by (first | omega | (simp only [sf, sq, sd] at *; omega))) (R_in ?_), fun d => absurd rfl d⟩) fun d => absurd b d)
    rw [e31, if_neg (fun g => c (by rw [ti_le, ti_le, ti_0, ec] at g; omega))]
    exact ⟨fun _ => ⟨rfl, Good.z hI⟩, fun d => absurd rfl d⟩
  have gate1 : ∀ j : Nat, p.toInt = j → j < t.length → zCalI l G Y_X9_letter 0 0 [vr 30 0, vi f, vi p] M (fun y M2 => y = nI (t.getD j 0) ∧ Good A 0 M2) := by
    intro j hj hjt
    refine zm_X9_letter (R_noFlow en (z7_0 M) (fun _ => ⟨fun _ => R_ofFlow (k := 9) hi rfl (by (first | omega | (simp only [sf, sq, sd] at *; omega))) (R_in ?_), fun d => absurd rfl d⟩) fun d => absurd b d)
    rw [e31, if_pos (by rw [ti_le, ti_le, ti_0, ec]; omega)]
    refine ⟨fun d => absurd d (by decide), fun _ => R_ofFlow (k := 10 + j) hi (by rw [ti_add (by rw [hj]; show _ ≤ (10 : Int) + _ ∧ (10 : Int) + _ ≤ _; omega), hj]; rfl) (by (first | omega | (simp only [sf, sq, sd] at *; omega))) ⟨?_, Good.z hI⟩⟩
    rw [e31]
    have h1 := tv j hjt
    have h2 := let9 j (by omega)
    rw [h1]
    refine nI_ofT ?_
    omega
  refine ⟨fun c => gate0 (fun g => ?_), fun c => ⟨⟨t, ht⟩, C_len ht ⟨fun d => gate0 (fun g => ?_), fun d => ⟨⟨t, ht⟩, ?_⟩⟩⟩⟩
  · rw [ti_lt, ti_0] at c
    omega
  · rw [ti_le, ti_nI (by omega)] at d
    omega
  · rw [ti_lt, ti_0] at c
    rw [ti_le, ti_nI (by omega)] at d
    obtain ⟨j, hj⟩ : ∃ j : Nat, p.toInt = j := ⟨_, (Int.toNat_of_nonneg (by omega)).symm⟩
    exact C_chr ht hj (by omega) fun _ => gate1 j hj (by omega)
theorem P_reportByte {p : Int32} (hI : Inv M A) :
    zCalI l G Y_X8_reportByte 0 0 [vr 0 0, vi p] M (fun x M1 => zCalI l G Y_X9_reportByte 0 0 [vr 30 0, vi p] M1 (fun y M2 => y = x ∧ Good A 0 M2)) := by
  obtain ⟨h1, h2, h3⟩ := hI.2.2.2.2.2
  have k29 : zmI (zsI M 30 0 7 0) 30 0 29 = nI (zmB M).1.length := by
    simp only [zmI, zsI1]
    rw [zup_ne _ _ (by omega)]
    exact h2
  have ec : (nI (zmB M).1.length - 1).toInt = ((zmB M).1.length : Int) - 1 := by rw [ti_sub (by rw [ti_nI (by omega), ti_1]; omega), ti_nI (by omega), ti_1]
  have gate0 : ¬ (0 ≤ p.toInt ∧ p.toInt < (zmB M).1.length) → zCalI l G Y_X9_reportByte 0 0 [vr 30 0, vi p] M (fun y M2 => y = (-1) ∧ Good A 0 M2) := by
    intro c
    refine zm_X9_reportByte (R_in ?_)
    rw [k29, if_neg (fun g => c (by rw [ti_le, ti_le, ti_0, ec] at g; omega))]
    exact ⟨fun _ => ⟨rfl, Good.z hI⟩, fun d => absurd rfl d⟩
  refine zm_X8_reportByte ⟨fun c => gate0 (fun g => ?_), fun c => C_blen ⟨fun d => gate0 (fun g => ?_), fun d => ?_⟩⟩
  · rw [ti_lt, ti_0] at c
    omega
  · rw [ti_le, ti_nI (by omega)] at d
    omega
  · rw [ti_lt, ti_0] at c
    rw [ti_le, ti_nI (by omega)] at d
    obtain ⟨j, hj⟩ : ∃ j : Nat, p.toInt = j := ⟨_, (Int.toNat_of_nonneg (by omega)).symm⟩
    refine C_bchr hj (by omega) (zm_X9_reportByte (R_in ?_))
    rw [k29, if_pos (by rw [ti_le, ti_le, ti_0, ec]; omega)]
    refine ⟨fun d => absurd d (by decide), fun _ => ⟨ti_in (by omega), ?_, Good.z hI⟩⟩
    rw [ti_at hj]
    exact (congrFun (zsIo M 30 0 (zup (zmI M 30 0) 7 0) 44 0 (by omega)) j).trans (h3 j (by omega)).1
end
