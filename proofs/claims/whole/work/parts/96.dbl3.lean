/-! THE QUESTIONS THAT ANSWER WITH A FRACTION -/
section
variable {l : Launch} {G : zG} {M : zM} {A : Nat}
theorem nz6_1024 : nz6 4652218415073722368 := ⟨false, 4503599627370496, -42, by decide, by decide⟩
theorem nz6_100 : nz6 4636737291354636288 := ⟨false, 7036874417766400, -46, by decide, by decide⟩
theorem nz6_65536 : nz6 4679240012837945344 := ⟨false, 4503599627370496, -36, by decide, by decide⟩
theorem i2d_nn (v : Int32) : nn6 (FP.Core.decode FP.Core.b64 (FP.i2d v).toNat) := by rw [i2d_l2d]; exact l2d_nn _
theorem P_average (hI : Inv M A) : zCalD l G Y_X8_average 0 0 [vr 0 0] M (fun x M1 => zCalD l G Y_X9_average 0 0 [vr 30 0] M1 (fun y M2 => y = x ∧ Good A 0 M2)) := by
  obtain ⟨n, hR, hO⟩ := hI.1
  have q9 : zmI M 15 1 8 = zmI M 31 0 9 := hR.1.2.1
  have e : zmI (zsI M 30 0 7 0) 31 0 = zmI M 31 0 := z31_thr M 0
  refine zm_X8_average ⟨ddiv_n (i2d_nn _) nz6_1024, zm_X9_average ⟨ddiv_n (i2d_nn _) nz6_1024, ?_, Good.z hI⟩⟩
  rw [e, q9]
theorem acc_bnd {w : Nat → Int32} {n S T a : Nat} {p : Int32} (hO : OK w n A S T) (hb : sBnd A S) (ha : a < 8) : 0 ≤ (sp_acc w n a p).toInt ∧ (sp_acc w n a p).toInt ≤ 2000000000 := by
  unfold sp_acc
  split
  · next c =>
    have h1 := hO.acc (i := p.toInt.toNat) (a := a) (by omega) ha
    have h2 := hO.smb ha n (Nat.le_refl n)
    obtain ⟨f1, f2, f3, f4⟩ := h1
    have f5 := (hO.fl p.toInt.toNat (by omega)).a5.2
    have hb1 := hb.1
    have hb2 := hb.2
    refine ⟨f1, ?_⟩
    rcases Nat.lt_or_ge a 5 with d | d
    · have := f2 d
      omega
    · have := f3 d
      have f6 : (w (sf p.toInt.toNat 23)).toInt ≤ S := f5
      omega
  · have h1 := hO.sm_le hb ha n (Nat.le_refl n)
    rw [hO.tot hb ha n (Nat.le_refl n)]
    exact h1
theorem tl_0 {x : Int32} (h : 0 ≤ x.toInt) : (lg_cmp x.toInt64 0) ≤ 0 ↔ x = 0 := by
  rw [lg_cmp_le, tl_le, tl_32, show (0 : Int64).toInt = 0 from rfl, ti_eq, ti_0]
  omega
theorem P_meanWait (hl : l.stackTraces = false) {p : Int32} (hI : Inv M A) (hA : A ≤ 299000000) : zCalDX l G Y_X8_meanWait 1 6 [vr 0 0, vi p] M (fun x M1 => zCalD l G Y_X9_meanWait 0 0 [vr 30 0, vi p] M1 (fun y M2 => y = x ∧ Good A 0 M2)) (fun E M1 => E = IOE ∧ zCalD l G Y_X9_meanWait 0 0 [vr 30 0, vi p] M1 (fun _ M2 => Good A 1 M2)) := by
  obtain ⟨n, hR, hO⟩ := hI.1
  have ht := hO.tim
  have hn := hO.nf
  have hb : sBnd A (9 * (zmI M 31 0 7).toInt.toNat) := ⟨by omega, by omega⟩
  have e31 : zmI (zsI M 30 0 7 0) 31 0 = zmI M 31 0 := z31_thr M 0
  have en : (zmI (zsI M 30 0 7 0) 31 0 11).toInt = n := by rw [z31_thr]; exact hn.1
  have b5 := acc_bnd (p := p) (a := 5) hO hb (by omega)
  refine zm_X8_meanWait (C_flowOrNone hl (hR.n hO) (fun b => C_total (a := 5) hO hb hR rfl (by omega) ⟨fun c => ?_, fun c => C_total (a := 7) hO hb hR rfl (by omega) ?_⟩) fun b => ⟨rfl, zm_X9_meanWait (R_noFlows en (z7_0 M) (fun d => absurd d b) fun _ => ⟨fun _ => Good.thr hI 1, fun d => absurd d (by decide)⟩)⟩)
  · have c2 : sp_acc (zmI M 31 0) n 5 p = 0 := (tl_0 b5.1).mp c
    exact zm_X9_meanWait (R_noFlows en (z7_0 M) (fun _ => ⟨fun d => absurd rfl d, fun _ => R_acc (w := zmI M 31 0) e31 hn.1 hn.2 b (a := 5) rfl (by omega) ⟨fun d => absurd c2 d, fun _ => ⟨rfl, Good.z hI⟩⟩⟩) fun d => absurd b d)
  · have c2 : ¬ sp_acc (zmI M 31 0) n 5 p = 0 := fun d => c ((tl_0 b5.1).mpr d)
    have c3 : 0 < (sp_acc (zmI M 31 0) n 5 p).toInt := by
      rw [ti_eq, ti_0] at c2
      omega
    have hv : ∀ v : Int64, vf_n64 (FP.ddiv (FP.l2d v) (FP.l2d (sp_acc (zmI M 31 0) n 5 p).toInt64)) := fun v => ddiv_n (l2d_nn v) (l2d_nz (by rw [tl_32]; exact c3) (by rw [tl_32]; omega))
    refine ⟨hv _, zm_X9_meanWait (R_noFlows en (z7_0 M) (fun _ => ⟨fun d => absurd rfl d, fun _ => R_acc (w := zmI M 31 0) e31 hn.1 hn.2 b (a := 5) rfl (by omega) ⟨fun _ => R_acc (w := zmI M 31 0) e31 hn.1 hn.2 b (a := 7) rfl (by omega) (R_acc (w := zmI M 31 0) e31 hn.1 hn.2 b (a := 5) rfl (by omega) ⟨?_, ?_, Good.z hI⟩), fun d => absurd d c2⟩⟩) fun d => absurd b d)⟩
    · rw [i2d_l2d, i2d_l2d]
      exact hv _
    · rw [i2d_l2d, i2d_l2d]
      rfl
theorem P_lossShare (hI : Inv M A) (hA : A ≤ 299000000) : zCalF l G Y_X8_lossShare 0 0 [vr 0 0] M (fun x M1 => zCalF l G Y_X9_lossShare 0 0 [vr 30 0] M1 (fun y M2 => y = x ∧ Good A 0 M2)) := by
  obtain ⟨n, hR, hO⟩ := hI.1
  have ht := hO.tim
  have hn := hO.nf
  have hb : sBnd A (9 * (zmI M 31 0 7).toInt.toNat) := ⟨by omega, by omega⟩
  have e31 : zmI (zsI M 30 0 7 0) 31 0 = zmI M 31 0 := z31_thr M 0
  have en : (zmI (zsI M 30 0 7 0) 31 0 11).toInt = n := by rw [z31_thr]; exact hn.1
  have b5 := acc_bnd (p := -1) (a := 0) hO hb (by omega)
  have ea : sp_acc (zmI M 31 0) n 0 (-1) = sp_tot (zmI M 31 0) 0 n := by
    unfold sp_acc
    rw [if_neg (by rw [ti_n1]; omega)]
  refine zm_X8_lossShare (C_total (a := 0) hO hb hR rfl (by omega) ⟨fun c => ?_, fun c => C_dropped hO hb hR ?_⟩)
  · have c2 : sp_acc (zmI M 31 0) n 0 (-1) = 0 := (tl_0 b5.1).mp c
    refine zm_X9_lossShare (R_total (a := 0) en hn.2 rfl (by omega) ⟨fun d => ?_, fun _ => ⟨rfl, Good.z hI⟩⟩)
    rw [e31, ← ea] at d
    exact absurd c2 d
  · have c2 : ¬ sp_acc (zmI M 31 0) n 0 (-1) = 0 := fun d => c ((tl_0 b5.1).mpr d)
    have c3 : 0 < (sp_acc (zmI M 31 0) n 0 (-1)).toInt := by
      rw [ti_eq, ti_0] at c2
      omega
    have hv : ∀ v : Int64, vf_n32 (FP.fdiv (FP.l2f v) (FP.l2f (sp_acc (zmI M 31 0) n 0 (-1)).toInt64)) := fun v => fdiv_n (l2f_nn v) (l2f_nz (by rw [tl_32]; exact c3) (by rw [tl_32]; omega))
    refine ⟨hv _, zm_X9_lossShare (R_total (a := 0) en hn.2 rfl (by omega) ⟨fun _ => R_dropped en hn.2 ⟨?_, ?_, Good.z hI⟩, fun d => ?_⟩)⟩
    · rw [i2f_l2f, i2f_l2f, e31, ← ea]
      exact hv _
    · rw [i2f_l2f, i2f_l2f, e31, ← ea]
      rfl
    · rw [e31, ← ea] at d
      exact absurd d c2
/-- the squares of what the flows had -/
def sqz (w : Nat → Int32) : Nat → Int
  | 0 => 0
  | n + 1 => sqz w n + (w (sf n 23)).toInt * (w (sf n 23)).toInt
theorem OK_sqz {w : Nat → Int32} {n S T : Nat} (hO : OK w n A S T) (hS : S ≤ 200000) : ∀ k, k ≤ n → sm w 5 k ≤ sqz w k ∧ sqz w k ≤ 200000 * sm w 5 k ∧ 0 ≤ sm w 5 k ∧ sm w 5 k ≤ S := by
  intro k
  induction k with
  | zero => exact fun _ => ⟨Int.le_refl _, Int.le_refl _, Int.le_refl _, by show (0 : Int) ≤ S; omega⟩
  | succ k ih =>
    intro hk
    obtain ⟨h1, h2, h3, h4⟩ := ih (by omega)
    have f := (hO.fl k (by omega)).a5
    have f1 : 0 ≤ (w (sf k 23)).toInt ∧ (w (sf k 23)).toInt ≤ S := f
    have e1 : sm w 5 (k + 1) = sm w 5 k + (w (sf k 23)).toInt := rfl
    have e2 : sqz w (k + 1) = sqz w k + (w (sf k 23)).toInt * (w (sf k 23)).toInt := rfl
    have h5 := hO.sm5 (k + 1) (n - (k + 1)) (by omega)
    rw [e1, e2]
    rw [e1] at h5
    generalize (w (sf k 23)).toInt = x at f1 h5 ⊢
    have g1 : x * x ≤ 200000 * x := Int.mul_le_mul_of_nonneg_right (by omega) f1.1
    have g2 : x ≤ x * x := by
      rcases Int.lt_or_le x 1 with c | c
      · have : x = 0 := by omega
        rw [this]; decide
      · have := Int.mul_le_mul_of_nonneg_right c f1.1
        omega
    omega
end
