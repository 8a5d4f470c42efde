/-! FAIRNESS -/
section
variable {l : Launch} {G : zG} {M : zM} {A : Nat}
theorem C_fair {w : Nat → Int32} {n S T : Nat} {Kf : UInt64 → zM → Prop} (hO : OK w n A S T) (hb : sBnd A S) (hR : Rel M 1 w true) (h1 : sm w 5 n = 0 → Kf FP.dconst1 M) (h2 : ∀ x y : Int64, 0 < sm w 5 n → x.toInt = sm w 5 n * sm w 5 n → y.toInt = n * sqz w n → vf_n64 (FP.ddiv (FP.l2d x) (FP.l2d y)) → Kf (FP.ddiv (FP.l2d x) (FP.l2d y)) M) :
    zCalD l G Y_X8_fairness 0 0 [vr 0 0] M Kf := by
  have hn := hO.nf
  have hb2 := hb.2
  have key : ∀ d j : Nat, j + d = n → ∀ (y1 y3 : Int64) (y5 : Int32), y5.toInt = j → y1.toInt = sm w 5 j → y3.toInt = sqz w j → zAt l G Y_X8_fairness (zED G Y_X8_fairness Kf) 7 [(0, vr 0 0), (1, vl y1), (3, vl y3), (5, vi y5)] [] M 0 0 := by
    intro d
    induction d with
    | zero =>
      intro j hj y1 y3 y5 h5 hy1 hy3
      refine zb_X8_fairness_7 ⟨fun _ => ?_, fun c => ?_⟩
      · have hjn : j = n := by omega
        rw [hjn] at hy1 hy3
        obtain ⟨b1, b2, b3, b4⟩ := OK_sqz hO (by omega) n (Nat.le_refl n)
        have hnn : (zmI M 15 1 12).toInt = n := hR.n hO
        have e0 : 0 ≤ (n : Int) * sqz w n := Int.mul_nonneg (by omega) (by omega)
        have e1 : (n : Int) * sqz w n ≤ 6 * (200000 * 200000) := Int.le_trans (Int.mul_le_mul_of_nonneg_right (show (n : Int) ≤ 6 by omega) (by omega)) (Int.mul_le_mul_of_nonneg_left (by omega) (by decide))
        have e2 : ((zmI M 15 1 12).toInt64 * y3).toInt = n * sqz w n := by
          rw [tl_mul (by rw [tl_32, hnn, hy3]; omega), tl_32, hnn, hy3]
        have e3 : sm w 5 n * sm w 5 n ≤ 200000 * sm w 5 n := Int.mul_le_mul_of_nonneg_right (by omega) b3
        have e4 : 0 ≤ sm w 5 n * sm w 5 n := Int.mul_nonneg b3 b3
        have e5 : (y1 * y1).toInt = sm w 5 n * sm w 5 n := by
          rw [tl_mul (by rw [hy1]; omega), hy1]
        have e6 : 0 < sm w 5 n → 0 < (n : Int) * sqz w n := fun h => by
          have hn0 : 0 < n := by
            rcases Nat.eq_zero_or_pos n with g | g
            · rw [g] at h
              exact absurd h (Int.lt_irrefl 0)
            · exact g
          exact Int.mul_pos (by omega) (by omega)
        refine ⟨fun c => h1 ?_, fun c => ?_⟩
        · rw [lg_cmp_le, tl_le, e2, show (0 : Int64).toInt = 0 from rfl] at c
          refine Classical.byContradiction fun g => ?_
          have := e6 (by omega)
          omega
        · have hp : 0 < sm w 5 n := by
            refine Classical.byContradiction fun g => c ?_
            rw [lg_cmp_le, tl_le, e2, show (0 : Int64).toInt = 0 from rfl]
            have : sqz w n = 0 := by omega
            rw [this]
            omega
          have hv := ddiv_n (l2d_nn (y1 * y1)) (l2d_nz (v := (zmI M 15 1 12).toInt64 * y3) (by rw [e2]; exact e6 hp) (by rw [e2]; omega))
          exact ⟨hv, h2 _ _ hp e5 e2 hv⟩
      · exfalso
        rw [ti_le, hR.n hO] at c
        omega
    | succ d ih =>
      intro j hj y1 y3 y5 h5 hy1 hy3
      refine zb_X8_fairness_7 ⟨fun c => ?_, fun _ => C_total (a := 5) hO hb hR rfl (by omega) ?_⟩
      · exfalso
        rw [ti_le, hR.n hO] at c
        omega
      · rw [if_pos (by omega), show y5.toInt.toNat = j by omega]
        obtain ⟨b1, b2, b3, b4⟩ := OK_sqz hO (by omega) j (by omega)
        have f := (hO.fl j (by omega)).a5
        have f1 : 0 ≤ (w (sf j (18 + 5))).toInt ∧ (w (sf j (18 + 5))).toInt ≤ S := f
        have g1 : (w (sf j (18 + 5))).toInt * (w (sf j (18 + 5))).toInt ≤ 200000 * (w (sf j (18 + 5))).toInt := Int.mul_le_mul_of_nonneg_right (by omega) f1.1
        have g0 : 0 ≤ (w (sf j (18 + 5))).toInt * (w (sf j (18 + 5))).toInt := Int.mul_nonneg f1.1 f1.1
        have m1 : ((w (sf j (18 + 5))).toInt64 * (w (sf j (18 + 5))).toInt64).toInt = (w (sf j (18 + 5))).toInt * (w (sf j (18 + 5))).toInt := by
          rw [tl_mul (by rw [tl_32]; omega), tl_32]
        refine ih (j + 1) (by omega) _ _ (y5 + 1) (ti_inc h5 (by omega)) ?_ ?_
        · rw [tl_add (by rw [tl_32, hy1]; omega), tl_32, hy1]
          rfl
        · rw [tl_add (by rw [m1, hy3]; omega), m1, hy3]
          rfl
  exact zm_X8_fairness (key n 0 (by omega) 0 0 0 rfl rfl rfl)
theorem R_fair {w : Nat → Int32} {n S T : Nat} {Kf : UInt64 → zM → Prop} (hO : OK w n A S T) (hb : sBnd A S) (hw : zmI M 31 0 = w) (hK : ∀ x y : Int64, 0 < sm w 5 n → x.toInt = sm w 5 n → y.toInt = n * sqz w n → vf_n64 (FP.ddiv (FP.l2d (x * x)) (FP.l2d y)) ∧ Kf (FP.ddiv (FP.l2d (x * x)) (FP.l2d y)) M) (hp : 0 < sm w 5 n) {x : Int64} (hx : x.toInt = sm w 5 n) :
    zAt l G Y_X9_fairness (zED G Y_X9_fairness Kf) 26 [(0, vr 30 0), (1, vl x), (3, vl 0), (5, vi 0)] [] M 0 0 := by
  have hn := hO.nf
  have hb2 := hb.2
  have key : ∀ d j : Nat, j + d = n → ∀ (y3 : Int64) (y5 : Int32), y5.toInt = j → y3.toInt = sqz w j → zAt l G Y_X9_fairness (zED G Y_X9_fairness Kf) 26 [(0, vr 30 0), (1, vl x), (3, vl y3), (5, vi y5)] [] M 0 0 := by
    intro d
    induction d with
    | zero =>
      intro j hj y3 y5 h5 hy3
      refine zb_X9_fairness_26 ⟨fun _ => ?_, fun c => ?_⟩
      · have hjn : j = n := by omega
        rw [hjn] at hy3
        obtain ⟨b1, b2, b3, b4⟩ := OK_sqz hO (by omega) n (Nat.le_refl n)
        have hnn : (zmI M 31 0 11).toInt = n := by rw [hw]; exact hn.1
        have e1 : (n : Int) * sqz w n ≤ 6 * (200000 * 200000) := Int.le_trans (Int.mul_le_mul_of_nonneg_right (show (n : Int) ≤ 6 by omega) (by omega)) (Int.mul_le_mul_of_nonneg_left (by omega) (by decide))
        have e0 : 0 ≤ (n : Int) * sqz w n := Int.mul_nonneg (by omega) (by omega)
        have e2 : ((zmI M 31 0 11).toInt64 * y3).toInt = n * sqz w n := by
          rw [tl_mul (by rw [tl_32, hnn, hy3]; omega), tl_32, hnn, hy3]
        exact hK x _ hp hx e2
      · exfalso
        rw [ti_le, hw, hn.1] at c
        omega
    | succ d ih =>
      intro j hj y3 y5 h5 hy3
      refine zb_X9_fairness_26 ⟨fun c => ?_, fun _ => R_account (a := 5) h5 (by omega) rfl (by omega) (R_account (a := 5) h5 (by omega) rfl (by omega) ?_)⟩
      · exfalso
        rw [ti_le, hw, hn.1] at c
        omega
      · rw [hw]
        obtain ⟨b1, b2, b3, b4⟩ := OK_sqz hO (by omega) j (by omega)
        have f := (hO.fl j (by omega)).a5
        have f1 : 0 ≤ (w (sf j (18 + 5))).toInt ∧ (w (sf j (18 + 5))).toInt ≤ S := f
        have g1 : (w (sf j (18 + 5))).toInt * (w (sf j (18 + 5))).toInt ≤ 200000 * (w (sf j (18 + 5))).toInt := Int.mul_le_mul_of_nonneg_right (by omega) f1.1
        have g0 : 0 ≤ (w (sf j (18 + 5))).toInt * (w (sf j (18 + 5))).toInt := Int.mul_nonneg f1.1 f1.1
        have m1 : ((w (sf j (18 + 5))).toInt64 * (w (sf j (18 + 5))).toInt64).toInt = (w (sf j (18 + 5))).toInt * (w (sf j (18 + 5))).toInt := by
          rw [tl_mul (by rw [tl_32]; omega), tl_32]
        refine ih (j + 1) (by omega) _ (y5 + 1) (ti_inc h5 (by omega)) ?_
        rw [tl_add (by rw [m1, hy3]; omega), m1, hy3]
        rfl
  exact key n 0 (by omega) 0 0 rfl rfl
theorem P_fairness (hI : Inv M A) (hA : A ≤ 299000000) : zCalD l G Y_X8_fairness 0 0 [vr 0 0] M (fun x M1 => zCalD l G Y_X9_fairness 0 0 [vr 30 0] M1 (fun y M2 => y = x ∧ Good A 0 M2)) := by
  obtain ⟨n, hR, hO⟩ := hI.1
  have ht := hO.tim
  have hn := hO.nf
  have hb : sBnd A (9 * (zmI M 31 0 7).toInt.toNat) := ⟨by omega, by omega⟩
  have e31 : zmI (zsI M 30 0 7 0) 31 0 = zmI M 31 0 := z31_thr M 0
  have en : (zmI (zsI M 30 0 7 0) 31 0 11).toInt = n := by rw [z31_thr]; exact hn.1
  have et := hO.tot hb (a := 5) (by omega) n (Nat.le_refl n)
  have eb := hO.sm_le hb (a := 5) (by omega) n (Nat.le_refl n)
  refine C_fair hO hb hR (fun c => zm_X9_fairness (R_total (a := 5) en hn.2 rfl (by omega) ⟨fun d => ?_, fun _ => ⟨rfl, Good.z hI⟩⟩)) fun x y hp hx hy hv => zm_X9_fairness (R_total (a := 5) en hn.2 rfl (by omega) ⟨fun _ => ?_, fun d => ?_⟩)
  · refine absurd ?_ d
    rw [lg_cmp_eq, e31, tl_eq, tl_32, et, c]
    rfl
  · refine R_fair hO hb e31 (fun x' y' hp' hx' hy' => ?_) hp (by rw [tl_32, e31, et])
    have hq : sm (zmI M 31 0) 5 n ≤ 9 * (zmI M 31 0 7).toInt.toNat := (hO.sm5 n 0 (by omega)).2
    have e4 : sm (zmI M 31 0) 5 n * sm (zmI M 31 0) 5 n ≤ 200000 * sm (zmI M 31 0) 5 n := Int.mul_le_mul_of_nonneg_right (by omega) (by omega)
    have e5 : 0 ≤ sm (zmI M 31 0) 5 n * sm (zmI M 31 0) 5 n := Int.mul_nonneg (by omega) (by omega)
    have e6 : x' * x' = x := tl_eq.mpr (by rw [tl_mul (by rw [hx']; omega), hx', hx])
    have e7 : y' = y := tl_eq.mpr (by rw [hy', hy])
    rw [e6, e7]
    exact ⟨hv, rfl, Good.z hI⟩
  · exfalso
    rw [lg_cmp_eq, e31, tl_eq, tl_32, et] at d
    rw [d] at hp
    exact absurd hp (by decide)
end
