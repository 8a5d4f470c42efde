/-! BURSTS, THE PAIRS -/
section
variable {l : Launch} {G : zG} {M : zM} {A : Nat}
theorem P_burst (hl : l.stackTraces = false) {p : Int32} (hI : Inv M A) : zCalDX l G Y_X8_burst 1 6 [vr 0 0, vi p] M (fun x M1 => zCalD l G Y_X9_burst 0 0 [vr 30 0, vi p] M1 (fun y M2 => y = x ∧ Good A 0 M2)) (fun E M1 => E = IAE ∧ zCalD l G Y_X9_burst 0 0 [vr 30 0, vi p] M1 (fun _ M2 => Good A 1 M2)) := by
  obtain ⟨n, hR, hO⟩ := hI.1
  have e31 : zmI (zsI M 30 0 7 0) 31 0 = zmI M 31 0 := z31_thr M 0
  refine zm_X8_burst (C_within hl (fun c => ?_) fun c => ⟨rfl, zm_X9_burst (R_in2 (fun d => absurd d c) fun _ => ⟨fun d => absurd rfl d, fun _ => zb_X9_burst_21 (R_f1 (z7_0 M) (by decide) ⟨fun d => absurd d (by decide), fun _ => Good.thr hI 1⟩)⟩)⟩)
  have c2 := c
  rw [ti_le, ti_1] at c2
  have hp : p.toInt = p.toInt.toNat := by omega
  exact C_share hO hR hp (zm_X9_burst (R_in2 (fun _ => ⟨fun _ => zb_X9_burst_21 (R_f0 (z7_0 M) (by decide) ⟨fun _ => R_burstOf e31 hO.mm hO.top hp ⟨rfl, Good.z hI⟩, fun d => absurd rfl d⟩), fun d => absurd d (by decide)⟩) fun d => absurd c d))
theorem sure_ex (Q : Nat → Prop) (hm : ∀ k, Q k → Q (k + 1)) : ∀ N, ∃ r, r ≤ N ∧ (∀ j, 1 ≤ j → j ≤ r → ¬ Q j) ∧ ∀ j, r < j → j ≤ N → Q j := by
  intro N
  induction N with
  | zero => exact ⟨0, Nat.le_refl _, fun j h1 h2 => absurd h1 (by omega), fun j h1 h2 => absurd h1 (by omega)⟩
  | succ N ih =>
    obtain ⟨r, r1, r2, r3⟩ := ih
    rcases Classical.em (Q (N + 1)) with c | c
    · refine ⟨r, by omega, r2, fun j h1 h2 => ?_⟩
      rcases Nat.lt_or_ge N j with d | d
      · rw [show j = N + 1 by omega]; exact c
      · exact r3 j h1 d
    · have hr : r = N := by
        rcases Nat.lt_or_ge r N with d | d
        · exact absurd (hm N (r3 N d (Nat.le_refl N))) c
        · omega
      refine ⟨N + 1, Nat.le_refl _, fun j h1 h2 => ?_, fun j h1 h2 => absurd h1 (by omega)⟩
      rcases Nat.lt_or_ge N j with d | d
      · rw [show j = N + 1 by omega]; exact c
      · exact r2 j h1 (by omega)
/-- that a burst of k is not sure enough -/
def sureQ (w : Nat → Int32) (y : UInt64) (k : Nat) : Prop := (Op.cmpValue (FP.dcmp (shr w k (w 9) (w 10) (w 8) FP.dconst1) y) .l) < 0
theorem sureQ_mono {w : Nat → Int32} {y : UInt64} {u : Nat} (hm : sp_mm w) (ht : 0 ≤ (w 4).toInt ∧ (w 4).toInt ≤ 65536) (hy : ps6 y u) (k : Nat) (h : sureQ w y k) : sureQ w y (k + 1) := by
  obtain ⟨v, v', v1, v2, v3⟩ := shr_mono hm ht k (w 9) (w 10) (w 8) _ _ ps6_1
  have h1 := (ps6_lt v1 hy).mp h
  exact (ps6_lt v2 hy).mpr (by omega)
theorem C_sure {w : Nat → Int32} {n S T r : Nat} {Kf : Int32 → zM → Prop} {KX : String → zM → Prop} {y : UInt64} (hO : OK w n A S T) (hR : Rel M 1 w true) (hr : r ≤ 60) (h1 : ∀ j, 1 ≤ j → j ≤ r → ¬ sureQ w y j) (h2 : ∀ j, r < j → j ≤ 60 → sureQ w y j) (h : ∀ x : Int32, x.toInt = r → Kf x M) : ∀ (d j : Nat) (y4 y5 : Int32), j + d = 61 → 1 ≤ j → y5.toInt = j → y4.toInt = (if j - 1 ≤ r then j - 1 else r : Nat) →
    zAt l G Y_X8_sureBurst (zEM G Y_X8_sureBurst 1 6 (zKI Kf, some KX)) 20 [(0, vr 0 0), (2, vd y), (4, vi y4), (5, vi y5)] [] M 1 6 := by
  intro d
  induction d with
  | zero =>
    intro j y4 y5 hj h0 h5 h4
    refine zb_X8_sureBurst_20 ⟨fun _ => h _ ?_, fun c => ?_⟩
    · rw [h4]
      split <;> omega
    · exfalso
      rw [ti_lt, show (60 : Int32).toInt = 60 from rfl] at c
      omega
  | succ d ih =>
    intro j y4 y5 hj h0 h5 h4
    have hi : (y5 + 1).toInt = ((j + 1 : Nat) : Int) := by
      rw [ti_add (by rw [ti_1]; omega), ti_1]
      omega
    refine zb_X8_sureBurst_20 ⟨fun c => ?_, fun _ => C_share hO hR h5 ⟨fun c => ?_, fun c => ?_⟩⟩
    · exfalso
      rw [ti_lt, show (60 : Int32).toInt = 60 from rfl] at c
      omega
    · have hlt : r < j := Classical.byContradiction fun g => h1 j h0 (by omega) c
      refine zb_X8_sureBurst_42 (ih (j + 1) y4 (y5 + 1) (by omega) (by omega) hi ?_)
      rw [h4]
      split <;> split <;> omega
    · have hle : j ≤ r := Classical.byContradiction fun g => c (h2 j (by omega) (by omega))
      refine zb_X8_sureBurst_42 (ih (j + 1) y5 (y5 + 1) (by omega) (by omega) hi ?_)
      rw [if_pos (by omega), h5]
      omega
theorem R_sure {w : Nat → Int32} {n S T r : Nat} {p : Int32} {Kf : Int32 → zM → Prop} {u : Nat} (hO : OK w n A S T) (hw : zmI M 31 0 = w) (hy : ps6 (FP.ddiv (FP.i2d p) 4636737291354636288) u) (hr : r ≤ 60) (h1 : ∀ j, 1 ≤ j → j ≤ r → ¬ sureQ w (FP.ddiv (FP.i2d p) 4636737291354636288) j) (h2 : ∀ j, r < j → j ≤ 60 → sureQ w (FP.ddiv (FP.i2d p) 4636737291354636288) j) (h : ∀ x : Int32, x.toInt = r → Kf x M) : ∀ (d j : Nat) (y2 : Int32), j + d = r → y2.toInt = j →
    zAt l G Y_X9_sureBurst (zEI G Y_X9_sureBurst Kf) 32 [(0, vr 30 0), (1, vi p), (2, vi y2)] [] M 0 0 := by
  intro d
  induction d with
  | zero =>
    intro j y2 hj hy2
    have hi : ¬ (60 : Int32) ≤ y2 → (y2 + 1).toInt = ((j + 1 : Nat) : Int) := fun c => by
      rw [ti_le, show (60 : Int32).toInt = 60 from rfl] at c
      rw [ti_add (by rw [ti_1]; omega), ti_1]
      omega
    refine zb_X9_sureBurst_32 ⟨fun _ => h _ (by omega), fun c => R_burstOf hw hO.mm hO.top (hi c) ⟨hy.vf, fun _ => h _ (by omega), fun g => ?_⟩⟩
    exfalso
    rw [ti_le, show (60 : Int32).toInt = 60 from rfl] at c
    exact g (h2 (j + 1) (by omega) (by omega))
  | succ d ih =>
    intro j y2 hj hy2
    have hi : (y2 + 1).toInt = ((j + 1 : Nat) : Int) := by
      rw [ti_add (by rw [ti_1]; omega), ti_1]
      omega
    refine zb_X9_sureBurst_32 ⟨fun c => ?_, fun c => R_burstOf hw hO.mm hO.top hi ⟨hy.vf, fun g => absurd g (h1 (j + 1) (by omega) (by omega)), fun g => ih (j + 1) (y2 + 1) (by omega) hi⟩⟩
    exfalso
    rw [ti_le, show (60 : Int32).toInt = 60 from rfl] at c
    omega
theorem P_sureBurst (hl : l.stackTraces = false) {p : Int32} (hI : Inv M A) : zCalIX l G Y_X8_sureBurst 1 6 [vr 0 0, vi p] M (fun x M1 => zCalI l G Y_X9_sureBurst 0 0 [vr 30 0, vi p] M1 (fun y M2 => y = x ∧ Good A 0 M2)) (fun E M1 => E = IAE ∧ zCalI l G Y_X9_sureBurst 0 0 [vr 30 0, vi p] M1 (fun _ M2 => Good A 1 M2)) := by
  obtain ⟨n, hR, hO⟩ := hI.1
  have e31 : zmI (zsI M 30 0 7 0) 31 0 = zmI M 31 0 := z31_thr M 0
  refine zm_X8_sureBurst (C_within hl (fun c => ?_) fun c => ⟨rfl, zm_X9_sureBurst (R_in2 (fun d => absurd d c) fun _ => ⟨fun d => absurd rfl d, fun _ => zb_X9_sureBurst_21 (R_f1 (z7_0 M) (by decide) ⟨fun d => absurd d (by decide), fun _ => Good.thr hI 1⟩)⟩)⟩)
  have c2 := c
  rw [ti_le, ti_le, ti_1, show (100 : Int32).toInt = 100 from rfl] at c2
  obtain ⟨u, u1, u2⟩ := ps6_i2d (k := p) (by omega) (by omega)
  obtain ⟨v, v1, v2⟩ := ps6_div (t := -36) u1 u2 dec_100 (by decide) (by decide) (by decide) (by decide) (by decide) (by
    rw [show (1038 - (-46) : Int).toNat = 46 + (-36 + 1074 : Int).toNat by omega, Nat.pow_add, ← Nat.mul_assoc]
    exact Nat.mul_le_mul_right _ (by decide))
  obtain ⟨r, r1, r2, r3⟩ := sure_ex (sureQ (zmI M 31 0) (FP.ddiv (FP.i2d p) 4636737291354636288)) (sureQ_mono hO.mm hO.top v1) 60
  refine ⟨v1.vf, C_sure hO hR r1 r2 r3 (fun x hx => zm_X9_sureBurst (R_in2 (fun _ => ⟨fun _ => zb_X9_sureBurst_21 (R_f0 (z7_0 M) (by decide) ⟨fun _ => R_sure hO e31 v1 r1 r2 r3 (fun y hy => ⟨?_, Good.z hI⟩) r 0 0 (by omega) rfl, fun d => absurd rfl d⟩), fun d => absurd d (by decide)⟩) fun d => absurd c d)) 60 1 0 1 (by omega) (by omega) rfl ?_⟩
  · rw [if_pos (by omega)]
    rfl
  · rw [ti_eq, hx, hy]
end
