/-! BURSTS -/
section
variable {l : Launch} {G : zG} {M : zM} {A : Nat}
/-- the chance at an average, a queue and a count -/
def sp_chb (w : Nat → Int32) (a q c : Int32) : Int32 := if sp_how w a q = 3 then sp_chance (sp_base w a) c else if sp_how w a q = 1 then 0 else 65536
theorem sp_chance_bnd {b : Int64} {c : Int32} (hb : 0 ≤ b.toInt ∧ b.toInt ≤ 65536) : 0 ≤ (sp_chance b c).toInt ∧ (sp_chance b c).toInt ≤ 65536 := by
  have hc := ti_rng c
  unfold sp_chance
  split
  · next h =>
    rw [lg_cmp_gt, tl_lt, show (0 : Int64).toInt = 0 from rfl] at h
    have p1 : -2147483648 * 65536 ≤ c.toInt * b.toInt ∧ c.toInt * b.toInt ≤ 2147483648 * 65536 := by
      constructor
      · have e1 : -2147483648 * b.toInt ≤ c.toInt * b.toInt := Int.mul_le_mul_of_nonneg_right (by omega) hb.1
        omega
      · have e1 : c.toInt * b.toInt ≤ 2147483648 * b.toInt := Int.mul_le_mul_of_nonneg_right (by omega) hb.1
        omega
    have m1 : (c.toInt64 * b).toInt = c.toInt * b.toInt := by rw [tl_mul (by rw [tl_32]; omega), tl_32]
    have m2 : (65536 * b).toInt = 65536 * b.toInt := by rw [tl_mul (by rw [show (65536 : Int64).toInt = 65536 from rfl]; omega), show (65536 : Int64).toInt = 65536 from rfl]
    have m3 := tl_div (a := 65536 * b) (b := 65536 - c.toInt64 * b) (by rw [m2]; omega) h
    have m4 : 0 ≤ (65536 * b).toInt / (65536 - c.toInt64 * b).toInt := Int.ediv_nonneg (by rw [m2]; omega) (by omega)
    have m5 : ∀ z : Int64, 0 ≤ z.toInt → (if z < 65536 then z else 65536).toInt32.toInt = (if z < 65536 then z else 65536).toInt ∧ 0 ≤ (if z < 65536 then z else 65536).toInt ∧ (if z < 65536 then z else 65536).toInt ≤ 65536 := by
      intro z hz
      have m6 : 0 ≤ (if z < 65536 then z else 65536).toInt ∧ (if z < 65536 then z else 65536).toInt ≤ 65536 := by
        split
        · next g =>
          rw [tl_lt, show (65536 : Int64).toInt = 65536 from rfl] at g
          omega
        · rw [show (65536 : Int64).toInt = 65536 from rfl]
          omega
      exact ⟨by rw [Int64.toInt_toInt32, ti_bm (by omega)], m6⟩
    have := m5 ((65536 * b) / (65536 - c.toInt64 * b)) (by rw [m3]; exact m4)
    rw [this.1]
    exact this.2
  · exact ⟨by decide, by decide⟩
theorem sp_chb_bnd {w : Nat → Int32} {a q c : Int32} (hm : sp_mm w) (ht : 0 ≤ (w 4).toInt ∧ (w 4).toInt ≤ 65536) : 0 ≤ (sp_chb w a q c).toInt ∧ (sp_chb w a q c).toInt ≤ 65536 := by
  unfold sp_chb
  split
  · exact sp_chance_bnd (sp_base_bnd hm ht)
  · split <;> exact ⟨by decide, by decide⟩
/-- what a chance leaves -/
def sp_lv (x : Int32) : UInt64 := FP.ddiv (FP.i2d (65536 - x)) 4679240012837945344
theorem sp_lv_ps {x : Int32} (h : 0 ≤ x.toInt ∧ x.toInt ≤ 65536) : ∃ v, ps6 (sp_lv x) v ∧ v ≤ 2 ^ (0 + 1074 : Int).toNat := by
  have e : (65536 - x).toInt = 65536 - x.toInt := by rw [ti_sub (by rw [show (65536 : Int32).toInt = 65536 from rfl]; omega), show (65536 : Int32).toInt = 65536 from rfl]
  obtain ⟨u, u1, u2⟩ := ps6_i2d (k := 65536 - x) (by omega) (by omega)
  obtain ⟨v, v1, v2⟩ := ps6_div (t := -52) u1 u2 dec_65536 (by decide) (by decide) (by decide) (by decide) (by decide) (by
    rw [show (4503599627370496 : Nat) = 2 ^ 52 by decide, ← Nat.pow_add, ← Nat.pow_add, ← Nat.pow_add]
    exact Nat.pow_le_pow_right (by decide) (by omega))
  refine ⟨v, v1, Nat.le_trans v2 ?_⟩
  rw [show (4503599627370496 : Nat) = 2 ^ 52 by decide, ← Nat.pow_add]
  exact Nat.pow_le_pow_right (by decide) (by omega)
theorem sp_lv_0 : sp_lv 65536 = 0 := by decide +kernel
/-- what is let in of a burst -/
def shr (w : Nat → Int32) : Nat → Int32 → Int32 → Int32 → UInt64 → UInt64
  | 0, _, _, _, x => x
  | k + 1, a, c, q, x => if sp_chb w (sp_moved w a q) q (c + 1) = 65536 then 0 else shr w k (sp_moved w a q) (if sp_how w (sp_moved w a q) q = 3 then c + 1 else -1) (q + 1) (FP.dmul x (sp_lv (sp_chb w (sp_moved w a q) q (c + 1))))
theorem shr_ps {w : Nat → Int32} (hm : sp_mm w) (ht : 0 ≤ (w 4).toInt ∧ (w 4).toInt ≤ 65536) : ∀ (k : Nat) (a c q : Int32) (x : UInt64) (u : Nat), ps6 x u → ∃ v, ps6 (shr w k a c q x) v ∧ v ≤ u := by
  intro k
  induction k with
  | zero => exact fun a c q x u h => ⟨u, h, Nat.le_refl _⟩
  | succ k ih =>
    intro a c q x u h
    unfold shr
    split
    · exact ⟨0, ps6_0, Nat.zero_le _⟩
    · obtain ⟨v, v1, v2⟩ := sp_lv_ps (sp_chb_bnd (a := sp_moved w a q) (q := q) (c := c + 1) hm ht)
      obtain ⟨y, y1, y2⟩ := ps6_mul h v1 v2
      obtain ⟨z, z1, z2⟩ := ih (sp_moved w a q) (if sp_how w (sp_moved w a q) q = 3 then c + 1 else -1) (q + 1) _ y y1
      exact ⟨z, z1, Nat.le_trans z2 y2⟩
theorem shr_mono {w : Nat → Int32} (hm : sp_mm w) (ht : 0 ≤ (w 4).toInt ∧ (w 4).toInt ≤ 65536) : ∀ (k : Nat) (a c q : Int32) (x : UInt64) (u : Nat), ps6 x u → ∃ v v', ps6 (shr w k a c q x) v ∧ ps6 (shr w (k + 1) a c q x) v' ∧ v' ≤ v := by
  intro k
  induction k with
  | zero =>
    intro a c q x u h
    obtain ⟨v, v1, v2⟩ := shr_ps hm ht 1 a c q x u h
    exact ⟨u, v, h, v1, v2⟩
  | succ k ih =>
    intro a c q x u h
    have e1 : ∀ k, shr w (k + 1) a c q x = if sp_chb w (sp_moved w a q) q (c + 1) = 65536 then 0 else shr w k (sp_moved w a q) (if sp_how w (sp_moved w a q) q = 3 then c + 1 else -1) (q + 1) (FP.dmul x (sp_lv (sp_chb w (sp_moved w a q) q (c + 1)))) := fun k => rfl
    rw [e1 k, e1 (k + 1)]
    split
    · exact ⟨0, 0, ps6_0, ps6_0, Nat.le_refl _⟩
    · obtain ⟨v, v1, v2⟩ := sp_lv_ps (sp_chb_bnd (a := sp_moved w a q) (q := q) (c := c + 1) hm ht)
      obtain ⟨y, y1, y2⟩ := ps6_mul h v1 v2
      exact ih _ _ _ _ y y1
theorem C_wayAny {p q : Int32} {Kf : Int32 → zM → Prop} (h : ∀ x, Kf x M) : zCalI l G Y_X5_wayAt 0 0 [vr 15 1, vi p, vi q] M Kf :=
  zm_X5_wayAt ⟨fun _ => ⟨fun _ => ⟨fun _ => h _, fun _ => h _⟩, fun _ => h _⟩, fun _ => h _⟩
theorem C_shr0 {w : Nat → Int32} {n S T : Nat} {Kf : UInt64 → zM → Prop} (hO : OK w n A S T) (hR : Rel M 1 w true) (h : Kf 0 M) : ∀ (d : Nat) (y1 y4 y5 y6 y7 : Int32), y7.toInt + d = y1.toInt → 0 ≤ y7.toInt →
    zAt l G Y_X8_shareLetIn (zED G Y_X8_shareLetIn Kf) 35 [(0, vr 0 0), (1, vi y1), (2, vd 0), (4, vi y4), (5, vi y5), (6, vi y6), (7, vi y7)] [] M 0 0 := by
  intro d
  induction d with
  | zero =>
    intro y1 y4 y5 y6 y7 hd h0
    refine zb_X8_shareLetIn_35 ⟨fun _ => h, fun c => ?_⟩
    exfalso
    rw [ti_le] at c
    omega
  | succ d ih =>
    intro y1 y4 y5 y6 y7 hd h0
    have hi : (y7 + 1).toInt = y7.toInt + 1 := by
      have := ti_rng y1
      rw [ti_add (by rw [ti_1]; omega), ti_1]
    refine zb_X8_shareLetIn_35 ⟨fun c => ?_, fun _ => C_avg hR.1 (C_wayAny fun way => C_base hR.1 hO.mm hO.gen (C_chance ?_))⟩
    · exfalso
      rw [ti_le] at c
      omega
    · have hb := sp_base_bnd (a := sp_moved w y4 y6) hO.mm hO.top
      rw [t3264 (by omega)]
      have hch : ∀ x : Int32, (0 ≤ x.toInt ∧ x.toInt ≤ 65536) → vf_n64 (FP.ddiv (FP.i2d (65536 - x)) 4679240012837945344) ∧ (vf_n64 (FP.dmul 0 (FP.ddiv (FP.i2d (65536 - x)) 4679240012837945344)) ∧ FP.dmul 0 (FP.ddiv (FP.i2d (65536 - x)) 4679240012837945344) = 0) := fun x hx => by
        obtain ⟨v, v1, v2⟩ := sp_lv_ps hx
        have e : FP.dmul 0 (FP.ddiv (FP.i2d (65536 - x)) 4679240012837945344) = 0 := z_dmul v1
        exact ⟨v1.vf, by rw [e]; exact ps6_0.vf, e⟩
      have hx : 0 ≤ (if way = 3 then sp_chance (sp_base w (sp_moved w y4 y6)) (y5 + 1) else if way = 1 then 0 else 65536 : Int32).toInt ∧ (if way = 3 then sp_chance (sp_base w (sp_moved w y4 y6)) (y5 + 1) else if way = 1 then 0 else 65536 : Int32).toInt ≤ 65536 := by
        split
        · exact sp_chance_bnd hb
        · split <;> exact ⟨by decide, by decide⟩
      obtain ⟨g1, g2, g3⟩ := hch _ hx
      refine ⟨g1, g2, fun _ => ?_, fun _ => ?_⟩
      · rw [g3]
        exact zb_X8_shareLetIn_115 (ih y1 _ _ _ (y7 + 1) (by omega) (by omega))
      · rw [g3]
        exact zb_X8_shareLetIn_115 (ih y1 _ _ _ (y7 + 1) (by omega) (by omega))
theorem C_shr {w : Nat → Int32} {n S T : Nat} {Kf : UInt64 → zM → Prop} (hO : OK w n A S T) (hR : Rel M 1 w true) : ∀ (d : Nat) (y1 y4 y5 y6 y7 : Int32) (y2 : UInt64) (u : Nat), y7.toInt + d = y1.toInt → 0 ≤ y7.toInt → ps6 y2 u → y6.toInt ≤ (w 0).toInt → 0 ≤ y6.toInt → Kf (shr w d y4 y5 y6 y2) M →
    zAt l G Y_X8_shareLetIn (zED G Y_X8_shareLetIn Kf) 35 [(0, vr 0 0), (1, vi y1), (2, vd y2), (4, vi y4), (5, vi y5), (6, vi y6), (7, vi y7)] [] M 0 0 := by
  intro d
  have hlim := hO.lim
  induction d with
  | zero =>
    intro y1 y4 y5 y6 y7 y2 u hd h0 hu hq hq0 h
    refine zb_X8_shareLetIn_35 ⟨fun _ => h, fun c => ?_⟩
    exfalso
    rw [ti_le] at c
    omega
  | succ d ih =>
    intro y1 y4 y5 y6 y7 y2 u hd h0 hu hq hq0 h
    have hi : (y7 + 1).toInt = y7.toInt + 1 := by
      have := ti_rng y1
      rw [ti_add (by rw [ti_1]; omega), ti_1]
    refine zb_X8_shareLetIn_35 ⟨fun c => ?_, fun _ => C_avg hR.1 (C_way hR.1 hO.gen hq (C_base hR.1 hO.mm hO.gen (C_chance ?_)))⟩
    · exfalso
      rw [ti_le] at c
      omega
    · have hb := sp_base_bnd (a := sp_moved w y4 y6) hO.mm hO.top
      rw [t3264 (by omega)]
      show vf_n64 (sp_lv (sp_chb w (sp_moved w y4 y6) y6 (y5 + 1))) ∧ (vf_n64 (FP.dmul y2 (sp_lv (sp_chb w (sp_moved w y4 y6) y6 (y5 + 1)))) ∧ ((¬ sp_how w (sp_moved w y4 y6) y6 = 3 → zAt l G Y_X8_shareLetIn (zED G Y_X8_shareLetIn Kf) 115 [(0, vr 0 0), (1, vi y1), (2, vd (FP.dmul y2 (sp_lv (sp_chb w (sp_moved w y4 y6) y6 (y5 + 1))))), (4, vi (sp_moved w y4 y6)), (6, vi y6), (7, vi y7)] [vi (-1)] M 0 0) ∧ (sp_how w (sp_moved w y4 y6) y6 = 3 → zAt l G Y_X8_shareLetIn (zED G Y_X8_shareLetIn Kf) 115 [(0, vr 0 0), (1, vi y1), (2, vd (FP.dmul y2 (sp_lv (sp_chb w (sp_moved w y4 y6) y6 (y5 + 1))))), (4, vi (sp_moved w y4 y6)), (6, vi y6), (7, vi y7)] [vi (y5 + 1)] M 0 0)))
      obtain ⟨v, v1, v2⟩ := sp_lv_ps (sp_chb_bnd (a := sp_moved w y4 y6) (q := y6) (c := y5 + 1) hO.mm hO.top)
      obtain ⟨z, z1, z2⟩ := ps6_mul hu v1 v2
      refine ⟨v1.vf, z1.vf, ?_⟩
      unfold shr at h
      rcases Classical.em (sp_chb w (sp_moved w y4 y6) y6 (y5 + 1) = 65536) with c | c
      · rw [if_pos c] at h
        rw [c, sp_lv_0, dmul_z hu]
        exact ⟨fun _ => zb_X8_shareLetIn_115 (C_shr0 hO hR h d y1 _ _ _ (y7 + 1) (by omega) (by omega)), fun _ => zb_X8_shareLetIn_115 (C_shr0 hO hR h d y1 _ _ _ (y7 + 1) (by omega) (by omega))⟩
      · rw [if_neg c] at h
        have hne : ¬ y6 = w 0 := fun g => c (by
          unfold sp_chb
          have : sp_how w (sp_moved w y4 y6) y6 = 0 := by
            unfold sp_how
            rw [if_pos g]
          rw [this, if_neg (by decide), if_neg (by decide)])
        have hq1 : (y6 + 1).toInt ≤ (w 0).toInt ∧ 0 ≤ (y6 + 1).toInt := by
          rw [ti_eq] at hne
          rw [ti_add (by rw [ti_1]; omega), ti_1]
          omega
        refine ⟨fun g => zb_X8_shareLetIn_115 (ih y1 _ _ _ (y7 + 1) _ z (by omega) (by omega) z1 hq1.1 hq1.2 ?_), fun g => zb_X8_shareLetIn_115 (ih y1 _ _ _ (y7 + 1) _ z (by omega) (by omega) z1 hq1.1 hq1.2 ?_)⟩
        · rw [if_neg g] at h
          exact h
        · rw [if_pos g] at h
          exact h
theorem C_share {w : Nat → Int32} {n S T k : Nat} {p : Int32} {Kf : UInt64 → zM → Prop} (hO : OK w n A S T) (hR : Rel M 1 w true) (hp : p.toInt = k) (h : Kf (shr w k (w 9) (w 10) (w 8) FP.dconst1) M) : zCalD l G Y_X8_shareLetIn 0 0 [vr 0 0, vi p] M Kf := by
  have hq := hO.nq
  have q8 : zmI M 19 1 1 = w 8 := hR.2.2.1.1
  have q9 : zmI M 15 1 8 = w 9 := hR.1.2.1
  have q10 : zmI M 15 1 9 = w 10 := hR.1.2.2.1 rfl
  refine zm_X8_shareLetIn (C_shr hO hR k _ _ _ _ _ _ _ (by rw [hp]; exact Int.zero_add _) (Int.le_refl _) ps6_1 ?_ ?_ ?_)
  · rw [q8]; exact hq.2
  · rw [q8]; exact hq.1
  · rw [q8, q9, q10]; exact h
theorem R_shr {w : Nat → Int32} {Kf : UInt64 → zM → Prop} (hw : zmI M 31 0 = w) (hm : sp_mm w) (ht : 0 ≤ (w 4).toInt ∧ (w 4).toInt ≤ 65536) : ∀ (d : Nat) (y1 y4 y5 y6 y7 : Int32) (y2 : UInt64) (u : Nat), y7.toInt + d = y1.toInt → 0 ≤ y7.toInt → ps6 y2 u → Kf (shr w d y4 y5 y6 y2) M →
    zAt l G Y_X9_burstOf (zED G Y_X9_burstOf Kf) 32 [(0, vr 30 0), (1, vi y1), (2, vd y2), (4, vi y4), (5, vi y5), (6, vi y6), (7, vi y7)] [] M 0 0 := by
  intro d
  induction d with
  | zero =>
    intro y1 y4 y5 y6 y7 y2 u hd h0 hu h
    refine zb_X9_burstOf_32 ⟨fun _ => h, fun c => ?_⟩
    exfalso
    rw [ti_le] at c
    omega
  | succ d ih =>
    intro y1 y4 y5 y6 y7 y2 u hd h0 hu h
    have hi : (y7 + 1).toInt = y7.toInt + 1 := by
      have := ti_rng y1
      rw [ti_add (by rw [ti_1]; omega), ti_1]
    refine zb_X9_burstOf_32 ⟨fun c => ?_, fun _ => R_moved (R_chanceBy hw hm ?_)⟩
    · exfalso
      rw [ti_le] at c
      omega
    · rw [hw]
      show (¬ sp_chb w (sp_moved w y4 y6) y6 (y5 + 1) = 65536 → (vf_n64 (sp_lv (sp_chb w (sp_moved w y4 y6) y6 (y5 + 1))) ∧ (vf_n64 (FP.dmul y2 (sp_lv (sp_chb w (sp_moved w y4 y6) y6 (y5 + 1)))) ∧ zCalI l G Y_X9_low 0 0 [vr 30 0] M (fun x8 M7 => ((x8 ≤ sp_moved w y4 y6 → zAt l G Y_X9_burstOf (zED G Y_X9_burstOf Kf) 101 [(0, vr 30 0), (1, vi y1), (2, vd (FP.dmul y2 (sp_lv (sp_chb w (sp_moved w y4 y6) y6 (y5 + 1))))), (4, vi (sp_moved w y4 y6)), (6, vi y6), (7, vi y7)] [vi (y5 + 1)] M7 0 0) ∧ (¬ x8 ≤ sp_moved w y4 y6 → zAt l G Y_X9_burstOf (zED G Y_X9_burstOf Kf) 101 [(0, vr 30 0), (1, vi y1), (2, vd (FP.dmul y2 (sp_lv (sp_chb w (sp_moved w y4 y6) y6 (y5 + 1))))), (4, vi (sp_moved w y4 y6)), (6, vi y6), (7, vi y7)] [vi (-1)] M7 0 0)))))) ∧ (sp_chb w (sp_moved w y4 y6) y6 (y5 + 1) = 65536 → Kf FP.dconst0 M)
      unfold shr at h
      refine ⟨fun c => ?_, fun c => ?_⟩
      · rw [if_neg c] at h
        obtain ⟨v, v1, v2⟩ := sp_lv_ps (sp_chb_bnd (a := sp_moved w y4 y6) (q := y6) (c := y5 + 1) hm ht)
        obtain ⟨z, z1, z2⟩ := ps6_mul hu v1 v2
        have e3 : sp_how w (sp_moved w y4 y6) y6 = 3 ↔ sp_low w ≤ sp_moved w y4 y6 := by
          constructor
          · intro g
            unfold sp_how at g
            refine Classical.byContradiction fun k => ?_
            rw [if_neg k] at g
            split at g
            · exact absurd g (by decide)
            · exact absurd g (by decide)
          · intro g
            refine Classical.byContradiction fun k => c ?_
            unfold sp_chb
            rw [if_neg k, if_neg ?_]
            intro k2
            unfold sp_how at k2
            rw [if_pos g] at k2
            split at k2
            · exact absurd k2 (by decide)
            · split at k2
              · exact absurd k2 (by decide)
              · exact absurd k2 (by decide)
        refine ⟨v1.vf, z1.vf, zm_X9_low ?_⟩
        rw [hw]
        refine ⟨fun g => zb_X9_burstOf_101 (ih y1 _ _ _ (y7 + 1) _ z (by omega) (by omega) z1 ?_), fun g => zb_X9_burstOf_101 (ih y1 _ _ _ (y7 + 1) _ z (by omega) (by omega) z1 ?_)⟩
        · rw [if_pos (e3.mpr g)] at h
          exact h
        · rw [if_neg (fun k => g (e3.mp k))] at h
          exact h
      · rw [if_pos c] at h
        exact h
theorem R_burstOf {w : Nat → Int32} {k : Nat} {p : Int32} {Kf : UInt64 → zM → Prop} (hw : zmI M 31 0 = w) (hm : sp_mm w) (ht : 0 ≤ (w 4).toInt ∧ (w 4).toInt ≤ 65536) (hp : p.toInt = k) (h : Kf (shr w k (w 9) (w 10) (w 8) FP.dconst1) M) : zCalD l G Y_X9_burstOf 0 0 [vr 30 0, vi p] M Kf := by
  refine zm_X9_burstOf (R_shr hw hm ht k _ _ _ _ _ _ _ (by rw [hp]; exact Int.zero_add _) (Int.le_refl _) ps6_1 ?_)
  rw [hw]
  exact h
end
