/-! DOUBLES: numbers from zero on, their order, and products that do not grow -/
section
variable {l : Launch} {G : zG} {M : zM} {A : Nat}
theorem fl_scale {a b : Nat} {L w : Int} (h : b * 2 ^ L.toNat ≤ a * 2 ^ (-L).toNat) (hw : 0 ≤ w) (hz : 0 ≤ L + w) : b * 2 ^ (L + w).toNat ≤ a * 2 ^ w.toNat := by
  rcases Int.le_total 0 L with c | c
  · rw [show (-L).toNat = 0 by omega, Nat.pow_zero, Nat.mul_one] at h
    rw [show (L + w).toNat = L.toNat + w.toNat by omega, Nat.pow_add, ← Nat.mul_assoc]
    exact Nat.mul_le_mul_right _ h
  · rw [show L.toNat = 0 by omega, Nat.pow_zero, Nat.mul_one] at h
    rw [show w.toNat = (-L).toNat + (L + w).toNat by omega, Nat.pow_add, ← Nat.mul_assoc]
    exact Nat.mul_le_mul_right _ h
theorem fl_lead {a b : Nat} (ha : 0 < a) (hb : 0 < b) : b * 2 ^ (FP.Core.leading a b).toNat ≤ a * 2 ^ (-(FP.Core.leading a b)).toNat := by
  have h1 : 2 ^ a.log2 ≤ a := Nat.log2_self_le (by omega)
  have h2 : b < 2 ^ (b.log2 + 1) := Nat.lt_log2_self
  unfold FP.Core.leading
  simp only []
  generalize hx : a.log2 = x at h1 ⊢
  generalize hy : b.log2 = y at h2 ⊢
  split
  · assumption
  · rcases Nat.lt_or_ge y x with c | c
    · rw [show (-((x : Int) - (y : Int) - 1)).toNat = 0 by omega, Nat.pow_zero, Nat.mul_one, show ((x : Int) - (y : Int) - 1).toNat = x - y - 1 by omega]
      refine Nat.le_trans (Nat.mul_le_mul_right _ (Nat.le_of_lt h2)) ?_
      rw [← Nat.pow_add, show y + 1 + (x - y - 1) = x by omega]
      exact h1
    · rw [show ((x : Int) - (y : Int) - 1).toNat = 0 by omega, Nat.pow_zero, Nat.mul_one, show (-((x : Int) - (y : Int) - 1)).toNat = y - x + 1 by omega]
      refine Nat.le_trans (Nat.le_of_lt h2) ?_
      rw [show y + 1 = x + (y - x + 1) by omega, Nat.pow_add]
      exact Nat.mul_le_mul_right _ h1
theorem fl_near {a b m : Nat} (hb : 0 < b) (h : a ≤ m * b) : FP.Core.nearest a b ≤ m := by
  have h1 := Nat.div_add_mod a b
  have h2 : a / b ≤ m := by
    have := Nat.div_le_div_right (c := b) h
    rw [Nat.mul_div_cancel _ hb] at this
    exact this
  unfold FP.Core.nearest
  rcases Nat.lt_or_ge (a / b) m with c | c
  · split
    · omega
    · split <;> omega
  · have h3 : a / b = m := by omega
    rw [h3, Nat.mul_comm] at h1
    rw [show a % b = 0 by omega, if_pos (by omega)]
    omega
theorem fl_half {c : Nat} (h : c < 9007199254740992) (k : Nat) : c * 2 ^ k < 2 ^ (53 + k) := by
  rw [Nat.pow_add]
  exact Nat.mul_lt_mul_of_pos_right h (Nat.two_pow_pos k)
/-- what is no greater than a number is rounded to a number no greater -/
theorem rr_le {a b c : Nat} {e q e0 : Int} (s : Bool) (hb : 0 < b) (hc : c < 9007199254740992) (h1 : (-1074 : Int) ≤ q) (h2 : q ≤ 971) (h3 : e0 ≤ e) (h4 : e0 ≤ -1074)
    (h : a * 2 ^ (e - e0).toNat ≤ b * c * 2 ^ (q - e0).toNat) : ∃ m Q, FP.Core.roundRatio FP.Core.b64 s a b e = .fin s m Q ∧ m < 9007199254740992 ∧ (-1074 : Int) ≤ Q ∧ Q ≤ 971 ∧ m * 2 ^ (Q + 1074).toNat ≤ c * 2 ^ (q + 1074).toNat := by
  unfold FP.Core.roundRatio
  split
  · exact ⟨0, _, rfl, by decide, by rw [f6_qmin]; decide, by rw [f6_qmin]; decide, by rw [Nat.zero_mul]; exact Nat.zero_le _⟩
  · rename_i ha
    have hQ0 := fl_quantum FP.Core.b64 a b e
    rw [f6_qmin] at hQ0
    have hQ : FP.Core.quantum FP.Core.b64 a b e ≤ q := by
      refine Classical.byContradiction fun hn => ?_
      have hl := fl_lead (a := a) (b := b) (by omega) hb
      have hd : FP.Core.quantum FP.Core.b64 a b e = FP.Core.leading a b + e - 52 := by
        have : FP.Core.quantum FP.Core.b64 a b e = max (-1074) (FP.Core.leading a b + e - 52) := by
          unfold FP.Core.quantum
          rw [f6_qmin]
          rfl
        omega
      have := fl_scale (w := e - e0) hl (by omega) (by omega)
      have h5 : b * 2 ^ (FP.Core.leading a b + (e - e0)).toNat ≤ b * (c * 2 ^ (q - e0).toNat) := by
        rw [← Nat.mul_assoc]
        exact Nat.le_trans this h
      have h6 := Nat.le_of_mul_le_mul_left h5 hb
      have h7 := fl_half hc (q - e0).toNat
      have h8 : 2 ^ (53 + (q - e0).toNat) ≤ 2 ^ (FP.Core.leading a b + (e - e0)).toNat := Nat.pow_le_pow_right (by decide) (by omega)
      omega
    unfold FP.Core.roundAt
    generalize FP.Core.quantum FP.Core.b64 a b e = Q at hQ0 hQ ⊢
    have hm : FP.Core.nearest (FP.Core.unitsNum a e Q) (FP.Core.unitsDen b e Q) ≤ c * 2 ^ (q - Q).toNat := by
      refine fl_near (Nat.mul_pos hb (Nat.two_pow_pos _)) ?_
      unfold FP.Core.unitsNum FP.Core.unitsDen
      rcases Int.le_total Q e with d | d
      · rw [show (Q - e).toNat = 0 by omega, Nat.pow_zero, Nat.mul_one]
        rw [show (e - e0).toNat = (e - Q).toNat + (Q - e0).toNat by omega, show (q - e0).toNat = (q - Q).toNat + (Q - e0).toNat by omega, Nat.pow_add, Nat.pow_add, ← Nat.mul_assoc, ← Nat.mul_assoc] at h
        have := Nat.le_of_mul_le_mul_right h (Nat.two_pow_pos _)
        rw [Nat.mul_comm _ b, ← Nat.mul_assoc]
        exact this
      · rw [show (e - Q).toNat = 0 by omega, Nat.pow_zero, Nat.mul_one]
        rw [show (q - e0).toNat = (q - Q).toNat + (Q - e).toNat + (e - e0).toNat by omega, Nat.pow_add, Nat.pow_add, ← Nat.mul_assoc, ← Nat.mul_assoc] at h
        have := Nat.le_of_mul_le_mul_right h (Nat.two_pow_pos _)
        refine Nat.le_trans this (Nat.le_of_eq ?_)
        ac_rfl
    generalize FP.Core.nearest (FP.Core.unitsNum a e Q) (FP.Core.unitsDen b e Q) = m at hm ⊢
    have hv : m * 2 ^ (Q + 1074).toNat ≤ c * 2 ^ (q + 1074).toNat := by
      rw [show (q + 1074).toNat = (q - Q).toNat + (Q + 1074).toNat by omega, Nat.pow_add, ← Nat.mul_assoc]
      exact Nat.mul_le_mul_right _ hm
    unfold FP.Core.settle FP.Core.bound
    rw [f6_p, f6_qmax, f6_tails]
    rcases Nat.lt_or_ge m 9007199254740992 with d | d
    · rw [if_pos d, if_pos (by omega)]
      exact ⟨m, Q, rfl, d, hQ0, by omega, hv⟩
    · have hq1 : Q + 1 ≤ q := by
        refine Classical.byContradiction fun hn => ?_
        rw [show (q - Q).toNat = 0 by omega, Nat.pow_zero, Nat.mul_one] at hm
        omega
      rw [if_neg (by omega), if_pos (by omega)]
      refine ⟨_, _, rfl, by decide, by omega, by omega, Nat.le_trans ?_ hv⟩
      rw [show (Q + 1 + 1074).toNat = 1 + (Q + 1074).toNat by omega, Nat.pow_add, ← Nat.mul_assoc]
      exact Nat.mul_le_mul_right _ (by omega)
/-- a double from zero on, in units of the least -/
def ps6 (x : UInt64) (u : Nat) : Prop := ∃ c q, FP.Core.decode FP.Core.b64 x.toNat = .fin false c q ∧ c < 9007199254740992 ∧ (-1074 : Int) ≤ q ∧ q ≤ 971 ∧ u = c * 2 ^ (q + 1074).toNat
theorem ps6_of {m : Nat} {Q : Int} (h1 : m < 9007199254740992) (h2 : (-1074 : Int) ≤ Q) (h3 : Q ≤ 971) : ∃ u, ps6 (UInt64.ofNat (FP.Core.encode FP.Core.b64 (.fin false m Q))) u ∧ u ≤ m * 2 ^ (Q + 1074).toNat := by
  refine ⟨_, ⟨m, (if m < 4503599627370496 then -1074 else Q), ?_, h1, ?_, ?_, rfl⟩, ?_⟩
  · rw [to6 (.inr ⟨_, _, _, rfl, h1, h2, h3⟩), ded6 h1 h2 h3]
  · split <;> omega
  · split <;> omega
  · split
    · exact Nat.mul_le_mul_left _ (Nat.pow_le_pow_right (by decide) (by omega))
    · exact Nat.le_refl _
theorem ps6.nn {x : UInt64} {u : Nat} (h : ps6 x u) : nn6 (FP.Core.decode FP.Core.b64 x.toNat) := by
  obtain ⟨c, q, h1, -⟩ := h
  rw [h1]
  exact fun h => FP.Core.Datum.noConfusion h
/-- the whole numbers up to 65536 -/
theorem ps6_i2d {k : Int32} (h0 : 0 ≤ k.toInt) (h1 : k.toInt ≤ 65536) : ∃ u, ps6 (FP.i2d k) u ∧ u ≤ 4503599627370496 * 2 ^ ((-36 : Int) + 1074).toNat := by
  have hf : (decide (k.toInt < 0)) = false := decide_eq_false (by omega)
  obtain ⟨m, Q, e1, e2, e3, e4, e5⟩ := rr_le (a := k.toInt.natAbs) (b := 1) (c := 4503599627370496) (e := 0) (q := -36) (e0 := -1074) false (by decide) (by decide) (by decide) (by decide) (by decide) (by decide) (by
    rw [Nat.one_mul]
    refine Nat.le_trans (Nat.mul_le_mul_right _ (show k.toInt.natAbs ≤ 2 ^ 16 by omega)) ?_
    rw [show (4503599627370496 : Nat) = 2 ^ 52 by decide, ← Nat.pow_add, ← Nat.pow_add]
    exact Nat.pow_le_pow_right (by decide) (by omega))
  have e6 : FP.i2d k = UInt64.ofNat (FP.Core.encode FP.Core.b64 (.fin false m Q)) := by
    show UInt64.ofNat (FP.Core.encode FP.Core.b64 (FP.Core.roundRatio FP.Core.b64 (decide (k.toInt < 0)) k.toInt.natAbs 1 0)) = _
    rw [hf, e1]
  obtain ⟨u, u1, u2⟩ := ps6_of e2 e3 e4
  rw [e6]
  exact ⟨u, u1, Nat.le_trans u2 e5⟩
/-- what is at most 65536, divided by what is at least 1 -/
theorem ps6_div {x y : UInt64} {u d : Nat} {r t : Int} (h : ps6 x u) (hu : u ≤ 4503599627370496 * 2 ^ ((-36 : Int) + 1074).toNat) (hy : FP.Core.decode FP.Core.b64 y.toNat = .fin false d r) (hd : 0 < d) (hr : r ≤ 0) (hr2 : -1000 ≤ r) (ht : t ≤ 0) (ht2 : -1000 ≤ t)
    (hk : 4503599627370496 * 2 ^ (1038 - r).toNat ≤ d * 4503599627370496 * 2 ^ (t + 1074).toNat) : ∃ v, ps6 (FP.ddiv x y) v ∧ v ≤ 4503599627370496 * 2 ^ (t + 1074).toNat := by
  obtain ⟨c, q, h1, h2, h3, h4, h5⟩ := h
  obtain ⟨m, Q, e1, e2, e3, e4, e5⟩ := rr_le (a := c) (b := d) (c := 4503599627370496) (e := q - r) (q := t) (e0 := -1074) false hd (by decide) (by omega) (by omega) (by omega) (by decide) (by
    refine Nat.le_trans ?_ (Nat.le_trans hk (Nat.le_of_eq ?_))
    · rw [show (q - r - (-1074)).toNat = (q + 1074).toNat + (-r).toNat by omega, show (1038 - r).toNat = ((-36 : Int) + 1074).toNat + (-r).toNat by omega, Nat.pow_add, Nat.pow_add, ← Nat.mul_assoc, ← Nat.mul_assoc]
      exact Nat.mul_le_mul_right _ (Nat.le_trans (Nat.le_of_eq h5.symm) hu)
    · rw [show (t - (-1074)) = t + 1074 by omega])
  have e6 : FP.ddiv x y = UInt64.ofNat (FP.Core.encode FP.Core.b64 (.fin false m Q)) := by
    show UInt64.ofNat (FP.Core.encode FP.Core.b64 (FP.Core.quotient FP.Core.b64 (FP.Core.decode FP.Core.b64 x.toNat) (FP.Core.decode FP.Core.b64 y.toNat))) = _
    rw [h1, hy]
    show UInt64.ofNat (FP.Core.encode FP.Core.b64 (if d = 0 then _ else FP.Core.roundRatio FP.Core.b64 (false != false) c d (q - r))) = _
    rw [if_neg (by omega), show (false != false) = false by decide, e1]
  obtain ⟨v, v1, v2⟩ := ps6_of e2 e3 e4
  rw [e6]
  exact ⟨v, v1, Nat.le_trans v2 e5⟩
/-- a product with what is at most 1 grows no greater -/
theorem ps6_mul {x y : UInt64} {u v : Nat} (h : ps6 x u) (h' : ps6 y v) (hv : v ≤ 2 ^ (0 + 1074 : Int).toNat) : ∃ w, ps6 (FP.dmul x y) w ∧ w ≤ u := by
  obtain ⟨c, q, h1, h2, h3, h4, h5⟩ := h
  obtain ⟨d, r, g1, g2, g3, g4, g5⟩ := h'
  obtain ⟨m, Q, e1, e2, e3, e4, e5⟩ := rr_le (a := c * d) (b := 1) (c := c) (e := q + r) (q := q) (e0 := -2148) false (by decide) h2 h3 h4 (by omega) (by decide) (by
    rw [show (q + r - (-2148)).toNat = (q + 1074).toNat + (r + 1074).toNat by omega, show (q - (-2148)).toNat = (q + 1074).toNat + (0 + 1074 : Int).toNat by omega, Nat.pow_add, Nat.pow_add, Nat.one_mul]
    have : c * 2 ^ (q + 1074).toNat * (d * 2 ^ (r + 1074).toNat) ≤ c * 2 ^ (q + 1074).toNat * 2 ^ (0 + 1074 : Int).toNat := Nat.mul_le_mul_left _ (g5 ▸ hv)
    refine Nat.le_trans (Nat.le_of_eq ?_) (Nat.le_trans this (Nat.le_of_eq ?_))
    · ac_rfl
    · rw [Nat.mul_assoc])
  have e6 : FP.dmul x y = UInt64.ofNat (FP.Core.encode FP.Core.b64 (.fin false m Q)) := by
    show UInt64.ofNat (FP.Core.encode FP.Core.b64 (FP.Core.round FP.Core.b64 (FP.Core.exactProduct (FP.Core.decode FP.Core.b64 x.toNat) (FP.Core.decode FP.Core.b64 y.toNat)))) = _
    rw [h1, g1]
    show UInt64.ofNat (FP.Core.encode FP.Core.b64 (FP.Core.roundRatio FP.Core.b64 (false != false) (c * d) 1 (q + r))) = _
    rw [show (false != false) = false by decide, e1]
  obtain ⟨w, w1, w2⟩ := ps6_of e2 e3 e4
  rw [e6]
  exact ⟨w, w1, by rw [h5]; exact Nat.le_trans w2 e5⟩
theorem ps6.vf {x : UInt64} {u : Nat} (h : ps6 x u) : vf_n64 x := by
  obtain ⟨c, q, h1, h2, h3, h4, h5⟩ := h
  have hx := x.toNat_lt
  rw [← UInt64.ofNat_toNat (x := x)]
  refine mask6 hx ?_
  refine Classical.byContradiction fun hn => ?_
  have := dec6 (s := x.toNat / 9223372036854775808) (e := x.toNat / 4503599627370496 % 2048) (t := x.toNat % 4503599627370496) (by omega) (by omega) (by omega)
  rw [show (x.toNat / 9223372036854775808 * 2048 + x.toNat / 4503599627370496 % 2048) * 4503599627370496 + x.toNat % 4503599627370496 = x.toNat by omega, h1, if_pos (by omega), if_neg (by omega)] at this
  exact FP.Core.Datum.noConfusion this
/-- nothing is left of a product with zero -/
theorem dmul_z {x : UInt64} {u : Nat} (h : ps6 x u) : FP.dmul x 0 = 0 := by
  obtain ⟨c, q, h1, h2, h3, h4, h5⟩ := h
  show UInt64.ofNat (FP.Core.encode FP.Core.b64 (FP.Core.round FP.Core.b64 (FP.Core.exactProduct (FP.Core.decode FP.Core.b64 x.toNat) (FP.Core.decode FP.Core.b64 (0 : UInt64).toNat)))) = _
  rw [h1, show FP.Core.decode FP.Core.b64 (0 : UInt64).toNat = .fin false 0 (-1074) by decide]
  show UInt64.ofNat (FP.Core.encode FP.Core.b64 (FP.Core.roundRatio FP.Core.b64 (false != false) (c * 0) 1 (q + (-1074)))) = _
  rw [Nat.mul_zero]
  unfold FP.Core.roundRatio
  rw [if_pos rfl]
  decide
theorem z_dmul {x : UInt64} {u : Nat} (h : ps6 x u) : FP.dmul 0 x = 0 := by
  obtain ⟨c, q, h1, h2, h3, h4, h5⟩ := h
  show UInt64.ofNat (FP.Core.encode FP.Core.b64 (FP.Core.round FP.Core.b64 (FP.Core.exactProduct (FP.Core.decode FP.Core.b64 (0 : UInt64).toNat) (FP.Core.decode FP.Core.b64 x.toNat)))) = _
  rw [h1, show FP.Core.decode FP.Core.b64 (0 : UInt64).toNat = .fin false 0 (-1074) by decide]
  show UInt64.ofNat (FP.Core.encode FP.Core.b64 (FP.Core.roundRatio FP.Core.b64 (false != false) (0 * c) 1 ((-1074) + q))) = _
  rw [Nat.zero_mul]
  unfold FP.Core.roundRatio
  rw [if_pos rfl]
  decide
theorem ps6_0 : ps6 0 0 := ⟨0, -1074, by decide, by decide, by decide, by decide, rfl⟩
theorem ps6_1 : ps6 FP.dconst1 (4503599627370496 * 2 ^ (-52 + 1074 : Int).toNat) := ⟨4503599627370496, -52, by decide, by decide, by decide, by decide, rfl⟩
theorem dec_65536 : FP.Core.decode FP.Core.b64 (4679240012837945344 : UInt64).toNat = .fin false 4503599627370496 (-36) := by decide
theorem dec_100 : FP.Core.decode FP.Core.b64 (4636737291354636288 : UInt64).toNat = .fin false 7036874417766400 (-46) := by decide
theorem dec_1024 : ∃ c q, FP.Core.decode FP.Core.b64 (4652218415073722368 : UInt64).toNat = .fin false c q ∧ ¬ c = 0 := ⟨4503599627370496, -42, by decide, by decide⟩
/-- the order of two of them -/
theorem ps6_lt {x y : UInt64} {u v : Nat} (h : ps6 x u) (h' : ps6 y v) : (Op.cmpValue (FP.dcmp x y) .l) < 0 ↔ u < v := by
  obtain ⟨c, q, h1, h2, h3, h4, h5⟩ := h
  obtain ⟨d, r, g1, g2, g3, g4, g5⟩ := h'
  have e1 : FP.dcmp x y = some (compare ((c * 2 ^ (q - min q r).toNat : Nat) : Int) ((d * 2 ^ (r - min q r).toNat : Nat) : Int)) := by
    show FP.Core.order (FP.Core.decode FP.Core.b64 x.toNat) (FP.Core.decode FP.Core.b64 y.toNat) = _
    rw [h1, g1]
    rfl
  have e2 : u = c * 2 ^ (q - min q r).toNat * 2 ^ (min q r + 1074).toNat := by
    rw [h5, Nat.mul_assoc, ← Nat.pow_add, show (q - min q r).toNat + (min q r + 1074).toNat = (q + 1074).toNat by omega]
  have e3 : v = d * 2 ^ (r - min q r).toNat * 2 ^ (min q r + 1074).toNat := by
    rw [g5, Nat.mul_assoc, ← Nat.pow_add, show (r - min q r).toNat + (min q r + 1074).toNat = (r + 1074).toNat by omega]
  rw [e1, e2, e3]
  generalize c * 2 ^ (q - min q r).toNat = a
  generalize d * 2 ^ (r - min q r).toNat = b
  have e4 : a * 2 ^ (min q r + 1074).toNat < b * 2 ^ (min q r + 1074).toNat ↔ a < b := Nat.mul_lt_mul_right (Nat.two_pow_pos _)
  rw [e4]
  show (Op.cmpValue (some (if (a : Int) < (b : Int) then .lt else if (a : Int) = (b : Int) then .eq else .gt)) .l) < 0 ↔ a < b
  rcases Nat.lt_trichotomy a b with c1 | c1 | c1
  · rw [if_pos (by omega)]
    exact ⟨fun _ => c1, fun _ => by decide⟩
  · rw [if_neg (by omega), if_pos (by omega)]
    exact ⟨fun h => absurd h (by decide), fun h => absurd h (by omega)⟩
  · rw [if_neg (by omega), if_neg (by omega)]
    exact ⟨fun h => absurd h (by decide), fun h => absurd h (by omega)⟩
/-- whole numbers from 1 on are numbers other than zero -/
theorem l2d_nz {v : Int64} (h0 : 0 < v.toInt) (h1 : v.toInt < 9007199254740992) : nz6 (FP.l2d v) := by
  have hl : FP.Core.leading v.toInt.natAbs 1 ≤ 52 := by
    have h2 : v.toInt.natAbs.log2 < 53 := (Nat.log2_lt (by omega)).mpr (by omega)
    unfold FP.Core.leading
    rw [show Nat.log2 1 = 0 by decide]
    simp only []
    split <;> omega
  have hQ : FP.Core.quantum FP.Core.b64 v.toInt.natAbs 1 0 ≤ 0 := by
    unfold FP.Core.quantum
    rw [f6_qmin]
    show max (-1074) (FP.Core.leading v.toInt.natAbs 1 + 0 - 52) ≤ 0
    omega
  have hQ0 := fl_quantum FP.Core.b64 v.toInt.natAbs 1 0
  rw [f6_qmin] at hQ0
  have e1 : ∃ c q, FP.Core.roundRatio FP.Core.b64 false v.toInt.natAbs 1 0 = .fin false c q ∧ c < 9007199254740992 ∧ (-1074 : Int) ≤ q ∧ q ≤ 971 ∧ ¬ c = 0 := by
    unfold FP.Core.roundRatio
    rw [if_neg (by omega)]
    unfold FP.Core.roundAt FP.Core.unitsNum FP.Core.unitsDen FP.Core.settle FP.Core.bound
    rw [f6_p, f6_qmax, f6_tails]
    generalize FP.Core.quantum FP.Core.b64 v.toInt.natAbs 1 0 = Q at hQ hQ0 ⊢
    rw [show (Q - 0).toNat = 0 by omega, Nat.pow_zero, Nat.mul_one]
    have hp := Nat.mul_pos (show 0 < v.toInt.natAbs by omega) (Nat.two_pow_pos (0 - Q).toNat)
    generalize v.toInt.natAbs * 2 ^ (0 - Q).toNat = m at hp ⊢
    have hn : FP.Core.nearest m 1 = m := by
      unfold FP.Core.nearest
      rw [Nat.mod_one, Nat.div_one, if_pos (by decide)]
    rw [hn]
    split
    · rw [if_pos (by omega)]
      exact ⟨_, _, rfl, by assumption, hQ0, by omega, by omega⟩
    · rw [if_pos (by omega)]
      exact ⟨_, _, rfl, by decide, by omega, by omega, by decide⟩
  obtain ⟨c, q, e2, e3, e4, e5, e6⟩ := e1
  have e7 : FP.l2d v = UInt64.ofNat (FP.Core.encode FP.Core.b64 (.fin false c q)) := by
    show UInt64.ofNat (FP.Core.encode FP.Core.b64 (FP.Core.roundRatio FP.Core.b64 (decide (v.toInt < 0)) v.toInt.natAbs 1 0)) = _
    rw [decide_eq_false (by omega), e2]
  rw [e7]
  refine ⟨false, c, (if c < 4503599627370496 then -1074 else q), ?_, e6⟩
  rw [to6 (.inr ⟨_, _, _, rfl, e3, e4, e5⟩), ded6 e3 e4 e5]
theorem fl_near1 {a b : Nat} (hb : 0 < b) (h : b ≤ a) : ¬ FP.Core.nearest a b = 0 := by
  have : 0 < a / b := Nat.div_pos h hb
  unfold FP.Core.nearest
  split
  · omega
  · split <;> omega
theorem l2f_nz {v : Int64} (h0 : 0 < v.toInt) (h1 : v.toInt < 2147483648) : nz3 (FP.l2f v) := by
  have h2 : v.toInt.natAbs.log2 < 31 := (Nat.log2_lt (by omega)).mpr (by omega)
  have hl : FP.Core.leading v.toInt.natAbs 1 ≤ 31 := by
    unfold FP.Core.leading
    rw [show Nat.log2 1 = 0 by decide]
    simp only []
    split <;> omega
  have hs := fl_lead (a := v.toInt.natAbs) (b := 1) (by omega) (by decide)
  have hd : FP.Core.quantum FP.Core.b32 v.toInt.natAbs 1 0 = max (-149) (FP.Core.leading v.toInt.natAbs 1 + 0 - 23) := by
    unfold FP.Core.quantum
    rw [f3_qmin]
    rfl
  have hu : 1 * 2 ^ (FP.Core.quantum FP.Core.b32 v.toInt.natAbs 1 0 - 0).toNat ≤ v.toInt.natAbs * 2 ^ (0 - FP.Core.quantum FP.Core.b32 v.toInt.natAbs 1 0).toNat := by
    generalize FP.Core.quantum FP.Core.b32 v.toInt.natAbs 1 0 = Q at hd ⊢
    rcases Int.le_total Q 0 with c | c
    · rw [show (Q - 0).toNat = 0 by omega, Nat.pow_zero, Nat.mul_one]
      exact Nat.mul_pos (by omega) (Nat.two_pow_pos _)
    · rw [show (0 - Q).toNat = 0 by omega, Nat.pow_zero, Nat.mul_one]
      rw [show (-(FP.Core.leading v.toInt.natAbs 1)).toNat = 0 by omega, Nat.pow_zero, Nat.mul_one] at hs
      refine Nat.le_trans (Nat.mul_le_mul_left _ (Nat.pow_le_pow_right (by decide) ?_)) hs
      omega
  have hQ : FP.Core.quantum FP.Core.b32 v.toInt.natAbs 1 0 ≤ 8 := by omega
  have hQ0 : (-149 : Int) ≤ FP.Core.quantum FP.Core.b32 v.toInt.natAbs 1 0 := by omega
  have e1 : ∃ c q, FP.Core.roundRatio FP.Core.b32 false v.toInt.natAbs 1 0 = .fin false c q ∧ c < 16777216 ∧ (-149 : Int) ≤ q ∧ q ≤ 104 ∧ ¬ c = 0 := by
    unfold FP.Core.roundRatio
    rw [if_neg (by omega)]
    unfold FP.Core.roundAt FP.Core.settle FP.Core.bound
    have hn := fl_near1 (a := FP.Core.unitsNum v.toInt.natAbs 0 (FP.Core.quantum FP.Core.b32 v.toInt.natAbs 1 0)) (b := FP.Core.unitsDen 1 0 (FP.Core.quantum FP.Core.b32 v.toInt.natAbs 1 0)) (Nat.mul_pos (by decide) (Nat.two_pow_pos _)) hu
    rw [f3_p, f3_qmax, f3_tails]
    generalize FP.Core.nearest (FP.Core.unitsNum v.toInt.natAbs 0 (FP.Core.quantum FP.Core.b32 v.toInt.natAbs 1 0)) (FP.Core.unitsDen 1 0 (FP.Core.quantum FP.Core.b32 v.toInt.natAbs 1 0)) = m at hn ⊢
    generalize FP.Core.quantum FP.Core.b32 v.toInt.natAbs 1 0 = Q at hQ hQ0 ⊢
    split
    · rw [if_pos (by omega)]
      exact ⟨_, _, rfl, by assumption, hQ0, by omega, hn⟩
    · rw [if_pos (by omega)]
      exact ⟨_, _, rfl, by decide, by omega, by omega, by decide⟩
  obtain ⟨c, q, e2, e3, e4, e5, e6⟩ := e1
  have e7 : FP.l2f v = UInt32.ofNat (FP.Core.encode FP.Core.b32 (.fin false c q)) := by
    show UInt32.ofNat (FP.Core.encode FP.Core.b32 (FP.Core.roundRatio FP.Core.b32 (decide (v.toInt < 0)) v.toInt.natAbs 1 0)) = _
    rw [decide_eq_false (by omega), e2]
  rw [e7]
  refine ⟨false, c, (if c < 8388608 then -149 else q), ?_, e6⟩
  rw [to3 (.inr ⟨_, _, _, rfl, e3, e4, e5⟩), ded3 e3 e4 e5]
end
