/-! LONGS -/
theorem tl_rng (x : Int64) : -9223372036854775808 ≤ x.toInt ∧ x.toInt ≤ 9223372036854775807 := by
  have h1 := Int64.le_toInt x
  have h2 := Int64.toInt_lt x
  omega
theorem tl_bm {z : Int} (h : -9223372036854775808 ≤ z ∧ z ≤ 9223372036854775807) : z.bmod (2 ^ 64) = z := by
  rw [Int.bmod_def]
  omega
theorem tl_add {a b : Int64} (h : -9223372036854775808 ≤ a.toInt + b.toInt ∧ a.toInt + b.toInt ≤ 9223372036854775807) : (a + b).toInt = a.toInt + b.toInt := by
  rw [Int64.toInt_add, tl_bm h]
theorem tl_sub {a b : Int64} (h : -9223372036854775808 ≤ a.toInt - b.toInt ∧ a.toInt - b.toInt ≤ 9223372036854775807) : (a - b).toInt = a.toInt - b.toInt := by
  rw [Int64.toInt_sub, tl_bm h]
theorem tl_mul {a b : Int64} (h : -9223372036854775808 ≤ a.toInt * b.toInt ∧ a.toInt * b.toInt ≤ 9223372036854775807) : (a * b).toInt = a.toInt * b.toInt := by
  rw [Int64.toInt_mul, tl_bm h]
theorem tl_eq {a b : Int64} : a = b ↔ a.toInt = b.toInt := Int64.toInt_inj.symm
theorem tl_lt {a b : Int64} : a < b ↔ a.toInt < b.toInt := Int64.lt_iff_toInt_lt
theorem tl_le {a b : Int64} : a ≤ b ↔ a.toInt ≤ b.toInt := Int64.le_iff_toInt_le
theorem tl_32 (x : Int32) : x.toInt64.toInt = x.toInt := Int32.toInt_toInt64 x
theorem t64_lt {a b : Int32} : a.toInt64 < b.toInt64 ↔ a < b := by rw [tl_lt, tl_32, tl_32, ti_lt]
theorem t64_le {a b : Int32} : a.toInt64 ≤ b.toInt64 ↔ a ≤ b := by rw [tl_le, tl_32, tl_32, ti_le]
theorem t64_sub {a b : Int32} (h : -2147483648 ≤ a.toInt - b.toInt ∧ a.toInt - b.toInt ≤ 2147483647) : a.toInt64 - b.toInt64 = (a - b).toInt64 :=
  tl_eq.mpr (by rw [tl_sub (by rw [tl_32, tl_32]; omega), tl_32, tl_32, tl_32, ti_sub h])
theorem t64_add {a b : Int32} (h : -2147483648 ≤ a.toInt + b.toInt ∧ a.toInt + b.toInt ≤ 2147483647) : a.toInt64 + b.toInt64 = (a + b).toInt64 :=
  tl_eq.mpr (by rw [tl_add (by rw [tl_32, tl_32]; omega), tl_32, tl_32, tl_32, ti_add h])
theorem t64_mul {a b : Int32} (h : -2147483648 ≤ a.toInt * b.toInt ∧ a.toInt * b.toInt ≤ 2147483647) : a.toInt64 * b.toInt64 = (a * b).toInt64 :=
  tl_eq.mpr (by rw [tl_mul (by rw [tl_32, tl_32]; omega), tl_32, tl_32, tl_32, ti_mul h])
theorem t3264 {x : Int64} (h : -2147483648 ≤ x.toInt ∧ x.toInt ≤ 2147483647) : x.toInt32.toInt64 = x :=
  tl_eq.mpr (by rw [tl_32, Int64.toInt_toInt32, ti_bm h])
theorem tl_div {a b : Int64} (ha : 0 ≤ a.toInt) (hb : 0 < b.toInt) : (a / b).toInt = a.toInt / b.toInt := by
  have h2 := tl_rng a
  have d2 : 0 ≤ a.toInt / b.toInt := Int.ediv_nonneg ha (by omega)
  have d3 : a.toInt / b.toInt ≤ a.toInt := Int.ediv_le_self _ ha
  rw [Int64.toInt_div, Int.tdiv_eq_ediv_of_nonneg ha, tl_bm (by omega)]
theorem sp_endc {w : Nat → Int32} (hg : w 6 = 0 ∨ w 6 = 1) : (1024 * w 3) * (w 6 + 1) = sp_end w := by
  unfold sp_end
  rcases hg with h | h
  · rw [h, if_neg (by decide)]
    exact Int32.mul_one _
  · rw [h, if_pos rfl]
    exact Int32.mul_comm _ _
theorem sp_lows {w : Nat → Int32} (hm : sp_mm w) : (sp_low w).toInt = 1024 * (w 2).toInt ∧ (sp_high w).toInt = 1024 * (w 3).toInt := by
  obtain ⟨m1, m2, m3⟩ := hm
  constructor
  · rw [ti_mul (by rw [show (1024 : Int32).toInt = 1024 from rfl]; omega), show (1024 : Int32).toInt = 1024 from rfl]
  · rw [ti_mul (by rw [show (1024 : Int32).toInt = 1024 from rfl]; omega), show (1024 : Int32).toInt = 1024 from rfl]
theorem sp_ends {w : Nat → Int32} (hm : sp_mm w) : (sp_high w).toInt ≤ (sp_end w).toInt ∧ (sp_end w).toInt ≤ 2 * (sp_high w).toInt := by
  have h := sp_lows hm
  obtain ⟨m1, m2, m3⟩ := hm
  unfold sp_end
  split
  · rw [ti_mul (a := 2) (b := sp_high w) (by rw [show (2 : Int32).toInt = 2 from rfl]; omega), show (2 : Int32).toInt = 2 from rfl]
    omega
  · omega
theorem sp_base_bnd {w : Nat → Int32} {a : Int32} (hm : sp_mm w) (ht : 0 ≤ (w 4).toInt ∧ (w 4).toInt ≤ 65536) : 0 ≤ (sp_base w a).toInt ∧ (sp_base w a).toInt ≤ 65536 := by
  have hl := sp_lows hm
  have he := sp_ends hm
  have hmm := hm
  obtain ⟨m1, m2, m3⟩ := hm
  have ha := ti_rng a
  unfold sp_base
  split
  · next c =>
    rw [ti_le] at c
    split
    · next d =>
      rw [ti_lt] at d
      split
      · next f =>
        rw [ti_le] at f
        have x1 : (65536 - w 4).toInt = 65536 - (w 4).toInt := by rw [ti_sub (by rw [show (65536 : Int32).toInt = 65536 from rfl]; omega), show (65536 : Int32).toInt = 65536 from rfl]
        have x2 : (a - sp_high w).toInt = a.toInt - (sp_high w).toInt := ti_sub (by omega)
        have y0 : 0 ≤ (65536 - (w 4).toInt) * (a.toInt - (sp_high w).toInt) := Int.mul_nonneg (by omega) (by omega)
        have y1 : (65536 - (w 4).toInt) * (a.toInt - (sp_high w).toInt) ≤ (65536 - (w 4).toInt) * (sp_high w).toInt := Int.mul_le_mul_of_nonneg_left (by omega) (by omega)
        have y2 : (65536 - (w 4).toInt) * (sp_high w).toInt ≤ 65536 * (sp_high w).toInt := Int.mul_le_mul_of_nonneg_right (by omega) (by omega)
        have x3 : ((65536 - w 4).toInt64 * (a - sp_high w).toInt64).toInt = (65536 - (w 4).toInt) * (a.toInt - (sp_high w).toInt) := by rw [tl_mul (by rw [tl_32, tl_32, x1, x2]; omega), tl_32, tl_32, x1, x2]
        have x4 : ((65536 - w 4).toInt64 * (a - sp_high w).toInt64 / (sp_high w).toInt64).toInt = (65536 - (w 4).toInt) * (a.toInt - (sp_high w).toInt) / (sp_high w).toInt := by rw [tl_div (by rw [x3]; omega) (by rw [tl_32]; omega), x3, tl_32]
        have y3 : (65536 - (w 4).toInt) * (a.toInt - (sp_high w).toInt) / (sp_high w).toInt ≤ 65536 - (w 4).toInt := Int.le_trans (Int.ediv_le_ediv (by omega) y1) (by rw [Int.mul_ediv_cancel _ (by omega)]; omega)
        have y4 : 0 ≤ (65536 - (w 4).toInt) * (a.toInt - (sp_high w).toInt) / (sp_high w).toInt := Int.ediv_nonneg y0 (by omega)
        rw [tl_add (by rw [tl_32, x4]; omega), tl_32, x4]
        omega
      · next f =>
        rw [ti_le] at f
        have x2 : (a - sp_low w).toInt = a.toInt - (sp_low w).toInt := ti_sub (by omega)
        have x5 : (sp_high w - sp_low w).toInt = (sp_high w).toInt - (sp_low w).toInt := ti_sub (by omega)
        have y0 : 0 ≤ (w 4).toInt * (a.toInt - (sp_low w).toInt) := Int.mul_nonneg (by omega) (by omega)
        have y1 : (w 4).toInt * (a.toInt - (sp_low w).toInt) ≤ (w 4).toInt * ((sp_high w).toInt - (sp_low w).toInt) := Int.mul_le_mul_of_nonneg_left (by omega) (by omega)
        have y2 : (w 4).toInt * ((sp_high w).toInt - (sp_low w).toInt) ≤ 65536 * ((sp_high w).toInt - (sp_low w).toInt) := Int.mul_le_mul_of_nonneg_right (by omega) (by omega)
        have x3 : ((w 4).toInt64 * (a - sp_low w).toInt64).toInt = (w 4).toInt * (a.toInt - (sp_low w).toInt) := by rw [tl_mul (by rw [tl_32, tl_32, x2]; omega), tl_32, tl_32, x2]
        rw [tl_div (by rw [x3]; omega) (by rw [tl_32, x5]; omega), x3, tl_32, x5]
        have y3 : (w 4).toInt * (a.toInt - (sp_low w).toInt) / ((sp_high w).toInt - (sp_low w).toInt) ≤ (w 4).toInt := Int.le_trans (Int.ediv_le_ediv (by omega) y1) (by rw [Int.mul_ediv_cancel _ (by omega)]; omega)
        have y4 : 0 ≤ (w 4).toInt * (a.toInt - (sp_low w).toInt) / ((sp_high w).toInt - (sp_low w).toInt) := Int.ediv_nonneg y0 (by omega)
        omega
    · decide
  · decide
section
variable {l : Launch} {G : zG} {M : zM} {r : Nat} {w : Nat → Int32} {e : Bool}
theorem C_avg {p q : Int32} {Kf : Int32 → zM → Prop} (hA : RA (zmI M 15 r) w e) (h : Kf (sp_moved w q p) M) : zCalI l G Y_X5_averageAfter 0 0 [vr 15 r, vi p, vi q] M Kf := by
  refine zm_X5_averageAfter ?_
  rw [hA.1 5 (by omega)]
  exact h
theorem C_way {p q : Int32} {Kf : Int32 → zM → Prop} (hA : RA (zmI M 15 r) w e) (hg : w 6 = 0 ∨ w 6 = 1) (hp : p.toInt ≤ (w 0).toInt) (h : Kf (sp_how w q p) M) : zCalI l G Y_X5_wayAt 0 0 [vr 15 r, vi p, vi q] M Kf := by
  refine zm_X5_wayAt ?_
  rw [hA.1 0 (by omega), hA.1 2 (by omega), hA.1 3 (by omega), hA.1 6 (by omega), sp_endc hg]
  unfold sp_how at h
  refine ⟨fun c => ?_, fun c => ?_⟩
  · rw [ti_lt] at c
    rw [if_neg (by rw [ti_eq]; omega)] at h
    refine ⟨fun d => ?_, fun d => ?_⟩
    · rw [if_pos d] at h
      refine ⟨fun f => ?_, fun f => ?_⟩
      · rw [if_pos f] at h; exact h
      · rw [if_neg f] at h; exact h
    · rw [if_neg d] at h; exact h
  · rw [ti_lt] at c
    rw [if_pos (by rw [ti_eq]; omega)] at h
    exact h
theorem C_base {a : Int32} {Kf : Int32 → zM → Prop} (hA : RA (zmI M 15 r) w e) (hm : sp_mm w) (hg : w 6 = 0 ∨ w 6 = 1) (h : Kf (sp_base w a).toInt32 M) : zCalI l G Y_X5_baseAt 0 0 [vr 15 r, vi a] M Kf := by
  have hl := sp_lows hm
  have he := sp_ends hm
  have ha := ti_rng a
  have hmm := hm
  obtain ⟨m1, m2, m3⟩ := hm
  refine zm_X5_baseAt ?_
  have k1 : (1024 : Int64) * (w 2).toInt64 = (sp_low w).toInt64 := t64_mul (a := 1024) (by rw [show (1024 : Int32).toInt = 1024 from rfl]; omega)
  have k2 : (1024 : Int64) * (w 3).toInt64 = (sp_high w).toInt64 := t64_mul (a := 1024) (by rw [show (1024 : Int32).toInt = 1024 from rfl]; omega)
  have g1 : (w 6 + 1).toInt = 1 ∨ (w 6 + 1).toInt = 2 := by
    rcases hg with h | h
    · rw [h]; exact Or.inl rfl
    · rw [h]; exact Or.inr rfl
  have k3 : (sp_high w).toInt64 * (w 6 + 1).toInt64 = (sp_end w).toInt64 := by
    rw [t64_mul (by rcases g1 with g | g <;> rw [g] <;> omega), ← sp_endc hg]
  rw [hA.1 2 (by omega), hA.1 3 (by omega), hA.1 4 (by omega), hA.1 6 (by omega), k1, k2, k3]
  unfold sp_base at h
  simp only [lg_cmp_lt, lg_cmp_gt, lg_cmp_ge, t64_lt, t64_le]
  refine ⟨fun c => ?_, fun c => ⟨fun _ => ⟨fun d => ⟨fun f => ⟨?_, ?_⟩, fun f => ?_⟩, fun d => ⟨?_, ?_⟩⟩, fun f => ?_⟩⟩
  · rw [ti_lt] at c
    rw [if_neg (by rw [ti_le]; omega)] at h
    exact h
  · exact t64_ne (by omega)
  · rw [ti_lt] at c
    have d2 := d
    rw [ti_le] at d2
    rw [if_pos (by rw [ti_le]; omega), if_pos f, if_pos d] at h
    rw [t64_sub (by omega)]
    exact h
  · rw [ti_lt] at c
    rw [if_pos (by rw [ti_le]; omega), if_neg f] at h
    exact h
  · rw [t64_sub (by omega)]
    exact t64_ne (by rw [ti_sub (by omega)]; omega)
  · rw [ti_lt] at c
    have d2 := d
    rw [ti_le] at d2
    rw [if_pos (by rw [ti_le]; omega), if_pos (by rw [ti_lt]; omega), if_neg d] at h
    rw [t64_sub (by omega), t64_sub (by omega)]
    exact h
  · exfalso
    rw [ti_lt] at f
    omega
theorem C_chance {way b c : Int32} {Kf : Int32 → zM → Prop} (h : Kf (if way = 3 then sp_chance b.toInt64 c else if way = 1 then 0 else 65536) M) : zCalI l G Y_X5_chanceAt 0 0 [vi way, vi b, vi c] M Kf := by
  unfold sp_chance at h
  refine zm_X5_chanceAt ⟨fun d => ?_, fun d => ⟨fun f => ?_, fun f => ?_⟩⟩
  · rw [if_pos d] at h
    refine ⟨fun f => ⟨lg_cmp_ne f, fun g => ?_, fun g => ?_⟩, fun f => ?_⟩
    · rw [if_pos f] at h
      rw [lg_cmp_ge] at g
      rw [if_neg (by rw [tl_lt]; rw [tl_le] at g; omega)] at h
      exact h
    · rw [if_pos f] at h
      rw [lg_cmp_ge] at g
      rw [if_pos (by rw [tl_lt]; rw [tl_le] at g; omega)] at h
      exact h
    · rw [if_neg f] at h
      exact h
  · rw [if_neg d, if_neg f] at h
    exact h
  · rw [if_neg d, if_pos f] at h
    exact h
theorem nx_and' (a b : Nat) : nI a &&& nI b = nI (a &&& b) := by
  apply Int32.toBitVec_inj.1
  show BitVec.ofNat 32 a &&& BitVec.ofNat 32 b = BitVec.ofNat 32 (a &&& b)
  apply BitVec.eq_of_getLsbD_eq
  intro i hi
  simp [hi]
theorem nx_mod' (k : Nat) : nI k &&& 65535 = nI (k % 65536) := by
  show nI k &&& nI 65535 = _
  rw [nx_and', show (65535 : Nat) = 2 ^ 16 - 1 from rfl, Nat.and_two_pow_sub_one_eq_mod]
theorem sh15 (u : UInt32) : ∃ k : Nat, k < 131072 ∧ (u >>> ((15 : Int32).toUInt32 &&& Int32.toUInt32 31)).toInt32 = nI k := by
  refine ⟨u.toNat >>> 15, ?_, ?_⟩
  · rw [Nat.shiftRight_eq_div_pow]
    have := UInt32.toNat_lt u
    omega
  · apply Int32.toBitVec_inj.1
    show (u >>> ((15 : Int32).toUInt32 &&& Int32.toUInt32 31)).toBitVec = BitVec.ofNat 32 (u.toNat >>> 15)
    apply BitVec.eq_of_toNat_eq
    rw [BitVec.toNat_ofNat]
    show (u >>> ((15 : Int32).toUInt32 &&& Int32.toUInt32 31)).toNat = _
    rw [UInt32.toNat_shiftRight, show (((15 : Int32).toUInt32 &&& Int32.toUInt32 31).toNat % 32) = 15 from rfl, Nat.shiftRight_eq_div_pow]
    have := UInt32.toNat_lt u
    omega
theorem C_draw {Kf : Int32 → zM → Prop} (h : Kf (sp_drawn (sp_next (zmI M 15 r 10))) (zsIr M 15 r (zup (zmI M 15 r) 10 (sp_next (zmI M 15 r 10))))) : zCalI l G Y_X5_draw 0 0 [vr 15 r] M Kf := by
  refine zm_X5_draw ?_
  simp only [zsI1, zup_self]
  obtain ⟨k, hk, ek⟩ := sh15 ((zmI M 15 r 10 * 1103515245 + 12345).toUInt32)
  unfold sp_drawn sp_next at h
  rw [ek] at h ⊢
  have e : nI k - nI k / 65536 * 65536 = nI k &&& 65535 := by
    rw [nx_mod']
    refine nI_ofT ?_
    rw [ti_rem (by rw [ti_nI (by omega)]; omega) (by decide), ti_nI (by omega), show (65536 : Int32).toInt = 65536 from rfl]
    omega
  rw [e]
  exact h
theorem C_out {way p dr ch : Int32} {i : Nat} {Kf : Int32 → zM → Prop} (hp : p.toInt = i) (hi : i < 6) (h : Kf (if way = 1 ∨ (way = 3 ∧ ¬ dr < ch) then 0 else if way = 3 ∧ ¬ zmI M 17 (6 * r + i) 5 = 0 then 1 else 2) M) : zCalI l G Y_X5_outcomeOf 0 0 [vr 15 r, vi way, vi p, vi dr, vi ch] M Kf := by
  refine zm_X5_outcomeOf ⟨fun c => ?_, fun c => ⟨fun d => zb_X5_outcomeOf_18 ⟨fun _ => ?_, fun f => absurd f d⟩, fun d => ⟨fun f => zb_X5_outcomeOf_18 ⟨fun g => absurd d g, fun _ => ⟨ti_in (by rw [hp]; omega), ?_⟩⟩, fun f => ?_⟩⟩⟩
  · rw [if_pos (Or.inl c)] at h
    exact h
  · rw [if_neg (by rintro (g | g); exact c g; exact d g.1), if_neg (fun g => d g.1)] at h
    exact h
  · rw [if_neg (by rintro (g | g); exact c g; exact g.2 f)] at h
    rw [ti_at hp]
    refine ⟨fun g => ?_, fun g => ?_⟩
    · rw [if_neg (fun q => q.2 g)] at h
      exact h
    · rw [if_pos ⟨d, g⟩] at h
      exact h
  · rw [if_pos (Or.inr ⟨d, f⟩)] at h
    exact h
end
