/-! DOUBLES AND FLOATS: what is no NaN, and what grows no greater -/
section
variable {l : Launch} {G : zG} {M : zM} {A : Nat}
theorem f6_tails : FP.Core.Fmt.tails FP.Core.b64 = 4503599627370496 := by decide
theorem f6_exps : FP.Core.Fmt.exps FP.Core.b64 = 2048 := by decide
theorem f6_qmin : FP.Core.Fmt.qmin FP.Core.b64 = -1074 := by decide
theorem f6_qmax : FP.Core.Fmt.qmax FP.Core.b64 = 971 := by decide
theorem f6_p : (2 : Nat) ^ FP.Core.b64.p = 9007199254740992 := by decide
theorem f3_tails : FP.Core.Fmt.tails FP.Core.b32 = 8388608 := by decide
theorem f3_exps : FP.Core.Fmt.exps FP.Core.b32 = 256 := by decide
theorem f3_qmin : FP.Core.Fmt.qmin FP.Core.b32 = -149 := by decide
theorem f3_qmax : FP.Core.Fmt.qmax FP.Core.b32 = 104 := by decide
theorem f3_p : (2 : Nat) ^ FP.Core.b32.p = 16777216 := by decide
/-- an infinity, or a number within the format -/
def fin6 (d : FP.Core.Datum) : Prop := (∃ s, d = .inf s) ∨ ∃ s c q, d = .fin s c q ∧ c < 9007199254740992 ∧ (-1074 : Int) ≤ q ∧ q ≤ 971
def fin3 (d : FP.Core.Datum) : Prop := (∃ s, d = .inf s) ∨ ∃ s c q, d = .fin s c q ∧ c < 16777216 ∧ (-149 : Int) ≤ q ∧ q ≤ 104
theorem fl_quantum (f : FP.Core.Fmt) (a b : Nat) (e : Int) : f.qmin ≤ FP.Core.quantum f a b e := by
  unfold FP.Core.quantum
  exact Int.le_max_left _ _
theorem rr6 (s : Bool) (a b : Nat) (e : Int) : fin6 (FP.Core.roundRatio FP.Core.b64 s a b e) := by
  have hq := fl_quantum FP.Core.b64 a b e
  rw [f6_qmin] at hq
  unfold FP.Core.roundRatio
  split
  · exact .inr ⟨_, _, _, rfl, by decide, by rw [f6_qmin]; decide, by rw [f6_qmin]; decide⟩
  · unfold FP.Core.roundAt FP.Core.settle FP.Core.bound
    rw [f6_p, f6_qmax, f6_tails]
    generalize FP.Core.quantum FP.Core.b64 a b e = Q at hq ⊢
    split
    · split
      · exact .inr ⟨_, _, _, rfl, by assumption, hq, by assumption⟩
      · exact .inl ⟨_, rfl⟩
    · split
      · exact .inr ⟨_, _, _, rfl, by decide, by omega, by assumption⟩
      · exact .inl ⟨_, rfl⟩
theorem rr3 (s : Bool) (a b : Nat) (e : Int) : fin3 (FP.Core.roundRatio FP.Core.b32 s a b e) := by
  have hq := fl_quantum FP.Core.b32 a b e
  rw [f3_qmin] at hq
  unfold FP.Core.roundRatio
  split
  · exact .inr ⟨_, _, _, rfl, by decide, by rw [f3_qmin]; decide, by rw [f3_qmin]; decide⟩
  · unfold FP.Core.roundAt FP.Core.settle FP.Core.bound
    rw [f3_p, f3_qmax, f3_tails]
    generalize FP.Core.quantum FP.Core.b32 a b e = Q at hq ⊢
    split
    · split
      · exact .inr ⟨_, _, _, rfl, by assumption, hq, by assumption⟩
      · exact .inl ⟨_, rfl⟩
    · split
      · exact .inr ⟨_, _, _, rfl, by decide, by omega, by assumption⟩
      · exact .inl ⟨_, rfl⟩
theorem fl_bool (s : Bool) : s.toNat ≤ 1 := by cases s <;> decide
theorem fl_bool1 (s : Bool) : (s.toNat == 1) = s := by cases s <;> decide
/-- the bits of a number, and of an infinity -/
theorem enc6 {s : Bool} {c : Nat} {q : Int} (hc : c < 9007199254740992) (h1 : (-1074 : Int) ≤ q) (h2 : q ≤ 971) :
    FP.Core.encode FP.Core.b64 (.fin s c q) = if c < 4503599627370496 then s.toNat * 2048 * 4503599627370496 + c else (s.toNat * 2048 + (q + 1074).toNat + 1) * 4503599627370496 + (c - 4503599627370496) := by
  have hs := fl_bool s
  show (if c < FP.Core.Fmt.tails FP.Core.b64 then FP.Core.assemble _ s 0 c else FP.Core.assemble _ s ((q - FP.Core.Fmt.qmin FP.Core.b64).toNat + 1) (c - FP.Core.Fmt.tails FP.Core.b64)) = _
  unfold FP.Core.assemble
  rw [f6_tails, f6_exps, f6_qmin]
  split
  · omega
  · rw [show q - (-1074) = q + 1074 by omega]
    omega
theorem enc3 {s : Bool} {c : Nat} {q : Int} (hc : c < 16777216) (h1 : (-149 : Int) ≤ q) (h2 : q ≤ 104) :
    FP.Core.encode FP.Core.b32 (.fin s c q) = if c < 8388608 then s.toNat * 256 * 8388608 + c else (s.toNat * 256 + (q + 149).toNat + 1) * 8388608 + (c - 8388608) := by
  have hs := fl_bool s
  show (if c < FP.Core.Fmt.tails FP.Core.b32 then FP.Core.assemble _ s 0 c else FP.Core.assemble _ s ((q - FP.Core.Fmt.qmin FP.Core.b32).toNat + 1) (c - FP.Core.Fmt.tails FP.Core.b32)) = _
  unfold FP.Core.assemble
  rw [f3_tails, f3_exps, f3_qmin]
  split
  · omega
  · rw [show q - (-149) = q + 149 by omega]
    omega
theorem enc6i (s : Bool) : FP.Core.encode FP.Core.b64 (.inf s) = (s.toNat * 2048 + 2047) * 4503599627370496 := by cases s <;> decide
theorem enc3i (s : Bool) : FP.Core.encode FP.Core.b32 (.inf s) = (s.toNat * 256 + 255) * 8388608 := by cases s <;> decide
theorem dec6 {s e t : Nat} (hs : s ≤ 1) (he : e < 2048) (ht : t < 4503599627370496) : FP.Core.decode FP.Core.b64 ((s * 2048 + e) * 4503599627370496 + t) = if e = 2047 then if t = 0 then .inf (s == 1) else .nan else if e = 0 then .fin (s == 1) t (-1074) else .fin (s == 1) (4503599627370496 + t) ((e : Int) - 1075) := by
  have e1 : FP.Core.fieldE FP.Core.b64 ((s * 2048 + e) * 4503599627370496 + t) = e := by
    unfold FP.Core.fieldE
    rw [f6_tails, f6_exps]
    omega
  have e2 : FP.Core.fieldT FP.Core.b64 ((s * 2048 + e) * 4503599627370496 + t) = t := by
    unfold FP.Core.fieldT
    rw [f6_tails]
    omega
  have e3 : FP.Core.fieldS FP.Core.b64 ((s * 2048 + e) * 4503599627370496 + t) = (s == 1) := by
    unfold FP.Core.fieldS
    rw [f6_tails, f6_exps, show ((s * 2048 + e) * 4503599627370496 + t) / 4503599627370496 / 2048 % 2 = s by omega]
  unfold FP.Core.decode
  rw [e1, e2, e3, f6_exps, f6_tails, f6_qmin, show (-1074 : Int) + ((e : Int) - 1) = (e : Int) - 1075 by omega]
theorem dec3 {s e t : Nat} (hs : s ≤ 1) (he : e < 256) (ht : t < 8388608) : FP.Core.decode FP.Core.b32 ((s * 256 + e) * 8388608 + t) = if e = 255 then if t = 0 then .inf (s == 1) else .nan else if e = 0 then .fin (s == 1) t (-149) else .fin (s == 1) (8388608 + t) ((e : Int) - 150) := by
  have e1 : FP.Core.fieldE FP.Core.b32 ((s * 256 + e) * 8388608 + t) = e := by
    unfold FP.Core.fieldE
    rw [f3_tails, f3_exps]
    omega
  have e2 : FP.Core.fieldT FP.Core.b32 ((s * 256 + e) * 8388608 + t) = t := by
    unfold FP.Core.fieldT
    rw [f3_tails]
    omega
  have e3 : FP.Core.fieldS FP.Core.b32 ((s * 256 + e) * 8388608 + t) = (s == 1) := by
    unfold FP.Core.fieldS
    rw [f3_tails, f3_exps, show ((s * 256 + e) * 8388608 + t) / 8388608 / 256 % 2 = s by omega]
  unfold FP.Core.decode
  rw [e1, e2, e3, f3_exps, f3_tails, f3_qmin, show (-149 : Int) + ((e : Int) - 1) = (e : Int) - 150 by omega]
theorem mask6 {n : Nat} (h : n < 18446744073709551616) (h2 : n % 9223372036854775808 ≤ 9218868437227405312) : vf_n64 (UInt64.ofNat n) := by
  unfold vf_n64
  rw [UInt64.le_iff_toNat_le, UInt64.toNat_and, UInt64.toNat_ofNat_of_lt' h, show (0x7fffffffffffffff : UInt64).toNat = 2 ^ 63 - 1 by decide, Nat.and_two_pow_sub_one_eq_mod, show (0x7ff0000000000000 : UInt64).toNat = 9218868437227405312 by decide]
  exact h2
theorem mask3 {n : Nat} (h : n < 4294967296) (h2 : n % 2147483648 ≤ 2139095040) : vf_n32 (UInt32.ofNat n) := by
  unfold vf_n32
  rw [UInt32.le_iff_toNat_le, UInt32.toNat_and, UInt32.toNat_ofNat_of_lt' h, show (0x7fffffff : UInt32).toNat = 2 ^ 31 - 1 by decide, Nat.and_two_pow_sub_one_eq_mod, show (0x7f800000 : UInt32).toNat = 2139095040 by decide]
  exact h2
theorem enc6_lt {d : FP.Core.Datum} (h : fin6 d) : FP.Core.encode FP.Core.b64 d < 18446744073709551616 ∧ FP.Core.encode FP.Core.b64 d % 9223372036854775808 ≤ 9218868437227405312 := by
  rcases h with ⟨s, rfl⟩ | ⟨s, c, q, rfl, h1, h2, h3⟩
  · have := fl_bool s
    rw [enc6i]
    omega
  · have := fl_bool s
    rw [enc6 h1 h2 h3]
    split <;> omega
theorem enc3_lt {d : FP.Core.Datum} (h : fin3 d) : FP.Core.encode FP.Core.b32 d < 4294967296 ∧ FP.Core.encode FP.Core.b32 d % 2147483648 ≤ 2139095040 := by
  rcases h with ⟨s, rfl⟩ | ⟨s, c, q, rfl, h1, h2, h3⟩
  · have := fl_bool s
    rw [enc3i]
    omega
  · have := fl_bool s
    rw [enc3 h1 h2 h3]
    split <;> omega
theorem n64_of {d : FP.Core.Datum} (h : fin6 d) : vf_n64 (UInt64.ofNat (FP.Core.encode FP.Core.b64 d)) := mask6 (enc6_lt h).1 (enc6_lt h).2
theorem n32_of {d : FP.Core.Datum} (h : fin3 d) : vf_n32 (UInt32.ofNat (FP.Core.encode FP.Core.b32 d)) := mask3 (enc3_lt h).1 (enc3_lt h).2
/-- what the bits of a number, or of an infinity, are read as -/
theorem ded6 {s : Bool} {c : Nat} {q : Int} (hc : c < 9007199254740992) (h1 : (-1074 : Int) ≤ q) (h2 : q ≤ 971) :
    FP.Core.decode FP.Core.b64 (FP.Core.encode FP.Core.b64 (.fin s c q)) = .fin s c (if c < 4503599627370496 then -1074 else q) := by
  have hs := fl_bool s
  rw [enc6 hc h1 h2]
  split
  · have := dec6 (s := s.toNat) (e := 0) (t := c) hs (by omega) (by omega)
    rw [Nat.add_zero, if_neg (by omega), if_pos rfl, fl_bool1] at this
    exact this
  · have := dec6 (s := s.toNat) (e := (q + 1074).toNat + 1) (t := c - 4503599627370496) hs (by omega) (by omega)
    rw [if_neg (by omega), if_neg (by omega), fl_bool1, ← Nat.add_assoc, show 4503599627370496 + (c - 4503599627370496) = c by omega, show (((q + 1074).toNat + 1 : Nat) : Int) - 1075 = q by omega] at this
    exact this
theorem ded3 {s : Bool} {c : Nat} {q : Int} (hc : c < 16777216) (h1 : (-149 : Int) ≤ q) (h2 : q ≤ 104) :
    FP.Core.decode FP.Core.b32 (FP.Core.encode FP.Core.b32 (.fin s c q)) = .fin s c (if c < 8388608 then -149 else q) := by
  have hs := fl_bool s
  rw [enc3 hc h1 h2]
  split
  · have := dec3 (s := s.toNat) (e := 0) (t := c) hs (by omega) (by omega)
    rw [Nat.add_zero, if_neg (by omega), if_pos rfl, fl_bool1] at this
    exact this
  · have := dec3 (s := s.toNat) (e := (q + 149).toNat + 1) (t := c - 8388608) hs (by omega) (by omega)
    rw [if_neg (by omega), if_neg (by omega), fl_bool1, ← Nat.add_assoc, show 8388608 + (c - 8388608) = c by omega, show (((q + 149).toNat + 1 : Nat) : Int) - 150 = q by omega] at this
    exact this
theorem ded6i (s : Bool) : FP.Core.decode FP.Core.b64 (FP.Core.encode FP.Core.b64 (.inf s)) = .inf s := by cases s <;> decide
theorem ded3i (s : Bool) : FP.Core.decode FP.Core.b32 (FP.Core.encode FP.Core.b32 (.inf s)) = .inf s := by cases s <;> decide
theorem to6 {d : FP.Core.Datum} (h : fin6 d) : (UInt64.ofNat (FP.Core.encode FP.Core.b64 d)).toNat = FP.Core.encode FP.Core.b64 d := UInt64.toNat_ofNat_of_lt' (enc6_lt h).1
theorem to3 {d : FP.Core.Datum} (h : fin3 d) : (UInt32.ofNat (FP.Core.encode FP.Core.b32 d)).toNat = FP.Core.encode FP.Core.b32 d := UInt32.toNat_ofNat_of_lt' (enc3_lt h).1
/-- no NaN -/
def nn6 (d : FP.Core.Datum) : Prop := ∀ _ : d = .nan, False
theorem nn6_of {d : FP.Core.Datum} (h : fin6 d) : nn6 (FP.Core.decode FP.Core.b64 (UInt64.ofNat (FP.Core.encode FP.Core.b64 d)).toNat) := by
  rw [to6 h]
  rcases h with ⟨s, rfl⟩ | ⟨s, c, q, rfl, h1, h2, h3⟩
  · rw [ded6i]; exact fun h => FP.Core.Datum.noConfusion h
  · rw [ded6 h1 h2 h3]; exact fun h => FP.Core.Datum.noConfusion h
theorem nn3_of {d : FP.Core.Datum} (h : fin3 d) : nn6 (FP.Core.decode FP.Core.b32 (UInt32.ofNat (FP.Core.encode FP.Core.b32 d)).toNat) := by
  rw [to3 h]
  rcases h with ⟨s, rfl⟩ | ⟨s, c, q, rfl, h1, h2, h3⟩
  · rw [ded3i]; exact fun h => FP.Core.Datum.noConfusion h
  · rw [ded3 h1 h2 h3]; exact fun h => FP.Core.Datum.noConfusion h
theorem quo6 {d : FP.Core.Datum} {t : Bool} {c : Nat} {r : Int} (h : nn6 d) (hc : ¬ c = 0) : fin6 (FP.Core.quotient FP.Core.b64 d (.fin t c r)) := by
  cases d with
  | nan => exact absurd rfl h
  | inf s => exact .inl ⟨_, rfl⟩
  | fin s a q =>
    show fin6 (if c = 0 then _ else _)
    rw [if_neg hc]
    exact rr6 _ _ _ _
theorem quo3 {d : FP.Core.Datum} {t : Bool} {c : Nat} {r : Int} (h : nn6 d) (hc : ¬ c = 0) : fin3 (FP.Core.quotient FP.Core.b32 d (.fin t c r)) := by
  cases d with
  | nan => exact absurd rfl h
  | inf s => exact .inl ⟨_, rfl⟩
  | fin s a q =>
    show fin3 (if c = 0 then _ else _)
    rw [if_neg hc]
    exact rr3 _ _ _ _
/-- a double, or a float, that is a number other than zero -/
def nz6 (x : UInt64) : Prop := ∃ t c r, FP.Core.decode FP.Core.b64 x.toNat = .fin t c r ∧ ¬ c = 0
def nz3 (x : UInt32) : Prop := ∃ t c r, FP.Core.decode FP.Core.b32 x.toNat = .fin t c r ∧ ¬ c = 0
theorem l2d_nn (v : Int64) : nn6 (FP.Core.decode FP.Core.b64 (FP.l2d v).toNat) := nn6_of (rr6 _ _ _ _)
theorem l2f_nn (v : Int64) : nn6 (FP.Core.decode FP.Core.b32 (FP.l2f v).toNat) := nn3_of (rr3 _ _ _ _)
theorem i2d_l2d (v : Int32) : FP.i2d v = FP.l2d v.toInt64 := by
  show UInt64.ofNat (FP.Core.fromInt FP.Core.b64 v.toInt) = UInt64.ofNat (FP.Core.fromInt FP.Core.b64 v.toInt64.toInt)
  rw [Int32.toInt_toInt64]
theorem i2f_l2f (v : Int32) : FP.i2f v = FP.l2f v.toInt64 := by
  show UInt32.ofNat (FP.Core.fromInt FP.Core.b32 v.toInt) = UInt32.ofNat (FP.Core.fromInt FP.Core.b32 v.toInt64.toInt)
  rw [Int32.toInt_toInt64]
theorem ddiv_n {a b : UInt64} (ha : nn6 (FP.Core.decode FP.Core.b64 a.toNat)) (hb : nz6 b) : vf_n64 (FP.ddiv a b) := by
  obtain ⟨t, c, r, h1, h2⟩ := hb
  refine n64_of ?_
  rw [h1]
  exact quo6 ha h2
theorem fdiv_n {a b : UInt32} (ha : nn6 (FP.Core.decode FP.Core.b32 a.toNat)) (hb : nz3 b) : vf_n32 (FP.fdiv a b) := by
  obtain ⟨t, c, r, h1, h2⟩ := hb
  refine n32_of ?_
  rw [h1]
  exact quo3 ha h2
end
