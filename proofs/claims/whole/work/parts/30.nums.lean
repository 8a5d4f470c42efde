/-! NUMBERS: ints by their toInt, indices by omega. -/
theorem ti_rng (x : Int32) : -2147483648 ≤ x.toInt ∧ x.toInt ≤ 2147483647 := by
  have h1 := Int32.le_toInt x
  have h2 := Int32.toInt_lt x
  omega
theorem ti_bm {z : Int} (h : -2147483648 ≤ z ∧ z ≤ 2147483647) : z.bmod (2 ^ 32) = z := by
  rw [Int.bmod_def]
  omega
theorem ti_add {a b : Int32} (h : -2147483648 ≤ a.toInt + b.toInt ∧ a.toInt + b.toInt ≤ 2147483647) : (a + b).toInt = a.toInt + b.toInt := by
  rw [Int32.toInt_add, ti_bm h]
theorem ti_sub {a b : Int32} (h : -2147483648 ≤ a.toInt - b.toInt ∧ a.toInt - b.toInt ≤ 2147483647) : (a - b).toInt = a.toInt - b.toInt := by
  rw [Int32.toInt_sub, ti_bm h]
theorem ti_mul {a b : Int32} (h : -2147483648 ≤ a.toInt * b.toInt ∧ a.toInt * b.toInt ≤ 2147483647) : (a * b).toInt = a.toInt * b.toInt := by
  rw [Int32.toInt_mul, ti_bm h]
theorem ti_neg {a : Int32} (h : -2147483648 < a.toInt) : (-a).toInt = -a.toInt := by
  have h2 := ti_rng a
  rw [Int32.toInt_neg, ti_bm (by omega)]
theorem ti_0 : (0 : Int32).toInt = 0 := by decide
theorem ti_1 : (1 : Int32).toInt = 1 := by decide
theorem ti_n1 : (-1 : Int32).toInt = -1 := by decide
theorem ti_n2 : (-2 : Int32).toInt = -2 := by decide
theorem ti_n3 : (-3 : Int32).toInt = -3 := by decide
theorem ti_le {a b : Int32} : a ≤ b ↔ a.toInt ≤ b.toInt := Int32.le_iff_toInt_le
theorem ti_lt {a b : Int32} : a < b ↔ a.toInt < b.toInt := Int32.lt_iff_toInt_lt
theorem ti_eq {a b : Int32} : a = b ↔ a.toInt = b.toInt := Int32.toInt_inj.symm
theorem ti_of (n : Nat) (h : n < 2147483648) : (Int32.ofNat n).toInt = n := Int32.toInt_ofNat_of_lt (by omega)
theorem ti_cl {x : Int32} : x.toNatClampNeg = x.toInt.toNat := rfl
theorem ti_in {x : Int32} {n : Nat} (h : 0 ≤ x.toInt ∧ x.toInt < n) : vp_in x n := by
  unfold vp_in
  rw [ti_lt, ti_cl, ti_0]
  omega
theorem ti_at {x : Int32} {n : Nat} (h : x.toInt = n) : x.toNatClampNeg = n := by
  rw [ti_cl, h]
  rfl
theorem ti_inc {x : Int32} {k : Nat} (h : x.toInt = k) (hk : k < 2147483647) : (x + 1).toInt = ((k + 1 : Nat) : Int) := by
  rw [ti_add (by rw [h, ti_1]; omega), h, ti_1]
  omega
