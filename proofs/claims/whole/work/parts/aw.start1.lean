/-! WHERE THE OBJECTS LIE: the places of all that the law makes, counted from the start's size z -/
def lrA (z i : Nat) : Nat := match i with
  | 0 => z + 1 + 3
  | 1 => z + 1 + 21
  | 2 => z + 1 + 45
  | 11 => z + 1 + 210
  | 12 => z + 1 + 228
  | i => z + 1 + 65 + 18 * (i - 3)
def lga (z b s i : Nat) : Nat := match s with
  | 0 => z
  | 1 => z + 1
  | 2 => z + 1 + 1
  | 3 => z + 1 + 2
  | 4 => z + 1 + 39
  | 5 => z + 1 + 40
  | 6 => z + 1 + 41
  | 7 => z + 1 + 42
  | 8 => z + 1 + 43
  | 9 => z + 1 + 44
  | 10 => z + 1 + 63
  | 11 => z + 1 + 64
  | 12 => z + 1 + 209
  | 13 => z + 1 + 246
  | 14 => z + 1 + 247
  | 15 => lrA z i
  | 16 => lrA z i + 1
  | 17 => lrA z (i / 6) + 6 + 2 * (i % 6)
  | 18 => lrA z (i / 6) + 7 + 2 * (i % 6)
  | 19 => lrA z i + 2
  | 20 => lrA z i + 3
  | 21 => lrA z i + 4
  | 22 => lrA z i + 5
  | 30 => z + 250
  | 31 => z + 251
  | 32 => z + 251 + 1
  | 33 => z + 251 + 2
  | 34 => z + 251 + 3
  | 35 => z + 251 + 4
  | 36 => z + 251 + 5
  | 37 => z + 251 + 6
  | 38 => z + 251 + 7
  | 39 => z + 251 + 8
  | 40 => z + 251 + 9
  | 41 => z + 251 + 10
  | 42 => z + 251 + 11
  | 43 => z + 251 + 12
  | 44 => z + 251 + 13
  | 50 => z + 265
  | 51 => z + 266
  | 52 => b
  | _ => z
theorem lrA_off (z i : Nat) : lrA z i = z + lrA 0 i := by
  unfold lrA
  split <;> omega
theorem lga_off {z b s i : Nat} (h : s ≠ 52) : lga z b s i = z + lga 0 0 s i := by
  have e := lrA_off z i
  have e6 := lrA_off z (i / 6)
  unfold lga
  split <;> first | omega | exact absurd rfl h
/-- all that are, but the script -/
def lSet : List (Nat × Nat) := (List.range 52).flatMap fun s => (List.range (zcnt s)).map fun i => (s, i)
theorem zcnt_53 {s : Nat} (h : 53 ≤ s) : zcnt s = 0 := by
  unfold zcnt
  split <;> first | omega | rfl
theorem zs_lt {s i : Nat} (h : i < zcnt s) : s < 53 := Nat.lt_of_not_le fun c => by rw [zcnt_53 c] at h; omega
theorem lSet_in {s i : Nat} (h : i < zcnt s) (h2 : s ≠ 52) : (s, i) ∈ lSet := by
  have h3 := zs_lt h
  refine List.mem_flatMap.mpr ⟨s, List.mem_range.mpr (by omega), List.mem_map.mpr ⟨i, List.mem_range.mpr h, rfl⟩⟩
theorem lSet_inv : ∀ q ∈ lSet, lSet.find? (fun r => lga 0 0 r.1 r.2 == lga 0 0 q.1 q.2) = some q := by decide +kernel
theorem lSet_249 : ∀ q ∈ lSet, ¬ lga 0 0 q.1 q.2 = 249 := by decide +kernel
theorem lga_inj {z b s i s' i' : Nat} (hb : b < z) (h : i < zcnt s) (h' : i' < zcnt s') (e : lga z b s i = lga z b s' i') : s = s' ∧ i = i' := by
  have one : ∀ i, i < zcnt 52 → i = 0 := fun i hi => by
    have : zcnt 52 = 1 := rfl
    omega
  by_cases c : s = 52
  · by_cases c' : s' = 52
    · subst c c'
      exact ⟨rfl, by rw [one i h, one i' h']⟩
    · rw [lga_off c', c] at e
      have e2 : lga z b 52 i = b := rfl
      omega
  · by_cases c' : s' = 52
    · rw [lga_off c, c'] at e
      have e2 : lga z b 52 i' = b := rfl
      omega
    · rw [lga_off c, lga_off c'] at e
      have e3 : lga 0 0 s i = lga 0 0 s' i' := by omega
      have h1 := lSet_inv _ (lSet_in h c)
      have h2 := lSet_inv _ (lSet_in h' c')
      dsimp only at h1 h2
      rw [e3, h2] at h1
      have h3 := Option.some.inj h1
      exact ⟨(congrArg Prod.fst h3).symm, (congrArg Prod.snd h3).symm⟩
theorem lga_ge {z b s i : Nat} (h : s ≠ 52) : z ≤ lga z b s i := by rw [lga_off h]; omega
/-- the world's constants: what the start fixes, and where all lies -/
def lG (D : va_G) (Ak : Nat → ClassId) (a : Nat → Nat → Nat) (z : Nat) (B : Nat → Option Cell) (T : String → Nat → Nat) (y : ClassId → Prop) (n : Nat) (xs : Nat → Int32) : zG := (D, Ak, a, z, B, T, y, n, xs)
theorem lG_ok {G : zG} {z b : Nat} (hz : gz G = z) (ha : ∀ s i, ga G s i = lga z b s i) (hb : b < z) : zGok G := by
  refine ⟨fun s i s' i' h h' e => lga_inj hb h h' (by rw [← ha, ← ha]; exact e), fun s i h h2 => ?_⟩
  rw [hz, ha]
  exact lga_ge h2
theorem lG_free {G : zG} {z b q : Nat} (ha : ∀ s i, ga G s i = lga z b s i) (hq : q < z) (hb : ¬ q = b) : zfree G q := fun s i hi e => by
  rw [ha] at e
  by_cases c : s = 52
  · subst c
    exact hb e
  · have := lga_ge (z := z) (b := b) (i := i) c
    omega
theorem lG_249 {G : zG} {z b : Nat} (ha : ∀ s i, ga G s i = lga z b s i) (hb : b < z) : zfree G (z + 249) := fun s i hi e => by
  rw [ha] at e
  by_cases c : s = 52
  · subst c
    have e2 : lga z b 52 i = b := rfl
    omega
  · rw [lga_off c] at e
    exact lSet_249 _ (lSet_in hi c) (by show lga 0 0 s i = 249; omega)
