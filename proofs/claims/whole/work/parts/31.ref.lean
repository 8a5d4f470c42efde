/-! THE REFERENCE'S ROW: what each method makes of the row of numbers. -/
theorem zsI2 (M : zM) (s i : Nat) (f g : Nat → Int32) : zsIr (zsIr M s i f) s i g = zsIr M s i g := by
  unfold zsIr zrw
  refine Prod.ext ?_ rfl
  funext s' i'
  show (if _ then _ else _) = (if _ then _ else _)
  by_cases h : s' = s ∧ i' = i
  · rw [if_pos h, if_pos h]
  · rw [if_neg h, if_neg h]
    exact if_neg h
theorem zsI1 (M : zM) (s i : Nat) (f : Nat → Int32) : (zsIr M s i f).1 s i = f := if_pos ⟨rfl, rfl⟩
theorem zsI0 (M : zM) (s i : Nat) : zsIr M s i (M.1 s i) = M := by
  unfold zsIr zrw
  refine Prod.ext ?_ rfl
  funext s' i'
  show (if _ then _ else _) = _
  by_cases h : s' = s ∧ i' = i
  · rw [if_pos h, h.1, h.2]
  · rw [if_neg h]
theorem zsIo (M : zM) (s i : Nat) (f : Nat → Int32) (s' i' : Nat) (h : ¬ (s' = s ∧ i' = i)) : (zsIr M s i f).1 s' i' = M.1 s' i' := if_neg h
theorem ti_nI {i : Nat} (h : i < 2147483648) : (nI i).toInt = i := nI_toInt h
theorem nI_ofT {x : Int32} {i : Nat} (h : x.toInt = i) : x = nI i := by
  have h2 := ti_rng x
  exact Int32.toInt_inj.mp (by rw [h, ti_nI (by omega)])
section
variable {l : Launch} {G : zG} {M : zM}
abbrev sf (i k : Nat) : Nat := 16 + 26 * i + k
abbrev sq (i k : Nat) : Nat := 172 + 3 * i + k
abbrev sd (i k : Nat) : Nat := 292 + 8 * i + k
theorem R_ofFlow {p1 p2 : Int32} {i k : Nat} {Kf : Int32 → zM → Prop} (h1 : p1.toInt = i) (h2 : p2.toInt = k) (hb : sf i k < 484) (h : Kf (zmI M 31 0 (sf i k)) M) : zCalI l G Y_X9_ofFlow 0 0 [vr 30 0, vi p1, vi p2] M Kf := by
  have e : ((16 + (26 * p1)) + p2).toInt = (sf i k : Nat) := by unfold sf at *; (first | omega | ((simp (disch := (first | omega | (simp (disch := (first | omega | (simp (disch := (first | omega | (simp (disch := omega) only [ti_add, ti_sub, ti_mul, Int32.reduceToInt, ti_n1, ti_n2, ti_n3, and_self] <;> omega))) only [ti_add, ti_sub, ti_mul, Int32.reduceToInt, ti_n1, ti_n2, ti_n3, and_self] <;> omega))) only [ti_add, ti_sub, ti_mul, Int32.reduceToInt, ti_n1, ti_n2, ti_n3, and_self] <;> omega))) only [ti_le, ti_lt, ti_eq, ti_add, ti_sub, ti_mul, Int32.reduceToInt, ti_n1, ti_n2, ti_n3, ti_cl] at *) <;> omega))
  refine zm_X9_ofFlow ⟨ti_in (by omega), ?_⟩
  rw [ti_at e]
  exact h
theorem R_putsFlow {p1 p2 p3 : Int32} {i k : Nat} {Kf : zM → Prop} (h1 : p1.toInt = i) (h2 : p2.toInt = k) (hb : sf i k < 484) (h : Kf (zsIr M 31 0 (zup (zmI M 31 0) (sf i k) p3))) : zCalV l G Y_X9_putsFlow 0 0 [vr 30 0, vi p1, vi p2, vi p3] M Kf := by
  have e : ((16 + (26 * p1)) + p2).toInt = (sf i k : Nat) := by unfold sf at *; (first | omega | ((simp (disch := (first | omega | (simp (disch := (first | omega | (simp (disch := (first | omega | (simp (disch := omega) only [ti_add, ti_sub, ti_mul, Int32.reduceToInt, ti_n1, ti_n2, ti_n3, and_self] <;> omega))) only [ti_add, ti_sub, ti_mul, Int32.reduceToInt, ti_n1, ti_n2, ti_n3, and_self] <;> omega))) only [ti_add, ti_sub, ti_mul, Int32.reduceToInt, ti_n1, ti_n2, ti_n3, and_self] <;> omega))) only [ti_le, ti_lt, ti_eq, ti_add, ti_sub, ti_mul, Int32.reduceToInt, ti_n1, ti_n2, ti_n3, ti_cl] at *) <;> omega))
  refine zm_X9_putsFlow ⟨ti_in (by omega), ?_⟩
  rw [ti_at e]
  exact h
theorem R_ofPacket {p1 p2 : Int32} {i k : Nat} {Kf : Int32 → zM → Prop} (h1 : p1.toInt = i) (h2 : p2.toInt = k) (hb : sq i k < 484) (h : Kf (zmI M 31 0 (sq i k)) M) : zCalI l G Y_X9_ofPacket 0 0 [vr 30 0, vi p1, vi p2] M Kf := by
  have e : ((172 + (3 * p1)) + p2).toInt = (sq i k : Nat) := by unfold sq at *; (first | omega | ((simp (disch := (first | omega | (simp (disch := (first | omega | (simp (disch := (first | omega | (simp (disch := omega) only [ti_add, ti_sub, ti_mul, Int32.reduceToInt, ti_n1, ti_n2, ti_n3, and_self] <;> omega))) only [ti_add, ti_sub, ti_mul, Int32.reduceToInt, ti_n1, ti_n2, ti_n3, and_self] <;> omega))) only [ti_add, ti_sub, ti_mul, Int32.reduceToInt, ti_n1, ti_n2, ti_n3, and_self] <;> omega))) only [ti_le, ti_lt, ti_eq, ti_add, ti_sub, ti_mul, Int32.reduceToInt, ti_n1, ti_n2, ti_n3, ti_cl] at *) <;> omega))
  refine zm_X9_ofPacket ⟨ti_in (by omega), ?_⟩
  rw [ti_at e]
  exact h
def sp_counts (w : Nat → Int32) (i a : Nat) (m : Int32) : Nat → Int32 := zup w (sf i (18 + a)) (w (sf i (18 + a)) + m)
theorem R_counts {p1 p2 p3 : Int32} {i k : Nat} {Kf : zM → Prop} (h1 : p1.toInt = i) (h2 : p2.toInt = k) (hb : sf i (18 + k) < 484) (h : Kf (zsIr M 31 0 (sp_counts (zmI M 31 0) i k p3))) : zCalV l G Y_X9_counts 0 0 [vr 30 0, vi p1, vi p2, vi p3] M Kf := by
  have e : (18 + p2).toInt = ((18 + k : Nat) : Int) := by unfold sf at hb; (first | omega | ((simp (disch := (first | omega | (simp (disch := (first | omega | (simp (disch := (first | omega | (simp (disch := omega) only [ti_add, ti_sub, ti_mul, Int32.reduceToInt, ti_n1, ti_n2, ti_n3, and_self] <;> omega))) only [ti_add, ti_sub, ti_mul, Int32.reduceToInt, ti_n1, ti_n2, ti_n3, and_self] <;> omega))) only [ti_add, ti_sub, ti_mul, Int32.reduceToInt, ti_n1, ti_n2, ti_n3, and_self] <;> omega))) only [ti_le, ti_lt, ti_eq, ti_add, ti_sub, ti_mul, Int32.reduceToInt, ti_n1, ti_n2, ti_n3, ti_cl] at *) <;> omega))
  exact zm_X9_counts (R_ofFlow h1 e hb (R_putsFlow h1 e hb h))
theorem R_one {p : Int32} {Kf : Int32 → zM → Prop} (h : Kf (if p = 0 then 0 else 1) M) : zCalI l G Y_X9_one 0 0 [vi p] M Kf := by
  refine zm_X9_one ⟨fun c => ?_, fun c => ?_⟩
  · rw [if_pos c] at h
    exact h
  · rw [if_neg c] at h
    exact h
theorem R_in {p1 p2 p3 : Int32} {Kf : Int32 → zM → Prop} (h : Kf (if p2 ≤ p1 ∧ p1 ≤ p3 then 1 else 0) M) : zCalI l G Y_X9_in 0 0 [vi p1, vi p2, vi p3] M Kf := by
  refine zm_X9_in ⟨fun c => ?_, fun c => ⟨fun d => ?_, fun d => ?_⟩⟩
  · rw [if_neg (by (simp (disch := (first | omega | (simp (disch := (first | omega | (simp (disch := (first | omega | (simp (disch := omega) only [ti_add, ti_sub, ti_mul, Int32.reduceToInt, ti_n1, ti_n2, ti_n3, and_self] <;> omega))) only [ti_add, ti_sub, ti_mul, Int32.reduceToInt, ti_n1, ti_n2, ti_n3, and_self] <;> omega))) only [ti_add, ti_sub, ti_mul, Int32.reduceToInt, ti_n1, ti_n2, ti_n3, and_self] <;> omega))) only [ti_le, ti_lt, ti_eq, ti_add, ti_sub, ti_mul, Int32.reduceToInt, ti_n1, ti_n2, ti_n3, ti_cl] at *); omega)] at h
    exact h
  · rw [if_neg (by (simp (disch := (first | omega | (simp (disch := (first | omega | (simp (disch := (first | omega | (simp (disch := omega) only [ti_add, ti_sub, ti_mul, Int32.reduceToInt, ti_n1, ti_n2, ti_n3, and_self] <;> omega))) only [ti_add, ti_sub, ti_mul, Int32.reduceToInt, ti_n1, ti_n2, ti_n3, and_self] <;> omega))) only [ti_add, ti_sub, ti_mul, Int32.reduceToInt, ti_n1, ti_n2, ti_n3, and_self] <;> omega))) only [ti_le, ti_lt, ti_eq, ti_add, ti_sub, ti_mul, Int32.reduceToInt, ti_n1, ti_n2, ti_n3, ti_cl] at *); omega)] at h
    exact h
  · rw [if_pos (by (simp (disch := (first | omega | (simp (disch := (first | omega | (simp (disch := (first | omega | (simp (disch := omega) only [ti_add, ti_sub, ti_mul, Int32.reduceToInt, ti_n1, ti_n2, ti_n3, and_self] <;> omega))) only [ti_add, ti_sub, ti_mul, Int32.reduceToInt, ti_n1, ti_n2, ti_n3, and_self] <;> omega))) only [ti_add, ti_sub, ti_mul, Int32.reduceToInt, ti_n1, ti_n2, ti_n3, and_self] <;> omega))) only [ti_le, ti_lt, ti_eq, ti_add, ti_sub, ti_mul, Int32.reduceToInt, ti_n1, ti_n2, ti_n3, ti_cl] at *); omega)] at h
    exact h
theorem zbit_ite (P : Prop) [Decidable P] : zbit (if P then (1 : Int32) else 0) := by
  by_cases h : P
  · rw [if_pos h]; exact Or.inr rfl
  · rw [if_neg h]; exact Or.inl rfl
theorem R_isFlow {p1 : Int32} {n : Nat} {Kf : Int32 → zM → Prop} (hn : (zmI M 31 0 11).toInt = n) (h : Kf (if 0 ≤ p1.toInt ∧ p1.toInt < n then 1 else 0) M) : zCalI l G Y_X9_isFlow 0 0 [vr 30 0, vi p1] M Kf := by
  refine zm_X9_isFlow (R_in ⟨zbit_ite _, ?_⟩)
  have e : (0 ≤ p1 ∧ p1 ≤ zmI M 31 0 11 - 1) = (0 ≤ p1.toInt ∧ p1.toInt < n) := by
    have := ti_rng p1
    have := ti_rng (zmI M 31 0 11)
    refine propext ?_
    (simp (disch := (first | omega | (simp (disch := (first | omega | (simp (disch := (first | omega | (simp (disch := omega) only [ti_add, ti_sub, ti_mul, Int32.reduceToInt, ti_n1, ti_n2, ti_n3, and_self] <;> omega))) only [ti_add, ti_sub, ti_mul, Int32.reduceToInt, ti_n1, ti_n2, ti_n3, and_self] <;> omega))) only [ti_add, ti_sub, ti_mul, Int32.reduceToInt, ti_n1, ti_n2, ti_n3, and_self] <;> omega))) only [ti_le, ti_lt, ti_eq, ti_add, ti_sub, ti_mul, Int32.reduceToInt, ti_n1, ti_n2, ti_n3, ti_cl] at *)
    omega
  simp only [e]
  exact h
theorem R_isOn {p1 : Int32} {i : Nat} {Kf : Int32 → zM → Prop} (h1 : p1.toInt = i) (hi : i < 6) (h : Kf (if zmI M 31 0 (sf i 5) = 1 then 1 else 0) M) : zCalI l G Y_X9_isOn 0 0 [vr 30 0, vi p1] M Kf := by
  refine zm_X9_isOn (R_ofFlow h1 (k := 5) rfl (by (first | omega | (simp only [sf, sq, sd] at *; omega))) ⟨fun c => ?_, fun c => ?_⟩)
  · rw [if_neg c] at h
    exact h
  · rw [if_pos c] at h
    exact h
end
