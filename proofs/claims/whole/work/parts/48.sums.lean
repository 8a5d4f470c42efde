/-! SUMS OVER THE FLOWS -/
def sp_tot (w : Nat → Int32) (a : Nat) : Nat → Int32
  | 0 => 0
  | n + 1 => sp_tot w a n + w (sf n (18 + a))
def sp_drp (w : Nat → Int32) (n : Nat) : Int32 := (sp_tot w 2 n + sp_tot w 3 n) + sp_tot w 4 n
theorem OK.acc {w : Nat → Int32} {n A S T i a : Nat} (h : OK w n A S T) (hi : i < n) (ha : a < 8) : 0 ≤ (w (sf i (18 + a))).toInt ∧ (a < 5 → (w (sf i (18 + a))).toInt ≤ A) ∧ (5 ≤ a → (w (sf i (18 + a))).toInt ≤ 10400 * (w (sf i 23)).toInt) ∧ 0 ≤ (w (sf i 23)).toInt := by
  have f := h.fl i hi
  have f0 := f.a0
  have fr := f.ar
  have f5 := f.a5
  have f6 := f.a6
  have f7 := f.a7
  rcases (show a = 0 ∨ a = 1 ∨ a = 2 ∨ a = 3 ∨ a = 4 ∨ a = 5 ∨ a = 6 ∨ a = 7 by omega) with rfl | rfl | rfl | rfl | rfl | rfl | rfl | rfl
  · show 0 ≤ (w (sf i 18)).toInt ∧ (_ → (w (sf i 18)).toInt ≤ A) ∧ (_ → (w (sf i 18)).toInt ≤ _) ∧ _
    omega
  · show 0 ≤ (w (sf i 19)).toInt ∧ (_ → (w (sf i 19)).toInt ≤ A) ∧ (_ → (w (sf i 19)).toInt ≤ _) ∧ _
    omega
  · show 0 ≤ (w (sf i 20)).toInt ∧ (_ → (w (sf i 20)).toInt ≤ A) ∧ (_ → (w (sf i 20)).toInt ≤ _) ∧ _
    omega
  · show 0 ≤ (w (sf i 21)).toInt ∧ (_ → (w (sf i 21)).toInt ≤ A) ∧ (_ → (w (sf i 21)).toInt ≤ _) ∧ _
    omega
  · show 0 ≤ (w (sf i 22)).toInt ∧ (_ → (w (sf i 22)).toInt ≤ A) ∧ (_ → (w (sf i 22)).toInt ≤ _) ∧ _
    omega
  · show 0 ≤ (w (sf i 23)).toInt ∧ (_ → (w (sf i 23)).toInt ≤ A) ∧ (_ → (w (sf i 23)).toInt ≤ _) ∧ _
    omega
  · show 0 ≤ (w (sf i 24)).toInt ∧ (_ → (w (sf i 24)).toInt ≤ A) ∧ (_ → (w (sf i 24)).toInt ≤ _) ∧ _
    omega
  · show 0 ≤ (w (sf i 25)).toInt ∧ (_ → (w (sf i 25)).toInt ≤ A) ∧ (_ → (w (sf i 25)).toInt ≤ _) ∧ _
    omega
theorem OK.sm5 {w : Nat → Int32} {n A S T : Nat} (h : OK w n A S T) : ∀ k d, k + d = n → 0 ≤ sm w 5 k ∧ sm w 5 k ≤ S := by
  have h0 : ∀ k, k ≤ n → 0 ≤ sm w 5 k := fun k => by
    induction k with
    | zero => intro _; exact Int.le_refl _
    | succ k ih =>
      intro hk
      have := ih (by omega)
      have := (h.acc (i := k) (a := 5) (by omega) (by omega)).1
      show 0 ≤ sm w 5 k + (w (sf k (18 + 5))).toInt
      omega
  intro k d
  induction d generalizing k with
  | zero =>
    intro hk
    have e : k = n := hk
    rw [e]
    exact ⟨h0 n (Nat.le_refl _), h.su⟩
  | succ d ih =>
    intro hk
    have h1 := ih (k + 1) (by omega)
    have h2 := (h.acc (i := k) (a := 5) (by omega) (by omega)).1
    have h3 : sm w 5 (k + 1) = sm w 5 k + (w (sf k (18 + 5))).toInt := rfl
    have := h0 k (by omega)
    omega
theorem OK.smb {w : Nat → Int32} {n A S T a : Nat} (h : OK w n A S T) (ha : a < 8) : ∀ k, k ≤ n → 0 ≤ sm w a k ∧ (a < 5 → sm w a k ≤ (A : Int) * k) ∧ (5 ≤ a → sm w a k ≤ 10400 * sm w 5 k) := by
  intro k
  induction k with
  | zero => intro _; exact ⟨Int.le_refl _, fun _ => by simp [sm], fun _ => by simp [sm]⟩
  | succ k ih =>
    intro hk
    obtain ⟨i1, i2, i3⟩ := ih (by omega)
    obtain ⟨b1, b2, b3, b4⟩ := h.acc (i := k) (a := a) (by omega) ha
    have e1 : sm w a (k + 1) = sm w a k + (w (sf k (18 + a))).toInt := rfl
    have e2 : sm w 5 (k + 1) = sm w 5 k + (w (sf k 23)).toInt := rfl
    have e3 : (A : Int) * ((k + 1 : Nat) : Int) = A * k + A := by rw [Int.natCast_add, Int.mul_add]; simp
    refine ⟨by omega, fun h5 => ?_, fun h5 => ?_⟩
    · have := i2 h5
      have := b2 h5
      omega
    · have := i3 h5
      have := b3 h5
      omega
/-- the bounds within which sums are numbers -/
def sBnd (A S : Nat) : Prop := A ≤ 300000000 ∧ S ≤ 190000
theorem OK.sm_le {w : Nat → Int32} {n A S T a : Nat} (h : OK w n A S T) (hb : sBnd A S) (ha : a < 8) (k : Nat) (hk : k ≤ n) : 0 ≤ sm w a k ∧ sm w a k ≤ 2000000000 := by
  have hn := h.nf.2
  obtain ⟨i1, i2, i3⟩ := h.smb ha k hk
  have s5 := h.sm5 k (n - k) (by omega)
  refine ⟨i1, ?_⟩
  obtain ⟨h1, h2⟩ := hb
  by_cases c : a < 5
  · have h3 := i2 c
    have h4 : (A : Int) * k ≤ 300000000 * 6 := Int.le_trans (Int.mul_le_mul_of_nonneg_right (show (A : Int) ≤ 300000000 by omega) (by omega)) (Int.mul_le_mul_of_nonneg_left (show (k : Int) ≤ 6 by omega) (by omega))
    omega
  · have := i3 (by omega)
    omega
theorem OK.tot {w : Nat → Int32} {n A S T a : Nat} (h : OK w n A S T) (hb : sBnd A S) (ha : a < 8) : ∀ k, k ≤ n → (sp_tot w a k).toInt = sm w a k := by
  intro k
  induction k with
  | zero => intro _; rfl
  | succ k ih =>
    intro hk
    have h1 := ih (by omega)
    have h2 := h.sm_le hb ha (k + 1) hk
    have h3 : sm w a (k + 1) = sm w a k + (w (sf k (18 + a))).toInt := rfl
    show (sp_tot w a k + w (sf k (18 + a))).toInt = _
    rw [ti_add (by omega), h1, h3]
theorem OK.drp3 {w : Nat → Int32} {n A S T : Nat} (h : OK w n A S T) : ∀ k, k ≤ n → sm w 2 k + sm w 3 k + sm w 4 k ≤ (A : Int) * k := by
  intro k
  induction k with
  | zero => intro _; simp [sm]
  | succ k ih =>
    intro hk
    have h1 := ih (by omega)
    have f := h.fl k (by omega)
    have f0 := f.a0
    have fr := f.ar
    have e3 : (A : Int) * ((k + 1 : Nat) : Int) = A * k + A := by rw [Int.natCast_add, Int.mul_add]; simp
    show sm w 2 k + (w (sf k 20)).toInt + (sm w 3 k + (w (sf k 21)).toInt) + (sm w 4 k + (w (sf k 22)).toInt) ≤ _
    omega
theorem OK.drp {w : Nat → Int32} {n A S T : Nat} (h : OK w n A S T) (hb : sBnd A S) : (sp_drp w n).toInt = sm w 2 n + sm w 3 n + sm w 4 n ∧ sm w 2 n + sm w 3 n + sm w 4 n ≤ 2000000000 := by
  have hn := h.nf.2
  have h1 := h.drp3 n (Nat.le_refl _)
  have h4 : (A : Int) * n ≤ 300000000 * 6 := Int.le_trans (Int.mul_le_mul_of_nonneg_right (show (A : Int) ≤ 300000000 by have := hb.1; omega) (by omega)) (Int.mul_le_mul_of_nonneg_left (show (n : Int) ≤ 6 by omega) (by omega))
  have b2 := h.sm_le hb (a := 2) (by omega) n (Nat.le_refl _)
  have b3 := h.sm_le hb (a := 3) (by omega) n (Nat.le_refl _)
  have b4 := h.sm_le hb (a := 4) (by omega) n (Nat.le_refl _)
  have t2 := h.tot hb (a := 2) (by omega) n (Nat.le_refl _)
  have t3 := h.tot hb (a := 3) (by omega) n (Nat.le_refl _)
  have t4 := h.tot hb (a := 4) (by omega) n (Nat.le_refl _)
  unfold sp_drp
  have e1 : (sp_tot w 2 n + sp_tot w 3 n).toInt = sm w 2 n + sm w 3 n := by rw [ti_add (by omega), t2, t3]
  rw [ti_add (by omega), e1, t4]
  omega
section
variable {l : Launch} {G : zG} {M : zM} {r : Nat} {w : Nat → Int32} {e : Bool}
theorem R_total {n a : Nat} {q : Int32} {Kf : Int32 → zM → Prop} (hn : (zmI M 31 0 11).toInt = n) (h6 : n ≤ 6) (hq : q.toInt = a) (ha : a < 8) (h : Kf (sp_tot (zmI M 31 0) a n) M) : zCalI l G Y_X9_accountOf 0 0 [vr 30 0, vi (-1), vi q] M Kf := by
  have e18 : (18 + q).toInt = ((18 + a : Nat) : Int) := by (first | omega | ((simp (disch := (first | omega | (simp (disch := (first | omega | (simp (disch := (first | omega | (simp (disch := omega) only [ti_add, ti_sub, ti_mul, Int32.reduceToInt, ti_n1, ti_n2, ti_n3, and_self] <;> omega))) only [ti_add, ti_sub, ti_mul, Int32.reduceToInt, ti_n1, ti_n2, ti_n3, and_self] <;> omega))) only [ti_add, ti_sub, ti_mul, Int32.reduceToInt, ti_n1, ti_n2, ti_n3, and_self] <;> omega))) only [ti_le, ti_lt, ti_eq, ti_add, ti_sub, ti_mul, Int32.reduceToInt, ti_n1, ti_n2, ti_n3, ti_cl] at *) <;> omega))
  have key : ∀ d j : Nat, j + d = n → ∀ y : Int32, y.toInt = j → zAt l G Y_X9_accountOf (zEI G Y_X9_accountOf Kf) 20 [(0, vr 30 0), (2, vi q), (3, vi (sp_tot (zmI M 31 0) a j)), (4, vi y)] [] M 0 0 := by
    intro d
    induction d with
    | zero =>
      intro j hj y hy
      refine zb_X9_accountOf_20 ⟨fun _ => ?_, fun c => ?_⟩
      · rw [show j = n by omega]; exact h
      · exfalso
        rw [ti_le] at c
        omega
    | succ d ih =>
      intro j hj y hy
      refine zb_X9_accountOf_20 ⟨fun c => ?_, fun _ => R_ofFlow hy e18 (by (first | omega | (simp only [sf, sq, sd] at *; omega))) (ih (j + 1) (by omega) (y + 1) (ti_inc hy (by omega)))⟩
      exfalso
      rw [ti_le] at c
      omega
  exact zm_X9_accountOf ⟨fun _ => key n 0 (by omega) 0 rfl, fun c => absurd rfl c⟩
theorem R_account {i a : Nat} {p q : Int32} {Kf : Int32 → zM → Prop} (hp : p.toInt = i) (hi : i < 6) (hq : q.toInt = a) (ha : a < 8) (h : Kf (zmI M 31 0 (sf i (18 + a))) M) : zCalI l G Y_X9_accountOf 0 0 [vr 30 0, vi p, vi q] M Kf := by
  have e18 : (18 + q).toInt = ((18 + a : Nat) : Int) := by (first | omega | ((simp (disch := (first | omega | (simp (disch := (first | omega | (simp (disch := (first | omega | (simp (disch := omega) only [ti_add, ti_sub, ti_mul, Int32.reduceToInt, ti_n1, ti_n2, ti_n3, and_self] <;> omega))) only [ti_add, ti_sub, ti_mul, Int32.reduceToInt, ti_n1, ti_n2, ti_n3, and_self] <;> omega))) only [ti_add, ti_sub, ti_mul, Int32.reduceToInt, ti_n1, ti_n2, ti_n3, and_self] <;> omega))) only [ti_le, ti_lt, ti_eq, ti_add, ti_sub, ti_mul, Int32.reduceToInt, ti_n1, ti_n2, ti_n3, ti_cl] at *) <;> omega))
  refine zm_X9_accountOf ⟨fun c => ?_, fun _ => R_ofFlow hp e18 (by (first | omega | (simp only [sf, sq, sd] at *; omega))) h⟩
  exfalso
  rw [c] at hp
  have : (-1 : Int32).toInt = -1 := rfl
  omega
theorem R_dropped {n : Nat} {Kf : Int32 → zM → Prop} (hn : (zmI M 31 0 11).toInt = n) (h6 : n ≤ 6) (h : Kf (sp_drp (zmI M 31 0) n) M) : zCalI l G Y_X9_dropped 0 0 [vr 30 0] M Kf :=
  zm_X9_dropped (R_total hn h6 (a := 2) rfl (by omega) (R_total hn h6 (a := 3) rfl (by omega) (R_total hn h6 (a := 4) rfl (by omega) h)))
def sp_on (w : Nat → Int32) : Nat → Int32
  | 0 => 0
  | n + 1 => sp_on w n + w (sf n 5)
theorem R_onMany {n : Nat} {Kf : Int32 → zM → Prop} (hn : (zmI M 31 0 11).toInt = n) (h6 : n ≤ 6) (h : Kf (sp_on (zmI M 31 0) n) M) : zCalI l G Y_X9_onMany 0 0 [vr 30 0] M Kf := by
  have key : ∀ d j : Nat, j + d = n → ∀ y : Int32, y.toInt = j → zAt l G Y_X9_onMany (zEI G Y_X9_onMany Kf) 4 [(0, vr 30 0), (1, vi (sp_on (zmI M 31 0) j)), (2, vi y)] [] M 0 0 := by
    intro d
    induction d with
    | zero =>
      intro j hj y hy
      refine zb_X9_onMany_4 ⟨fun _ => ?_, fun c => ?_⟩
      · rw [show j = n by omega]; exact h
      · exfalso
        rw [ti_le] at c
        omega
    | succ d ih =>
      intro j hj y hy
      refine zb_X9_onMany_4 ⟨fun c => ?_, fun _ => R_ofFlow hy (k := 5) rfl (by (first | omega | (simp only [sf, sq, sd] at *; omega))) (ih (j + 1) (by omega) (y + 1) (ti_inc hy (by omega)))⟩
      exfalso
      rw [ti_le] at c
      omega
  exact zm_X9_onMany (key n 0 (by omega) 0 rfl)
/-- the class's sums -/
theorem C_total {n A S T a : Nat} {p q : Int32} {Kf : Int64 → zM → Prop} (hO : OK w n A S T) (hb : sBnd A S) (hR : Rel M r w e) (hq : q.toInt = a) (ha : a < 8)
    (h : Kf (if 0 ≤ p.toInt ∧ p.toInt < n then w (sf p.toInt.toNat (18 + a)) else sp_tot w a n).toInt64 M) : zCalL l G Y_X5_total 0 0 [vr 15 r, vi p, vi q] M Kf := by
  have hn := hO.nf
  have key : (Kf (sp_tot w a n).toInt64 M) → ∀ d j : Nat, j + d = n → ∀ y : Int32, y.toInt = j → zAt l G Y_X5_total (zEL G Y_X5_total Kf) 37 [(0, vr 15 r), (2, vi q), (3, vl (sp_tot w a j).toInt64), (5, vi y)] [] M 0 0 := by
    intro hk d
    induction d with
    | zero =>
      intro j hj y hy
      refine zb_X5_total_37 ⟨fun _ => ?_, fun c => ?_⟩
      · rw [show j = n by omega]; exact hk
      · exfalso
        rw [ti_le, hR.n hO] at c
        omega
    | succ d ih =>
      intro j hj y hy
      refine zb_X5_total_37 ⟨fun c => ?_, fun _ => ⟨fun c => ?_, fun _ => ⟨ti_in (by omega), ti_in (by omega), ?_⟩⟩⟩
      · exfalso
        rw [ti_le, hR.n hO] at c
        omega
      · exfalso
        rw [ti_le, show (6 : Int32).toInt = 6 from rfl] at c
        omega
      · rw [ti_at hy, ti_at hq, show zmL M 18 (6 * r + j) a = _ from (hR.2.1 j (by omega)).2.1 a ha]
        have b1 := hO.sm_le hb ha j (by omega)
        have b2 := hO.sm_le hb ha (j + 1) (by omega)
        have b3 : sm w a (j + 1) = sm w a j + (w (sf j (18 + a))).toInt := rfl
        rw [t64_add (by rw [hO.tot hb ha j (by omega)]; omega)]
        exact ih (j + 1) (by omega) (y + 1) (ti_inc hy (by omega))
  refine zm_X5_total ⟨fun c => ?_, fun _ => ⟨fun _ => C_hasFlow (hR.n hO) hn.2 ⟨fun c => ?_, fun c => ?_⟩, fun c => ?_⟩⟩
  · exfalso
    rw [ti_lt, ti_0] at c
    omega
  · have c2 : ¬ (0 ≤ p.toInt ∧ p.toInt < n) := fun g => by
      rw [if_pos g] at c
      exact absurd c (by decide)
    rw [if_neg c2] at h
    exact key h n 0 (by omega) 0 rfl
  · have c2 : 0 ≤ p.toInt ∧ p.toInt < n := Classical.byContradiction fun g => c (if_neg g)
    rw [if_pos c2] at h
    refine ⟨ti_in (by omega), ti_in (by omega), ?_⟩
    rw [ti_at hq, ti_at (x := p) (n := p.toInt.toNat) (by omega), show zmL M 18 (6 * r + p.toInt.toNat) a = _ from (hR.2.1 p.toInt.toNat (by omega)).2.1 a ha]
    exact h
  · exfalso
    rw [ti_lt, show (8 : Int32).toInt = 8 from rfl] at c
    omega
theorem C_dropped {n A S T : Nat} {Kf : Int64 → zM → Prop} (hO : OK w n A S T) (hb : sBnd A S) (hR : Rel M r w e) (h : Kf (sp_drp w n).toInt64 M) : zCalL l G Y_X5_dropped 0 0 [vr 15 r] M Kf := by
  have hn := hO.nf
  have hb1 := hb.1
  have key : ∀ d j : Nat, j + d = n → ∀ (y : Int32) (x : Int64), y.toInt = j → x.toInt = sm w 2 j + sm w 3 j + sm w 4 j → zAt l G Y_X5_dropped (zEL G Y_X5_dropped Kf) 4 [(0, vr 15 r), (1, vl x), (3, vi y)] [] M 0 0 := by
    intro d
    induction d with
    | zero =>
      intro j hj y x hy hx
      refine zb_X5_dropped_4 ⟨fun _ => ?_, fun c => ?_⟩
      · have hjn : j = n := by omega
        have e : x = (sp_drp w n).toInt64 := tl_eq.mpr (by rw [hx, tl_32, (hO.drp hb).1, hjn])
        rw [e]
        exact h
      · exfalso
        rw [ti_le, hR.n hO] at c
        omega
    | succ d ih =>
      intro j hj y x hy hx
      have f := hO.fl j (by omega)
      have f0 := f.a0
      have fr := f.ar
      have b2 := hO.sm_le hb (a := 2) (by omega) j (by omega)
      have b3 := hO.sm_le hb (a := 3) (by omega) j (by omega)
      have b4 := hO.sm_le hb (a := 4) (by omega) j (by omega)
      refine zb_X5_dropped_4 ⟨fun c => ?_, fun _ => ⟨fun c => ?_, fun _ => ⟨ti_in (by omega), zm_X1_drops ?_⟩⟩⟩
      · exfalso
        rw [ti_le, hR.n hO] at c
        omega
      · exfalso
        rw [ti_le, show (6 : Int32).toInt = 6 from rfl] at c
        omega
      · rw [ti_at hy, show zmL M 18 (6 * r + j) 2 = (w (sf j 20)).toInt64 from (hR.2.1 j (by omega)).2.1 2 (by omega), show zmL M 18 (6 * r + j) 3 = (w (sf j 21)).toInt64 from (hR.2.1 j (by omega)).2.1 3 (by omega), show zmL M 18 (6 * r + j) 4 = (w (sf j 22)).toInt64 from (hR.2.1 j (by omega)).2.1 4 (by omega)]
        refine ih (j + 1) (by omega) (y + 1) _ (ti_inc hy (by omega)) ?_
        have e1 : ((w (sf j 20)).toInt64 + (w (sf j 21)).toInt64).toInt = (w (sf j 20)).toInt + (w (sf j 21)).toInt := by rw [tl_add (by rw [tl_32, tl_32]; omega), tl_32, tl_32]
        have e2 : ((w (sf j 20)).toInt64 + (w (sf j 21)).toInt64 + (w (sf j 22)).toInt64).toInt = (w (sf j 20)).toInt + (w (sf j 21)).toInt + (w (sf j 22)).toInt := by rw [tl_add (by rw [e1, tl_32]; omega), e1, tl_32]
        rw [tl_add (by rw [e2, hx]; omega), e2, hx]
        show _ = (sm w 2 j + (w (sf j 20)).toInt) + (sm w 3 j + (w (sf j 21)).toInt) + (sm w 4 j + (w (sf j 22)).toInt)
        omega
  exact zm_X5_dropped (key n 0 (by omega) 0 0 rfl rfl)
theorem C_flowsOn {n A S T : Nat} {Kf : Int32 → zM → Prop} (hO : OK w n A S T) (hR : Rel M r w e) (h : Kf (sp_on w n) M) : zCalI l G Y_X5_flowsOn 0 0 [vr 15 r] M Kf := by
  have hn := hO.nf
  have key : ∀ d j : Nat, j + d = n → ∀ y : Int32, y.toInt = j → zAt l G Y_X5_flowsOn (zEI G Y_X5_flowsOn Kf) 4 [(0, vr 15 r), (1, vi (sp_on w j)), (2, vi y)] [] M 0 0 := by
    intro d
    induction d with
    | zero =>
      intro j hj y hy
      refine zb_X5_flowsOn_4 ⟨fun _ => ?_, fun c => ?_⟩
      · rw [show j = n by omega]; exact h
      · exfalso
        rw [ti_le, hR.n hO] at c
        omega
    | succ d ih =>
      intro j hj y hy
      have nx := ih (j + 1) (by omega) (y + 1) (ti_inc hy (by omega))
      refine zb_X5_flowsOn_4 ⟨fun c => ?_, fun _ => ⟨fun c => ?_, fun _ => ⟨ti_in (by omega), ?_⟩⟩⟩
      · exfalso
        rw [ti_le, hR.n hO] at c
        omega
      · exfalso
        rw [ti_le, show (6 : Int32).toInt = 6 from rfl] at c
        omega
      · rw [ti_at hy, show zmI M 17 (6 * r + j) 6 = w (sf j 5) from (hR.2.1 j (by omega)).1 5 (by omega)]
        have enx : sp_on w (j + 1) = sp_on w j + w (sf j 5) := rfl
        have ho : w (sf j 5) = 0 ∨ w (sf j 5) = 1 := (hO.fl j (by omega)).on
        rw [enx] at nx
        refine ⟨fun c => zb_X5_flowsOn_33 ?_, fun c => zb_X5_flowsOn_33 ?_⟩
        · rw [c, show sp_on w j + 0 = sp_on w j from Int32.add_zero _] at nx
          exact nx
        · rw [ho.resolve_left c] at nx
          exact nx
  exact zm_X5_flowsOn (key n 0 (by omega) 0 rfl)
end
