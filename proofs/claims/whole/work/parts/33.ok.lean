/-! WHAT ALWAYS HOLDS OF THE ROW -/
def FOK (g : Nat → Int32) (A S : Nat) : Prop := (1 ≤ (g 0).toInt ∧ (g 0).toInt ≤ 99) ∧ (1 ≤ (g 1).toInt ∧ (g 1).toInt ≤ 50) ∧ (1 ≤ (g 3).toInt ∧ (g 3).toInt ≤ 9) ∧ (g 4 = 0 ∨ g 4 = 1) ∧ (g 5 = 0 ∨ g 5 = 1) ∧ (1 ≤ (g 6).toInt ∧ (g 6).toInt ≤ 9) ∧ (g 7 = 0 ∨ g 7 = 1) ∧ (0 ≤ (g 9).toInt ∧ (g 9).toInt ≤ 8) ∧ (∀ j : Nat, (j : Int) < (g 9).toInt → 97 ≤ (g (10 + j)).toInt ∧ (g (10 + j)).toInt ≤ 122) ∧ (0 ≤ (g 18).toInt ∧ (g 18).toInt ≤ A) ∧ (0 ≤ (g 19).toInt ∧ 0 ≤ (g 20).toInt ∧ 0 ≤ (g 21).toInt ∧ 0 ≤ (g 22).toInt ∧ (g 19).toInt + (g 20).toInt + (g 21).toInt + (g 22).toInt ≤ (g 18).toInt) ∧ (0 ≤ (g 23).toInt ∧ (g 23).toInt ≤ S) ∧ (0 ≤ (g 24).toInt ∧ (g 24).toInt ≤ (g 23).toInt) ∧ (0 ≤ (g 25).toInt ∧ (g 25).toInt ≤ 10400 * (g 23).toInt)
theorem FOK.fst {g : Nat → Int32} {A S : Nat} (h9 : FOK g A S) : 1 ≤ (g 0).toInt ∧ (g 0).toInt ≤ 99 := h9.1
theorem FOK.per {g : Nat → Int32} {A S : Nat} (h9 : FOK g A S) : 1 ≤ (g 1).toInt ∧ (g 1).toInt ≤ 50 := h9.2.1
theorem FOK.cap {g : Nat → Int32} {A S : Nat} (h9 : FOK g A S) : 1 ≤ (g 3).toInt ∧ (g 3).toInt ≤ 9 := h9.2.2.1
theorem FOK.mrk {g : Nat → Int32} {A S : Nat} (h9 : FOK g A S) : g 4 = 0 ∨ g 4 = 1 := h9.2.2.2.1
theorem FOK.on {g : Nat → Int32} {A S : Nat} (h9 : FOK g A S) : g 5 = 0 ∨ g 5 = 1 := h9.2.2.2.2.1
theorem FOK.win {g : Nat → Int32} {A S : Nat} (h9 : FOK g A S) : 1 ≤ (g 6).toInt ∧ (g 6).toInt ≤ 9 := h9.2.2.2.2.2.1
theorem FOK.tld {g : Nat → Int32} {A S : Nat} (h9 : FOK g A S) : g 7 = 0 ∨ g 7 = 1 := h9.2.2.2.2.2.2.1
theorem FOK.lng {g : Nat → Int32} {A S : Nat} (h9 : FOK g A S) : 0 ≤ (g 9).toInt ∧ (g 9).toInt ≤ 8 := h9.2.2.2.2.2.2.2.1
theorem FOK.let_ {g : Nat → Int32} {A S : Nat} (h9 : FOK g A S) : ∀ j : Nat, (j : Int) < (g 9).toInt → 97 ≤ (g (10 + j)).toInt ∧ (g (10 + j)).toInt ≤ 122 := h9.2.2.2.2.2.2.2.2.1
theorem FOK.a0 {g : Nat → Int32} {A S : Nat} (h9 : FOK g A S) : 0 ≤ (g 18).toInt ∧ (g 18).toInt ≤ A := h9.2.2.2.2.2.2.2.2.2.1
theorem FOK.ar {g : Nat → Int32} {A S : Nat} (h9 : FOK g A S) : 0 ≤ (g 19).toInt ∧ 0 ≤ (g 20).toInt ∧ 0 ≤ (g 21).toInt ∧ 0 ≤ (g 22).toInt ∧ (g 19).toInt + (g 20).toInt + (g 21).toInt + (g 22).toInt ≤ (g 18).toInt := h9.2.2.2.2.2.2.2.2.2.2.1
theorem FOK.a5 {g : Nat → Int32} {A S : Nat} (h9 : FOK g A S) : 0 ≤ (g 23).toInt ∧ (g 23).toInt ≤ S := h9.2.2.2.2.2.2.2.2.2.2.2.1
theorem FOK.a6 {g : Nat → Int32} {A S : Nat} (h9 : FOK g A S) : 0 ≤ (g 24).toInt ∧ (g 24).toInt ≤ (g 23).toInt := h9.2.2.2.2.2.2.2.2.2.2.2.2.1
theorem FOK.a7 {g : Nat → Int32} {A S : Nat} (h9 : FOK g A S) : 0 ≤ (g 25).toInt ∧ (g 25).toInt ≤ 10400 * (g 23).toInt := h9.2.2.2.2.2.2.2.2.2.2.2.2.2
theorem FOK.mk {g : Nat → Int32} {A S : Nat} (fst : 1 ≤ (g 0).toInt ∧ (g 0).toInt ≤ 99) (per : 1 ≤ (g 1).toInt ∧ (g 1).toInt ≤ 50) (cap : 1 ≤ (g 3).toInt ∧ (g 3).toInt ≤ 9) (mrk : g 4 = 0 ∨ g 4 = 1) (on : g 5 = 0 ∨ g 5 = 1) (win : 1 ≤ (g 6).toInt ∧ (g 6).toInt ≤ 9) (tld : g 7 = 0 ∨ g 7 = 1) (lng : 0 ≤ (g 9).toInt ∧ (g 9).toInt ≤ 8) (let_ : ∀ j : Nat, (j : Int) < (g 9).toInt → 97 ≤ (g (10 + j)).toInt ∧ (g (10 + j)).toInt ≤ 122) (a0 : 0 ≤ (g 18).toInt ∧ (g 18).toInt ≤ A) (ar : 0 ≤ (g 19).toInt ∧ 0 ≤ (g 20).toInt ∧ 0 ≤ (g 21).toInt ∧ 0 ≤ (g 22).toInt ∧ (g 19).toInt + (g 20).toInt + (g 21).toInt + (g 22).toInt ≤ (g 18).toInt) (a5 : 0 ≤ (g 23).toInt ∧ (g 23).toInt ≤ S) (a6 : 0 ≤ (g 24).toInt ∧ (g 24).toInt ≤ (g 23).toInt) (a7 : 0 ≤ (g 25).toInt ∧ (g 25).toInt ≤ 10400 * (g 23).toInt) : FOK g A S := ⟨fst, per, cap, mrk, on, win, tld, lng, let_, a0, ar, a5, a6, a7⟩
/-- a sum over the flows -/
def sm (w : Nat → Int32) (a : Nat) : Nat → Int
  | 0 => 0
  | n + 1 => sm w a n + (w (sf n (18 + a))).toInt
def OK (w : Nat → Int32) (n A S T : Nat) : Prop := (1 ≤ (w 0).toInt ∧ (w 0).toInt ≤ 40) ∧ (1 ≤ (w 1).toInt ∧ (w 1).toInt ≤ 9) ∧ (sp_mm w) ∧ (0 ≤ (w 4).toInt ∧ (w 4).toInt ≤ 65536) ∧ (0 ≤ (w 5).toInt ∧ (w 5).toInt ≤ 10) ∧ (w 6 = 0 ∨ w 6 = 1) ∧ (0 ≤ (w 7).toInt ∧ (w 7).toInt ≤ T) ∧ (0 ≤ (w 8).toInt ∧ (w 8).toInt ≤ (w 0).toInt) ∧ ((w 11).toInt = n ∧ n ≤ 6) ∧ (0 ≤ (w 12).toInt ∧ (w 12).toInt ≤ 24) ∧ (∀ i : Nat, i < n → FOK (fun k => w (sf i k)) A S) ∧ (∀ k : Nat, (k : Int) < (w 8).toInt → (0 ≤ (w (sq k 0)).toInt ∧ (w (sq k 0)).toInt < n) ∧ (0 ≤ (w (sq k 1)).toInt ∧ (w (sq k 1)).toInt ≤ (w 7).toInt) ∧ (w (sq k 2) = 0 ∨ w (sq k 2) = 1)) ∧ (sm w 5 n ≤ S)
theorem OK.lim {w : Nat → Int32} {n A S T : Nat} (h9 : OK w n A S T) : 1 ≤ (w 0).toInt ∧ (w 0).toInt ≤ 40 := h9.1
theorem OK.rate {w : Nat → Int32} {n A S T : Nat} (h9 : OK w n A S T) : 1 ≤ (w 1).toInt ∧ (w 1).toInt ≤ 9 := h9.2.1
theorem OK.mm {w : Nat → Int32} {n A S T : Nat} (h9 : OK w n A S T) : sp_mm w := h9.2.2.1
theorem OK.top {w : Nat → Int32} {n A S T : Nat} (h9 : OK w n A S T) : 0 ≤ (w 4).toInt ∧ (w 4).toInt ≤ 65536 := h9.2.2.2.1
theorem OK.wt {w : Nat → Int32} {n A S T : Nat} (h9 : OK w n A S T) : 0 ≤ (w 5).toInt ∧ (w 5).toInt ≤ 10 := h9.2.2.2.2.1
theorem OK.gen {w : Nat → Int32} {n A S T : Nat} (h9 : OK w n A S T) : w 6 = 0 ∨ w 6 = 1 := h9.2.2.2.2.2.1
theorem OK.tim {w : Nat → Int32} {n A S T : Nat} (h9 : OK w n A S T) : 0 ≤ (w 7).toInt ∧ (w 7).toInt ≤ T := h9.2.2.2.2.2.2.1
theorem OK.nq {w : Nat → Int32} {n A S T : Nat} (h9 : OK w n A S T) : 0 ≤ (w 8).toInt ∧ (w 8).toInt ≤ (w 0).toInt := h9.2.2.2.2.2.2.2.1
theorem OK.nf {w : Nat → Int32} {n A S T : Nat} (h9 : OK w n A S T) : (w 11).toInt = n ∧ n ≤ 6 := h9.2.2.2.2.2.2.2.2.1
theorem OK.nd {w : Nat → Int32} {n A S T : Nat} (h9 : OK w n A S T) : 0 ≤ (w 12).toInt ∧ (w 12).toInt ≤ 24 := h9.2.2.2.2.2.2.2.2.2.1
theorem OK.fl {w : Nat → Int32} {n A S T : Nat} (h9 : OK w n A S T) : ∀ i : Nat, i < n → FOK (fun k => w (sf i k)) A S := h9.2.2.2.2.2.2.2.2.2.2.1
theorem OK.qu {w : Nat → Int32} {n A S T : Nat} (h9 : OK w n A S T) : ∀ k : Nat, (k : Int) < (w 8).toInt → (0 ≤ (w (sq k 0)).toInt ∧ (w (sq k 0)).toInt < n) ∧ (0 ≤ (w (sq k 1)).toInt ∧ (w (sq k 1)).toInt ≤ (w 7).toInt) ∧ (w (sq k 2) = 0 ∨ w (sq k 2) = 1) := h9.2.2.2.2.2.2.2.2.2.2.2.1
theorem OK.su {w : Nat → Int32} {n A S T : Nat} (h9 : OK w n A S T) : sm w 5 n ≤ S := h9.2.2.2.2.2.2.2.2.2.2.2.2
theorem OK.mk {w : Nat → Int32} {n A S T : Nat} (lim : 1 ≤ (w 0).toInt ∧ (w 0).toInt ≤ 40) (rate : 1 ≤ (w 1).toInt ∧ (w 1).toInt ≤ 9) (mm : sp_mm w) (top : 0 ≤ (w 4).toInt ∧ (w 4).toInt ≤ 65536) (wt : 0 ≤ (w 5).toInt ∧ (w 5).toInt ≤ 10) (gen : w 6 = 0 ∨ w 6 = 1) (tim : 0 ≤ (w 7).toInt ∧ (w 7).toInt ≤ T) (nq : 0 ≤ (w 8).toInt ∧ (w 8).toInt ≤ (w 0).toInt) (nf : (w 11).toInt = n ∧ n ≤ 6) (nd : 0 ≤ (w 12).toInt ∧ (w 12).toInt ≤ 24) (fl : ∀ i : Nat, i < n → FOK (fun k => w (sf i k)) A S) (qu : ∀ k : Nat, (k : Int) < (w 8).toInt → (0 ≤ (w (sq k 0)).toInt ∧ (w (sq k 0)).toInt < n) ∧ (0 ≤ (w (sq k 1)).toInt ∧ (w (sq k 1)).toInt ≤ (w 7).toInt) ∧ (w (sq k 2) = 0 ∨ w (sq k 2) = 1)) (su : sm w 5 n ≤ S) : OK w n A S T := ⟨lim, rate, mm, top, wt, gen, tim, nq, nf, nd, fl, qu, su⟩
theorem sm_congr {w w' : Nat → Int32} {a n : Nat} (h : ∀ i, i < n → w' (sf i (18 + a)) = w (sf i (18 + a))) : sm w' a n = sm w a n := by
  induction n with
  | zero => rfl
  | succ n ih =>
    show sm w' a n + _ = sm w a n + _
    rw [ih (fun i hi => h i (by omega)), h n (by omega)]
theorem FOK.mono {g : Nat → Int32} {A S A' S' : Nat} (h : FOK g A S) (hA : A ≤ A') (hS : S ≤ S') : FOK g A' S' :=
  FOK.mk h.fst h.per h.cap h.mrk h.on h.win h.tld h.lng h.let_ (by have := h.a0; omega) h.ar (by have := h.a5; omega) h.a6 h.a7
theorem FOK.of {g g' : Nat → Int32} {A S : Nat} (h : FOK g A S) (e : ∀ k, k < 26 → g' k = g k) : FOK g' A S := FOK.mk
  (fst := by rw [e _ (by omega)]; exact h.fst)
  (per := by rw [e _ (by omega)]; exact h.per)
  (cap := by rw [e _ (by omega)]; exact h.cap)
  (mrk := by rw [e _ (by omega)]; exact h.mrk)
  (on := by rw [e _ (by omega)]; exact h.on)
  (win := by rw [e _ (by omega)]; exact h.win)
  (tld := by rw [e _ (by omega)]; exact h.tld)
  (lng := by rw [e _ (by omega)]; exact h.lng)
  (let_ := fun j hj => by
    rw [e _ (by omega)] at hj
    have := h.lng
    rw [e _ (by omega)]
    exact h.let_ j hj)
  (a0 := by rw [e _ (by omega)]; exact h.a0)
  (ar := by rw [e _ (by omega), e _ (by omega), e _ (by omega), e _ (by omega), e _ (by omega)]; exact h.ar)
  (a5 := by rw [e _ (by omega)]; exact h.a5)
  (a6 := by rw [e _ (by omega), e _ (by omega)]; exact h.a6)
  (a7 := by rw [e _ (by omega), e _ (by omega)]; exact h.a7)
/-- one flow's numbers change, and what no invariant speaks of -/
theorem OK.upd {w w' : Nat → Int32} {n A S T A' i : Nat} (h : OK w n A S T) (hi : i < n) (hA : A ≤ A') (e : ∀ j, (j ≤ 8 ∨ j = 11 ∨ (16 ≤ j ∧ j < 292)) → ¬ (sf i 0 ≤ j ∧ j < sf i 26) → w' j = w j)
    (hd : 0 ≤ (w' 12).toInt ∧ (w' 12).toInt ≤ 24) (hf : FOK (fun k => w' (sf i k)) A' S) (h5 : w' (sf i 23) = w (sf i 23)) : OK w' n A' S T := by
  have hn := h.nf.2
  have hq := h.nq
  have hl := h.lim
  have q : ∀ k, k ≤ 8 → w' k = w k := fun k hk => e k (Or.inl hk) (by (first | omega | (simp only [sf, sq, sd] at *; omega)))
  exact OK.mk
    (lim := by rw [q 0 (by omega)]; exact h.lim)
    (rate := by rw [q 1 (by omega)]; exact h.rate)
    (mm := by
      have := h.mm
      unfold sp_mm at *
      rw [q 2 (by omega), q 3 (by omega)]
      exact this)
    (top := by rw [q 4 (by omega)]; exact h.top)
    (wt := by rw [q 5 (by omega)]; exact h.wt)
    (gen := by rw [q 6 (by omega)]; exact h.gen)
    (tim := by rw [q 7 (by omega)]; exact h.tim)
    (nq := by rw [q 8 (by omega), q 0 (by omega)]; exact h.nq)
    (nf := by rw [e 11 (by omega) (by (first | omega | (simp only [sf, sq, sd] at *; omega)))]; exact h.nf)
    (nd := hd)
    (fl := fun j hj => by
      by_cases hij : j = i
      · rw [hij]; exact hf
      · exact ((h.fl j hj).mono hA (Nat.le_refl _)).of fun k hk => e _ (by (first | omega | (simp only [sf, sq, sd] at *; omega))) (by (first | omega | (simp only [sf, sq, sd] at *; omega))))
    (qu := fun k hk => by
      rw [q 8 (by omega)] at hk
      rw [q 7 (by omega), e (sq k 0) (by (first | omega | (simp only [sf, sq, sd] at *; omega))) (by (first | omega | (simp only [sf, sq, sd] at *; omega))), e (sq k 1) (by (first | omega | (simp only [sf, sq, sd] at *; omega))) (by (first | omega | (simp only [sf, sq, sd] at *; omega))), e (sq k 2) (by (first | omega | (simp only [sf, sq, sd] at *; omega))) (by (first | omega | (simp only [sf, sq, sd] at *; omega)))]
      exact h.qu k hk)
    (su := by
      rw [sm_congr (w := w) fun j hj => ?_]
      · exact h.su
      · by_cases hij : j = i
        · rw [hij]; exact h5
        · exact e _ (by (first | omega | (simp only [sf, sq, sd] at *; omega))) (by (first | omega | (simp only [sf, sq, sd] at *; omega))))
theorem OK.mono {w : Nat → Int32} {n A S T A' S' T' : Nat} (h : OK w n A S T) (hA : A ≤ A') (hS : S ≤ S') (hT : T ≤ T') : OK w n A' S' T' :=
  OK.mk h.lim h.rate h.mm h.top h.wt h.gen (by have := h.tim; omega) h.nq h.nf h.nd (fun i hi => (h.fl i hi).mono hA hS) h.qu (by have := h.su; omega)
/-- a packet comes in -/
theorem OK.push {w : Nat → Int32} {n A S T : Nat} {p m : Int32} (h : OK w n A S T) (hq : (w 8).toInt < (w 0).toInt) (hp : 0 ≤ p.toInt ∧ p.toInt < n) (hm : m = 0 ∨ m = 1) : OK (sp_letsIn w p m) n A S T := by
  have hn := h.nf.2
  have hnq := h.nq
  have hl := h.lim
  obtain ⟨N, hN⟩ : ∃ N : Nat, (w 8).toInt = N := ⟨_, (Int.toNat_of_nonneg hnq.1).symm⟩
  have hN2 : (w 8).toInt.toNat = N := by omega
  have e : ∀ j, j ≠ 8 → ¬ (sq N 0 ≤ j ∧ j < sq N 3) → sp_letsIn w p m j = w j := fun j h1 h2 => by
    unfold sp_letsIn
    rw [hN2, zup_ne _ _ h1, zup_ne _ _ (by (first | omega | (simp only [sf, sq, sd] at *; omega))), zup_ne _ _ (by (first | omega | (simp only [sf, sq, sd] at *; omega))), zup_ne _ _ (by (first | omega | (simp only [sf, sq, sd] at *; omega)))]
  have e8 : (sp_letsIn w p m 8).toInt = (N + 1 : Nat) := by
    unfold sp_letsIn
    rw [zup_self]
    (first | omega | ((simp (disch := (first | omega | (simp (disch := (first | omega | (simp (disch := (first | omega | (simp (disch := omega) only [ti_add, ti_sub, ti_mul, Int32.reduceToInt, ti_n1, ti_n2, ti_n3, and_self] <;> omega))) only [ti_add, ti_sub, ti_mul, Int32.reduceToInt, ti_n1, ti_n2, ti_n3, and_self] <;> omega))) only [ti_add, ti_sub, ti_mul, Int32.reduceToInt, ti_n1, ti_n2, ti_n3, and_self] <;> omega))) only [ti_le, ti_lt, ti_eq, ti_add, ti_sub, ti_mul, Int32.reduceToInt, ti_n1, ti_n2, ti_n3, ti_cl] at *) <;> omega))
  have q0 : sp_letsIn w p m (sq N 0) = p := by
    unfold sp_letsIn
    rw [hN2, zup_ne _ _ (by (first | omega | (simp only [sf, sq, sd] at *; omega))), zup_ne _ _ (by (first | omega | (simp only [sf, sq, sd] at *; omega))), zup_ne _ _ (by (first | omega | (simp only [sf, sq, sd] at *; omega))), zup_self]
  have q1 : sp_letsIn w p m (sq N 1) = w 7 := by
    unfold sp_letsIn
    rw [hN2, zup_ne _ _ (by (first | omega | (simp only [sf, sq, sd] at *; omega))), zup_ne _ _ (by (first | omega | (simp only [sf, sq, sd] at *; omega))), zup_self]
  have q2 : sp_letsIn w p m (sq N 2) = m := by
    unfold sp_letsIn
    rw [hN2, zup_ne _ _ (by (first | omega | (simp only [sf, sq, sd] at *; omega))), zup_self]
  have q : ∀ k, k < 8 → sp_letsIn w p m k = w k := fun k hk => e k (by omega) (by (first | omega | (simp only [sf, sq, sd] at *; omega)))
  exact OK.mk
    (lim := by rw [q 0 (by omega)]; exact h.lim)
    (rate := by rw [q 1 (by omega)]; exact h.rate)
    (mm := by
      have := h.mm
      unfold sp_mm at *
      rw [q 2 (by omega), q 3 (by omega)]
      exact this)
    (top := by rw [q 4 (by omega)]; exact h.top)
    (wt := by rw [q 5 (by omega)]; exact h.wt)
    (gen := by rw [q 6 (by omega)]; exact h.gen)
    (tim := by rw [q 7 (by omega)]; exact h.tim)
    (nq := by rw [e8, q 0 (by omega)]; omega)
    (nf := by rw [e 11 (by omega) (by (first | omega | (simp only [sf, sq, sd] at *; omega)))]; exact h.nf)
    (nd := by rw [e 12 (by omega) (by (first | omega | (simp only [sf, sq, sd] at *; omega)))]; exact h.nd)
    (fl := fun j hj => (h.fl j hj).of fun k hk => e _ (by (first | omega | (simp only [sf, sq, sd] at *; omega))) (by (first | omega | (simp only [sf, sq, sd] at *; omega))))
    (qu := fun k hk => by
      rw [e8] at hk
      have ht := h.tim
      by_cases hkN : k = N
      · rw [hkN, q0, q1, q2, q 7 (by omega)]
        exact ⟨hp, ⟨ht.1, Int.le_refl _⟩, hm⟩
      · rw [e (sq k 0) (by (first | omega | (simp only [sf, sq, sd] at *; omega))) (by (first | omega | (simp only [sf, sq, sd] at *; omega))), e (sq k 1) (by (first | omega | (simp only [sf, sq, sd] at *; omega))) (by (first | omega | (simp only [sf, sq, sd] at *; omega))), e (sq k 2) (by (first | omega | (simp only [sf, sq, sd] at *; omega))) (by (first | omega | (simp only [sf, sq, sd] at *; omega))), q 7 (by omega)]
        exact h.qu k (by omega))
    (su := by
      rw [sm_congr (w := w) fun j hj => e _ (by (first | omega | (simp only [sf, sq, sd] at *; omega))) (by (first | omega | (simp only [sf, sq, sd] at *; omega)))]
      exact h.su)
