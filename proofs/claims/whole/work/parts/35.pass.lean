/-! A TICK -/
def sp_many (w : Nat → Int32) (p : Bool) (i : Nat) : Nat → Int32 × (Nat → Int32)
  | 0 => (0, w)
  | k + 1 => ((sp_many w p i k).1 + (if (sp_arr (sp_many w p i k).2 p i).1 = 2 then 0 else 1), (sp_arr (sp_many w p i k).2 p i).2)
theorem OK.many {w : Nat → Int32} {n A S T i : Nat} {p : Bool} (h : OK w n A S T) (hi : i < n) : ∀ k, A + k ≤ 300000000 → OK (sp_many w p i k).2 n (A + k) S T
  | 0, _ => h
  | k + 1, hk => ((OK.many h hi k (by omega)).arr (by omega) hi).1
def sp_now (w : Nat → Int32) (i : Nat) : Bool := decide (w (sf i 5) = 1) && (decide (w (sf i 0) ≤ w 7) && decide ((w 7 - w (sf i 0)) - (w 7 - w (sf i 0)) / w (sf i 1) * w (sf i 1) = 0))
def sp_wind (w : Nat → Int32) (i : Nat) : Nat → Int32 :=
  if w (sf i 8) ≤ 0 then w else zup w (sf i 6) (if w (sf i 7) = 1 then (if 1 < w (sf i 6) / 2 then w (sf i 6) / 2 else 1) else (if w (sf i 6) + 1 < w (sf i 3) then w (sf i 6) + 1 else w (sf i 3)))
def sp_adapt (w : Nat → Int32) (i : Nat) : Nat → Int32 := zup (zup (sp_wind w i) (sf i 7) 0) (sf i 8) (sp_wind w i (sf i 8) + 1)
def sp_sends (w : Nat → Int32) (p : Bool) (i : Nat) : Nat → Int32 := (sp_many (sp_adapt w i) p i (sp_adapt w i (sf i 6)).toInt.toNat).2
def sp_flows (w : Nat → Int32) (p : Bool) : Nat → (Nat → Int32)
  | 0 => w
  | i + 1 => if sp_now (sp_flows w p i) i = true then sp_sends (sp_flows w p i) p i else sp_flows w p i
def sp_leave (w : Nat → Int32) (k : Nat) : Nat → Int32 :=
  sp_counts (sp_counts (sp_counts w (w (sq k 0)).toInt.toNat 5 1) (w (sq k 0)).toInt.toNat 6 (w (sq k 2))) (w (sq k 0)).toInt.toNat 7 (w 7 - w (sq k 1))
def sp_leaves (w : Nat → Int32) : Nat → (Nat → Int32)
  | 0 => w
  | k + 1 => sp_leave (sp_leaves w k) k
def sp_nl (w : Nat → Int32) : Int32 := if w 8 < w 1 then w 8 else w 1
def sp_slide (w : Nat → Int32) (m j : Nat) : Nat → Int32 := fun k => if 172 ≤ k ∧ k < j then w (k + 3 * m) else w k
def sp_rest (w : Nat → Int32) : Nat → Int32 := if w 8 = 0 then zup w 9 (w 9 - (w 9 >>> (w 5 &&& 31))) else w
def sp_out (w : Nat → Int32) : Nat → Int32 := zup (sp_leaves w (sp_nl w).toInt.toNat) 8 (sp_leaves w (sp_nl w).toInt.toNat 8 - sp_nl w)
def sp_pass (w : Nat → Int32) (p : Bool) : Nat → Int32 :=
  let w2 := sp_flows (zup w 7 (w 7 + 1)) p (w 11).toInt.toNat
  sp_rest (sp_slide (sp_out w2) (sp_nl w2).toInt.toNat (172 + 3 * (sp_out w2 8).toInt.toNat))
def sp_passes (w : Nat → Int32) (p : Bool) : Nat → (Nat → Int32)
  | 0 => w
  | k + 1 => sp_pass (sp_passes w p k) p
theorem ti_div2 {x : Int32} (h : 0 ≤ x.toInt) : (x / 2).toInt = x.toInt / 2 := by
  have h2 := ti_rng x
  rw [Int32.toInt_div, show (2 : Int32).toInt = 2 from rfl, Int.tdiv_eq_ediv_of_nonneg h, ti_bm (by omega)]
theorem sp_wind_ne {w : Nat → Int32} {i j : Nat} (h : j ≠ sf i 6) : sp_wind w i j = w j := by
  unfold sp_wind
  split
  · rfl
  · exact zup_ne _ _ h
theorem sp_adapt_ne {w : Nat → Int32} {i j : Nat} (h : j ≠ sf i 6) (h2 : j ≠ sf i 7) (h3 : j ≠ sf i 8) : sp_adapt w i j = w j := by
  unfold sp_adapt
  rw [zup_ne _ _ h3, zup_ne _ _ h2, sp_wind_ne h]
theorem sp_wind_6 {w : Nat → Int32} {i : Nat} (h : 1 ≤ (w (sf i 6)).toInt ∧ (w (sf i 6)).toInt ≤ 9) (hc : 1 ≤ (w (sf i 3)).toInt ∧ (w (sf i 3)).toInt ≤ 9) : 1 ≤ (sp_wind w i (sf i 6)).toInt ∧ (sp_wind w i (sf i 6)).toInt ≤ 9 := by
  unfold sp_wind
  split
  · exact h
  · rw [zup_self]
    split
    · split
      · next c =>
        rw [ti_lt] at c
        rw [ti_div2 (by omega)] at *
        rw [ti_1] at c
        omega
      · decide
    · split
      · next c =>
        rw [ti_lt] at c
        rw [ti_add (by rw [ti_1]; omega), ti_1] at *
        omega
      · exact hc
theorem OK.adapt {w : Nat → Int32} {n A S T i : Nat} (h : OK w n A S T) (hi : i < n) : OK (sp_adapt w i) n A S T ∧ 1 ≤ (sp_adapt w i (sf i 6)).toInt ∧ (sp_adapt w i (sf i 6)).toInt ≤ 9 := by
  have hn := h.nf.2
  have f := h.fl i hi
  have e6 : sp_adapt w i (sf i 6) = sp_wind w i (sf i 6) := by
    unfold sp_adapt
    rw [zup_ne _ _ (by (first | omega | (simp only [sf, sq, sd] at *; omega))), zup_ne _ _ (by (first | omega | (simp only [sf, sq, sd] at *; omega)))]
  have hw : 1 ≤ (sp_adapt w i (sf i 6)).toInt ∧ (sp_adapt w i (sf i 6)).toInt ≤ 9 := by
    rw [e6]
    exact sp_wind_6 f.win f.cap
  refine ⟨h.upd hi (Nat.le_refl _) (fun j h1 h2 => sp_adapt_ne (by (first | omega | (simp only [sf, sq, sd] at *; omega))) (by (first | omega | (simp only [sf, sq, sd] at *; omega))) (by (first | omega | (simp only [sf, sq, sd] at *; omega)))) (by rw [sp_adapt_ne (by (first | omega | (simp only [sf, sq, sd] at *; omega))) (by (first | omega | (simp only [sf, sq, sd] at *; omega))) (by (first | omega | (simp only [sf, sq, sd] at *; omega)))]; exact h.nd) ?_ (sp_adapt_ne (by (first | omega | (simp only [sf, sq, sd] at *; omega))) (by (first | omega | (simp only [sf, sq, sd] at *; omega))) (by (first | omega | (simp only [sf, sq, sd] at *; omega)))), hw⟩
  have e : ∀ k, k < 26 → k ≠ 6 → k ≠ 7 → k ≠ 8 → sp_adapt w i (sf i k) = w (sf i k) := fun k _ h1 h2 h3 => sp_adapt_ne (by (first | omega | (simp only [sf, sq, sd] at *; omega))) (by (first | omega | (simp only [sf, sq, sd] at *; omega))) (by (first | omega | (simp only [sf, sq, sd] at *; omega)))
  have e7 : sp_adapt w i (sf i 7) = 0 := by
    unfold sp_adapt
    rw [zup_ne _ _ (by (first | omega | (simp only [sf, sq, sd] at *; omega))), zup_self]
  exact FOK.mk
    (fst := by rw [e _ (by omega) (by omega) (by omega) (by omega)]; exact f.fst)
    (per := by rw [e _ (by omega) (by omega) (by omega) (by omega)]; exact f.per)
    (cap := by rw [e _ (by omega) (by omega) (by omega) (by omega)]; exact f.cap)
    (mrk := by rw [e _ (by omega) (by omega) (by omega) (by omega)]; exact f.mrk)
    (on := by rw [e _ (by omega) (by omega) (by omega) (by omega)]; exact f.on)
    (win := hw)
    (tld := Or.inl e7)
    (lng := by rw [e _ (by omega) (by omega) (by omega) (by omega)]; exact f.lng)
    (let_ := fun j hj => by
      have h9 := f.lng
      rw [e _ (by omega) (by omega) (by omega) (by omega)] at hj
      rw [e _ (by omega) (by omega) (by omega) (by omega)]
      exact f.let_ j hj)
    (a0 := by rw [e _ (by omega) (by omega) (by omega) (by omega)]; exact f.a0)
    (ar := by rw [e _ (by omega) (by omega) (by omega) (by omega), e _ (by omega) (by omega) (by omega) (by omega), e _ (by omega) (by omega) (by omega) (by omega), e _ (by omega) (by omega) (by omega) (by omega), e _ (by omega) (by omega) (by omega) (by omega)]; exact f.ar)
    (a5 := by rw [e _ (by omega) (by omega) (by omega) (by omega)]; exact f.a5)
    (a6 := by rw [e _ (by omega) (by omega) (by omega) (by omega), e _ (by omega) (by omega) (by omega) (by omega)]; exact f.a6)
    (a7 := by rw [e _ (by omega) (by omega) (by omega) (by omega), e _ (by omega) (by omega) (by omega) (by omega)]; exact f.a7)
theorem OK.sends {w : Nat → Int32} {n A S T i : Nat} {p : Bool} (h : OK w n A S T) (hi : i < n) (hA : A + 9 ≤ 300000000) : OK (sp_sends w p i) n (A + 9) S T := by
  obtain ⟨h1, h2, h3⟩ := h.adapt hi
  exact (h1.many hi _ (by omega)).mono (by omega) (Nat.le_refl _) (Nat.le_refl _)
theorem OK.flows {w : Nat → Int32} {n A S T : Nat} {p : Bool} (h : OK w n A S T) : ∀ k, k ≤ n → A + 9 * k ≤ 300000000 → OK (sp_flows w p k) n (A + 9 * k) S T
  | 0, _, _ => h
  | k + 1, hk, hA => by
    have ih := OK.flows (p := p) h k (by omega) (by omega)
    unfold sp_flows
    split
    · exact (ih.sends (by omega) (by omega)).mono (by omega) (Nat.le_refl _) (Nat.le_refl _)
    · exact ih.mono (by omega) (Nat.le_refl _) (Nat.le_refl _)
theorem OK.tick {w : Nat → Int32} {n A S T : Nat} (h : OK w n A S T) (hT : T < 100000) : OK (zup w 7 (w 7 + 1)) n A S (T + 1) := by
  have ht := h.tim
  have hn := h.nf.2
  have hq := h.nq
  have hl := h.lim
  have e : ∀ j, j ≠ 7 → zup w 7 (w 7 + 1) j = w j := fun j hj => zup_ne _ _ hj
  have e7 : (zup w 7 (w 7 + 1) 7).toInt = (w 7).toInt + 1 := by rw [zup_self, ti_add (by rw [ti_1]; omega), ti_1]
  exact OK.mk
    (lim := by rw [e _ (by omega)]; exact h.lim)
    (rate := by rw [e _ (by omega)]; exact h.rate)
    (mm := by
      have := h.mm
      unfold sp_mm at *
      rw [e _ (by omega), e _ (by omega)]
      exact this)
    (top := by rw [e _ (by omega)]; exact h.top)
    (wt := by rw [e _ (by omega)]; exact h.wt)
    (gen := by rw [e _ (by omega)]; exact h.gen)
    (tim := by rw [e7]; omega)
    (nq := by rw [e _ (by omega), e _ (by omega)]; exact h.nq)
    (nf := by rw [e _ (by omega)]; exact h.nf)
    (nd := by rw [e _ (by omega)]; exact h.nd)
    (fl := fun j hj => (h.fl j hj).of fun k hk => e _ (by (first | omega | (simp only [sf, sq, sd] at *; omega))))
    (qu := fun k hk => by
      rw [e 8 (by omega)] at hk
      have := h.qu k hk
      rw [e7, e (sq k 0) (by (first | omega | (simp only [sf, sq, sd] at *; omega))), e (sq k 1) (by (first | omega | (simp only [sf, sq, sd] at *; omega))), e (sq k 2) (by (first | omega | (simp only [sf, sq, sd] at *; omega)))]
      exact ⟨this.1, ⟨this.2.1.1, by omega⟩, this.2.2⟩)
    (su := by
      rw [sm_congr (w := w) fun j hj => e _ (by (first | omega | (simp only [sf, sq, sd] at *; omega)))]
      exact h.su)
theorem sm_one {w w' : Nat → Int32} {a n i : Nat} (hi : i < n) (h : ∀ j, j < n → j ≠ i → w' (sf j (18 + a)) = w (sf j (18 + a))) (h1 : (w' (sf i (18 + a))).toInt = (w (sf i (18 + a))).toInt + 1) : sm w' a n = sm w a n + 1 := by
  induction n with
  | zero => omega
  | succ n ih =>
    show sm w' a n + _ = sm w a n + _ + 1
    by_cases c : i = n
    · rw [sm_congr (w := w) (fun j hj => h j (by omega) (by omega)), ← c, h1]
      omega
    · rw [ih (by omega) (fun j hj => h j (by omega)), h n (by omega) (by omega)]
      omega
theorem sp_leave_ne {w : Nat → Int32} {k j : Nat} (h : j ≠ sf (w (sq k 0)).toInt.toNat 23) (h2 : j ≠ sf (w (sq k 0)).toInt.toNat 24) (h3 : j ≠ sf (w (sq k 0)).toInt.toNat 25) : sp_leave w k j = w j := by
  unfold sp_leave
  rw [sp_counts_ne h3, sp_counts_ne h2, sp_counts_ne h]
theorem sp_leave_23 {w : Nat → Int32} {k : Nat} : sp_leave w k (sf (w (sq k 0)).toInt.toNat 23) = w (sf (w (sq k 0)).toInt.toNat 23) + 1 := by
  unfold sp_leave
  rw [sp_counts_ne (by (first | omega | (simp only [sf, sq, sd] at *; omega))), sp_counts_ne (by (first | omega | (simp only [sf, sq, sd] at *; omega)))]
  exact sp_counts_eq (a := 5)
theorem sp_leave_24 {w : Nat → Int32} {k : Nat} : sp_leave w k (sf (w (sq k 0)).toInt.toNat 24) = w (sf (w (sq k 0)).toInt.toNat 24) + w (sq k 2) := by
  unfold sp_leave
  rw [sp_counts_ne (by (first | omega | (simp only [sf, sq, sd] at *; omega)))]
  exact (sp_counts_eq (a := 6)).trans (by rw [sp_counts_ne (by (first | omega | (simp only [sf, sq, sd] at *; omega)))])
theorem sp_leave_25 {w : Nat → Int32} {k : Nat} : sp_leave w k (sf (w (sq k 0)).toInt.toNat 25) = w (sf (w (sq k 0)).toInt.toNat 25) + (w 7 - w (sq k 1)) := by
  unfold sp_leave
  exact (sp_counts_eq (a := 7)).trans (by rw [sp_counts_ne (by (first | omega | (simp only [sf, sq, sd] at *; omega))), sp_counts_ne (by (first | omega | (simp only [sf, sq, sd] at *; omega)))])
theorem ti_bit {x : Int32} (h : x = 0 ∨ x = 1) : x.toInt = 0 ∨ x.toInt = 1 := by
  rcases h with rfl | rfl
  · exact Or.inl rfl
  · exact Or.inr rfl
theorem OK.leave {w : Nat → Int32} {n A S T k : Nat} (h : OK w n A S T) (hk : (k : Int) < (w 8).toInt) (hS : S < 200000) (hT : T ≤ 10400) : OK (sp_leave w k) n A (S + 1) T := by
  have hn := h.nf.2
  have hq := h.nq
  have hl := h.lim
  have ht := h.tim
  obtain ⟨⟨k1, k2⟩, ⟨k3, k4⟩, k5⟩ := h.qu k hk
  obtain ⟨i, hi⟩ : ∃ i : Nat, (w (sq k 0)).toInt.toNat = i := ⟨_, rfl⟩
  have hin : i < n := by omega
  have e : ∀ j, j ≠ sf i 23 → j ≠ sf i 24 → j ≠ sf i 25 → sp_leave w k j = w j := fun j h1 h2 h3 => sp_leave_ne (by rw [hi]; exact h1) (by rw [hi]; exact h2) (by rw [hi]; exact h3)
  have f := h.fl i hin
  have b := ti_bit k5
  have e23 : (sp_leave w k (sf i 23)).toInt = (w (sf i 23)).toInt + 1 := by
    have := f.a5
    rw [← hi, sp_leave_23, hi, ti_add (by rw [ti_1]; omega), ti_1]
  have e24 : (sp_leave w k (sf i 24)).toInt = (w (sf i 24)).toInt + (w (sq k 2)).toInt := by
    have := f.a5
    have := f.a6
    rw [← hi, sp_leave_24, hi, ti_add (by omega)]
  have e25 : (sp_leave w k (sf i 25)).toInt = (w (sf i 25)).toInt + ((w 7).toInt - (w (sq k 1)).toInt) := by
    have := f.a5
    have := f.a7
    rw [← hi, sp_leave_25, hi, ti_add (by rw [ti_sub (by omega)]; omega), ti_sub (by omega)]
  have q : ∀ j, (j < 16 ∨ 172 ≤ j) → sp_leave w k j = w j := fun j hj => e j (by (first | omega | (simp only [sf, sq, sd] at *; omega))) (by (first | omega | (simp only [sf, sq, sd] at *; omega))) (by (first | omega | (simp only [sf, sq, sd] at *; omega)))
  have g : ∀ k', k' < 26 → k' ≠ 23 → k' ≠ 24 → k' ≠ 25 → sp_leave w k (sf i k') = w (sf i k') := fun k' _ h1 h2 h3 => e _ (by (first | omega | (simp only [sf, sq, sd] at *; omega))) (by (first | omega | (simp only [sf, sq, sd] at *; omega))) (by (first | omega | (simp only [sf, sq, sd] at *; omega)))
  exact OK.mk
    (lim := by rw [q _ (by omega)]; exact h.lim)
    (rate := by rw [q _ (by omega)]; exact h.rate)
    (mm := by
      have := h.mm
      unfold sp_mm at *
      rw [q _ (by omega), q _ (by omega)]
      exact this)
    (top := by rw [q _ (by omega)]; exact h.top)
    (wt := by rw [q _ (by omega)]; exact h.wt)
    (gen := by rw [q _ (by omega)]; exact h.gen)
    (tim := by rw [q _ (by omega)]; exact h.tim)
    (nq := by rw [q _ (by omega), q _ (by omega)]; exact h.nq)
    (nf := by rw [q _ (by omega)]; exact h.nf)
    (nd := by rw [q _ (by omega)]; exact h.nd)
    (fl := fun j hj => by
      by_cases c : j = i
      · rw [c]
        exact FOK.mk
          (fst := by rw [g _ (by omega) (by omega) (by omega) (by omega)]; exact f.fst)
          (per := by rw [g _ (by omega) (by omega) (by omega) (by omega)]; exact f.per)
          (cap := by rw [g _ (by omega) (by omega) (by omega) (by omega)]; exact f.cap)
          (mrk := by rw [g _ (by omega) (by omega) (by omega) (by omega)]; exact f.mrk)
          (on := by rw [g _ (by omega) (by omega) (by omega) (by omega)]; exact f.on)
          (win := by rw [g _ (by omega) (by omega) (by omega) (by omega)]; exact f.win)
          (tld := by rw [g _ (by omega) (by omega) (by omega) (by omega)]; exact f.tld)
          (lng := by rw [g _ (by omega) (by omega) (by omega) (by omega)]; exact f.lng)
          (let_ := fun j hj => by
            have h9 := f.lng
            rw [g _ (by omega) (by omega) (by omega) (by omega)] at hj
            rw [g _ (by omega) (by omega) (by omega) (by omega)]
            exact f.let_ j hj)
          (a0 := by rw [g _ (by omega) (by omega) (by omega) (by omega)]; exact f.a0)
          (ar := by rw [g _ (by omega) (by omega) (by omega) (by omega), g _ (by omega) (by omega) (by omega) (by omega), g _ (by omega) (by omega) (by omega) (by omega), g _ (by omega) (by omega) (by omega) (by omega), g _ (by omega) (by omega) (by omega) (by omega)]; exact f.ar)
          (a5 := by
            have := f.a5
            rw [e23]
            omega)
          (a6 := by
            have := f.a6
            rw [e23, e24]
            omega)
          (a7 := by
            have := f.a7
            rw [e23, e25]
            omega)
      · exact ((h.fl j hj).mono (Nat.le_refl _) (Nat.le_succ S)).of fun k' hk' => e _ (by (first | omega | (simp only [sf, sq, sd] at *; omega))) (by (first | omega | (simp only [sf, sq, sd] at *; omega))) (by (first | omega | (simp only [sf, sq, sd] at *; omega))))
    (qu := fun k' hk' => by
      rw [q 8 (by omega)] at hk'
      rw [q 7 (by omega), q (sq k' 0) (by (first | omega | (simp only [sf, sq, sd] at *; omega))), q (sq k' 1) (by (first | omega | (simp only [sf, sq, sd] at *; omega))), q (sq k' 2) (by (first | omega | (simp only [sf, sq, sd] at *; omega)))]
      exact h.qu k' hk')
    (su := by
      have := h.su
      rw [sm_one (w := w) (a := 5) hin (fun j hj hj2 => e _ (by (first | omega | (simp only [sf, sq, sd] at *; omega))) (by (first | omega | (simp only [sf, sq, sd] at *; omega))) (by (first | omega | (simp only [sf, sq, sd] at *; omega)))) e23]
      omega)
theorem sp_leaves_q {w : Nat → Int32} {n A S T : Nat} (h : OK w n A S T) (hS : S + 40 ≤ 200000) (hT : T ≤ 10400) : ∀ k : Nat, (k : Int) ≤ (w 8).toInt → OK (sp_leaves w k) n A (S + k) T ∧ ∀ j, (j < 16 ∨ 172 ≤ j) → sp_leaves w k j = w j
  | 0, _ => ⟨h, fun _ _ => rfl⟩
  | k + 1, hk => by
    obtain ⟨h1, h2⟩ := sp_leaves_q h hS hT k (by omega)
    have hq := h.nq
    have hl := h.lim
    refine ⟨h1.leave (by rw [h2 8 (by omega)]; omega) (by omega) hT, fun j hj => ?_⟩
    have hk2 : (k : Int) < (sp_leaves w k 8).toInt := by rw [h2 8 (by omega)]; omega
    have hn := h1.nf.2
    have hf := (h1.qu k hk2).1
    show sp_leave (sp_leaves w k) k j = w j
    rw [sp_leave_ne (by (first | omega | (simp only [sf, sq, sd] at *; omega))) (by (first | omega | (simp only [sf, sq, sd] at *; omega))) (by (first | omega | (simp only [sf, sq, sd] at *; omega))), h2 j hj]
