/-! A PACKET ARRIVES -/
/-- the row as the packet's decision is made -/
def sp_a2 (w : Nat → Int32) (i : Nat) : Nat → Int32 := zup (sp_counts w i 0 1) 9 (sp_moved (sp_counts w i 0 1) (sp_counts w i 0 1 9) (sp_counts w i 0 1 8))
/-- between the thresholds: the row behind the decision, what came -/
def sp_bt (w : Nat → Int32) (i : Nat) : Int32 × (Nat → Int32) :=
  let w3 := zup w 10 (w 10 + 1)
  let ch := sp_chance (sp_base w3 (w3 9)) (w3 10)
  let dr := sp_drawn (sp_next (w3 13))
  let w4 := sp_draw w3
  let came : Int32 := if dr < ch then (if w4 (sf i 4) = 1 then 1 else 2) else 0
  let w5 := if dr < ch then zup w4 10 0 else w4
  (came, sp_keeps w5 (nI i) 3 (w3 10) ch dr came)
def sp_arr (w : Nat → Int32) (plain : Bool) (i : Nat) : Int32 × (Nat → Int32) :=
  let w2 := sp_a2 w i
  let how := sp_how w2 (w2 9) (w2 8)
  if plain = true ∧ how ≠ 0 then (0, sp_letsIn w2 (nI i) 0)
  else if how = 3 then
    (if (sp_bt w2 i).1 = 2 then ((sp_bt w2 i).1, sp_drops (sp_bt w2 i).2 i 2)
     else if (sp_bt w2 i).1 = 1 then ((sp_bt w2 i).1, sp_letsIn (sp_drops (sp_bt w2 i).2 i 1) (nI i) 1)
     else ((sp_bt w2 i).1, sp_letsIn (sp_bt w2 i).2 (nI i) 0))
  else if how = 1 then (0, sp_letsIn (sp_keeps (zup w2 10 (-1)) (nI i) 1 0 0 (-1) 0) (nI i) 0)
  else (2, sp_drops (sp_keeps (zup w2 10 0) (nI i) how 0 65536 (-1) 2) i (if how = 0 then 4 else 3))
theorem sp_counts_ne {w : Nat → Int32} {i a j : Nat} {m : Int32} (h : j ≠ sf i (18 + a)) : sp_counts w i a m j = w j := zup_ne _ _ h
theorem sp_counts_eq {w : Nat → Int32} {i a : Nat} {m : Int32} : sp_counts w i a m (sf i (18 + a)) = w (sf i (18 + a)) + m := zup_self _ _ _
theorem sp_keep1_ne {w : Nat → Int32} {n j : Nat} {f how count chance draw came : Int32} (h : j ≠ 12) (h2 : ¬ (292 ≤ j)) : sp_keep1 w n f how count chance draw came j = w j := by
  unfold sp_keep1
  rw [zup_ne _ _ h, zup_ne _ _ (by (first | omega | (simp only [sf, sq, sd] at *; omega))), zup_ne _ _ (by (first | omega | (simp only [sf, sq, sd] at *; omega))), zup_ne _ _ (by (first | omega | (simp only [sf, sq, sd] at *; omega))), zup_ne _ _ (by (first | omega | (simp only [sf, sq, sd] at *; omega))), zup_ne _ _ (by (first | omega | (simp only [sf, sq, sd] at *; omega))), zup_ne _ _ (by (first | omega | (simp only [sf, sq, sd] at *; omega))), zup_ne _ _ (by (first | omega | (simp only [sf, sq, sd] at *; omega))), zup_ne _ _ (by (first | omega | (simp only [sf, sq, sd] at *; omega)))]
theorem sp_keeps_ne {w : Nat → Int32} {j : Nat} {f how count chance draw came : Int32} (h : j ≠ 12) (h2 : ¬ (292 ≤ j)) : sp_keeps w f how count chance draw came j = w j := by
  unfold sp_keeps
  by_cases c : w 12 = 24
  · rw [if_pos c, sp_keep1_ne h h2, zup_ne _ _ h]
    exact if_neg (by omega)
  · rw [if_neg c, sp_keep1_ne h h2]
theorem sp_keeps_12 {w : Nat → Int32} {f how count chance draw came : Int32} (h : 0 ≤ (w 12).toInt ∧ (w 12).toInt ≤ 24) : 0 ≤ (sp_keeps w f how count chance draw came 12).toInt ∧ (sp_keeps w f how count chance draw came 12).toInt ≤ 24 := by
  unfold sp_keeps
  by_cases c : w 12 = 24
  · rw [if_pos c]
    unfold sp_keep1
    rw [zup_self, zup_self, c]
    decide
  · rw [if_neg c]
    unfold sp_keep1
    rw [zup_self]
    have c2 : (w 12).toInt ≠ 24 := fun e => c (ti_eq.mpr e)
    (first | omega | ((simp (disch := (first | omega | (simp (disch := (first | omega | (simp (disch := (first | omega | (simp (disch := omega) only [ti_add, ti_sub, ti_mul, Int32.reduceToInt, ti_n1, ti_n2, ti_n3, and_self] <;> omega))) only [ti_add, ti_sub, ti_mul, Int32.reduceToInt, ti_n1, ti_n2, ti_n3, and_self] <;> omega))) only [ti_add, ti_sub, ti_mul, Int32.reduceToInt, ti_n1, ti_n2, ti_n3, and_self] <;> omega))) only [ti_le, ti_lt, ti_eq, ti_add, ti_sub, ti_mul, Int32.reduceToInt, ti_n1, ti_n2, ti_n3, ti_cl] at *) <;> omega))
theorem sp_drops_ne {w : Nat → Int32} {i a j : Nat} (h : j ≠ sf i (18 + a)) (h2 : j ≠ sf i 7) : sp_drops w i a j = w j := by
  unfold sp_drops
  rw [zup_ne _ _ h2, sp_counts_ne h]
theorem sp_bt_ne {w : Nat → Int32} {i j : Nat} (h : j ≠ 12) (h2 : ¬ 292 ≤ j) (h3 : j ≠ 10) (h4 : j ≠ 13) : (sp_bt w i).2 j = w j := by
  unfold sp_bt
  simp only []
  rw [sp_keeps_ne h h2]
  split
  · rw [zup_ne _ _ h3]
    unfold sp_draw
    rw [zup_ne _ _ h4, zup_ne _ _ h3]
  · unfold sp_draw
    rw [zup_ne _ _ h4, zup_ne _ _ h3]
theorem sp_bt_12 {w : Nat → Int32} {i : Nat} (h : 0 ≤ (w 12).toInt ∧ (w 12).toInt ≤ 24) : 0 ≤ ((sp_bt w i).2 12).toInt ∧ ((sp_bt w i).2 12).toInt ≤ 24 := by
  unfold sp_bt
  simp only []
  refine sp_keeps_12 ?_
  split
  · rw [zup_ne _ _ (by omega)]
    unfold sp_draw
    rw [zup_ne _ _ (by omega), zup_ne _ _ (by omega)]
    exact h
  · unfold sp_draw
    rw [zup_ne _ _ (by omega), zup_ne _ _ (by omega)]
    exact h
theorem sp_bt_1 (w : Nat → Int32) (i : Nat) : (sp_bt w i).1 = 0 ∨ (sp_bt w i).1 = 1 ∨ (sp_bt w i).1 = 2 := by
  unfold sp_bt
  simp only []
  split
  · split
    · exact Or.inr (Or.inl rfl)
    · exact Or.inr (Or.inr rfl)
  · exact Or.inl rfl
theorem sp_a2_ne {w : Nat → Int32} {i j : Nat} (h : j ≠ 9) (h2 : j ≠ sf i 18) : sp_a2 w i j = w j := by
  unfold sp_a2
  rw [zup_ne _ _ h, sp_counts_ne h2]
theorem sp_a2_18 {w : Nat → Int32} {i : Nat} : sp_a2 w i (sf i 18) = w (sf i 18) + 1 := by
  unfold sp_a2
  rw [zup_ne _ _ (by (first | omega | (simp only [sf, sq, sd] at *; omega)))]
  exact sp_counts_eq (a := 0)
theorem sp_how_0 {w : Nat → Int32} {a q : Int32} (h : sp_how w a q ≠ 0) : q ≠ w 0 := fun e => h (if_pos e)
theorem sp_how_4 (w : Nat → Int32) (a q : Int32) : sp_how w a q = 0 ∨ sp_how w a q = 1 ∨ sp_how w a q = 2 ∨ sp_how w a q = 3 := by
  unfold sp_how
  split
  · exact Or.inl rfl
  · split
    · split
      · exact Or.inr (Or.inr (Or.inr rfl))
      · exact Or.inr (Or.inr (Or.inl rfl))
    · exact Or.inr (Or.inl rfl)
/-- an arrival and, it may be, a mark or a drop -/
theorem FOK.arr {g g' : Nat → Int32} {A S : Nat} (h : FOK g A S) (hA : A < 300000000) (e : ∀ k, k < 26 → k ≠ 18 → g' k = g k) (h0 : g' 18 = g 18 + 1) : FOK g' (A + 1) S := by
  have a0 := h.a0
  have ar := h.ar
  have h1 : (g' 18).toInt = (g 18).toInt + 1 := by rw [h0]; (first | omega | ((simp (disch := (first | omega | (simp (disch := (first | omega | (simp (disch := (first | omega | (simp (disch := omega) only [ti_add, ti_sub, ti_mul, Int32.reduceToInt, ti_n1, ti_n2, ti_n3, and_self] <;> omega))) only [ti_add, ti_sub, ti_mul, Int32.reduceToInt, ti_n1, ti_n2, ti_n3, and_self] <;> omega))) only [ti_add, ti_sub, ti_mul, Int32.reduceToInt, ti_n1, ti_n2, ti_n3, and_self] <;> omega))) only [ti_le, ti_lt, ti_eq, ti_add, ti_sub, ti_mul, Int32.reduceToInt, ti_n1, ti_n2, ti_n3, ti_cl] at *) <;> omega))
  exact FOK.mk
    (fst := by rw [e _ (by omega) (by omega)]; exact h.fst)
    (per := by rw [e _ (by omega) (by omega)]; exact h.per)
    (cap := by rw [e _ (by omega) (by omega)]; exact h.cap)
    (mrk := by rw [e _ (by omega) (by omega)]; exact h.mrk)
    (on := by rw [e _ (by omega) (by omega)]; exact h.on)
    (win := by rw [e _ (by omega) (by omega)]; exact h.win)
    (tld := by rw [e _ (by omega) (by omega)]; exact h.tld)
    (lng := by rw [e _ (by omega) (by omega)]; exact h.lng)
    (let_ := fun j hj => by
      rw [e _ (by omega) (by omega)] at hj
      have := h.lng
      rw [e _ (by omega) (by omega)]
      exact h.let_ j hj)
    (a0 := by rw [h1]; omega)
    (ar := by rw [e _ (by omega) (by omega), e _ (by omega) (by omega), e _ (by omega) (by omega), e _ (by omega) (by omega), h1]; omega)
    (a5 := by rw [e _ (by omega) (by omega)]; exact h.a5)
    (a6 := by rw [e _ (by omega) (by omega), e _ (by omega) (by omega)]; exact h.a6)
    (a7 := by rw [e _ (by omega) (by omega), e _ (by omega) (by omega)]; exact h.a7)
theorem FOK.drop {g g' : Nat → Int32} {A S a : Nat} (h : FOK g A S) (hA : A < 300000000) (ha : 1 ≤ a ∧ a ≤ 4) (e : ∀ k, k < 26 → k ≠ 18 → k ≠ 7 → k ≠ 18 + a → g' k = g k) (h0 : g' 18 = g 18 + 1) (h2 : g' (18 + a) = g (18 + a) + 1) (h7 : g' 7 = 1) : FOK g' (A + 1) S := by
  have a0 := h.a0
  have ar := h.ar
  have h1 : (g' 18).toInt = (g 18).toInt + 1 := by rw [h0, ti_add (by rw [ti_1]; omega), ti_1]
  exact FOK.mk
    (fst := by rw [e _ (by omega) (by omega) (by omega) (by omega)]; exact h.fst)
    (per := by rw [e _ (by omega) (by omega) (by omega) (by omega)]; exact h.per)
    (cap := by rw [e _ (by omega) (by omega) (by omega) (by omega)]; exact h.cap)
    (mrk := by rw [e _ (by omega) (by omega) (by omega) (by omega)]; exact h.mrk)
    (on := by rw [e _ (by omega) (by omega) (by omega) (by omega)]; exact h.on)
    (win := by rw [e _ (by omega) (by omega) (by omega) (by omega)]; exact h.win)
    (tld := Or.inr h7)
    (lng := by rw [e _ (by omega) (by omega) (by omega) (by omega)]; exact h.lng)
    (let_ := fun j hj => by
      rw [e _ (by omega) (by omega) (by omega) (by omega)] at hj
      have := h.lng
      rw [e _ (by omega) (by omega) (by omega) (by omega)]
      exact h.let_ j hj)
    (a0 := by rw [h1]; omega)
    (ar := by
      rcases (show a = 1 ∨ a = 2 ∨ a = 3 ∨ a = 4 by omega) with rfl | rfl | rfl | rfl
      · have h3 : (g' 19).toInt = (g 19).toInt + 1 := by rw [show g' 19 = g 19 + 1 from h2, ti_add (by rw [ti_1]; omega), ti_1]
        rw [h3, e 20 (by omega) (by omega) (by omega) (by omega), e 21 (by omega) (by omega) (by omega) (by omega), e 22 (by omega) (by omega) (by omega) (by omega), h1]; omega
      · have h3 : (g' 20).toInt = (g 20).toInt + 1 := by rw [show g' 20 = g 20 + 1 from h2, ti_add (by rw [ti_1]; omega), ti_1]
        rw [h3, e 19 (by omega) (by omega) (by omega) (by omega), e 21 (by omega) (by omega) (by omega) (by omega), e 22 (by omega) (by omega) (by omega) (by omega), h1]; omega
      · have h3 : (g' 21).toInt = (g 21).toInt + 1 := by rw [show g' 21 = g 21 + 1 from h2, ti_add (by rw [ti_1]; omega), ti_1]
        rw [h3, e 19 (by omega) (by omega) (by omega) (by omega), e 20 (by omega) (by omega) (by omega) (by omega), e 22 (by omega) (by omega) (by omega) (by omega), h1]; omega
      · have h3 : (g' 22).toInt = (g 22).toInt + 1 := by rw [show g' 22 = g 22 + 1 from h2, ti_add (by rw [ti_1]; omega), ti_1]
        rw [h3, e 19 (by omega) (by omega) (by omega) (by omega), e 20 (by omega) (by omega) (by omega) (by omega), e 21 (by omega) (by omega) (by omega) (by omega), h1]; omega)
    (a5 := by rw [e _ (by omega) (by omega) (by omega) (by omega)]; exact h.a5)
    (a6 := by rw [e _ (by omega) (by omega) (by omega) (by omega), e _ (by omega) (by omega) (by omega) (by omega)]; exact h.a6)
    (a7 := by rw [e _ (by omega) (by omega) (by omega) (by omega), e _ (by omega) (by omega) (by omega) (by omega)]; exact h.a7)
/-- the row of a packet that arrived keeps the invariant, before it is let in -/
theorem OK.arr1 {w w' : Nat → Int32} {n A S T i : Nat} (h : OK w n A S T) (hA : A < 300000000) (hi : i < n) (e : ∀ j, j < 292 → j ≠ 9 → j ≠ 10 → j ≠ 13 → j ≠ 12 → j ≠ sf i 18 → w' j = w j) (h18 : w' (sf i 18) = w (sf i 18) + 1) (hd : 0 ≤ (w' 12).toInt ∧ (w' 12).toInt ≤ 24) : OK w' n (A + 1) S T := by
  have hn := h.nf.2
  refine h.upd hi (Nat.le_succ A) (fun j h1 h2 => ?_) hd ((h.fl i hi).arr hA (fun k hk hk2 => ?_) h18) (e _ (by (first | omega | (simp only [sf, sq, sd] at *; omega))) (by (first | omega | (simp only [sf, sq, sd] at *; omega))) (by (first | omega | (simp only [sf, sq, sd] at *; omega))) (by (first | omega | (simp only [sf, sq, sd] at *; omega))) (by (first | omega | (simp only [sf, sq, sd] at *; omega))) (by (first | omega | (simp only [sf, sq, sd] at *; omega))))
  · exact e j (by omega) (by omega) (by omega) (by omega) (by omega) (by (first | omega | (simp only [sf, sq, sd] at *; omega)))
  · exact e _ (by (first | omega | (simp only [sf, sq, sd] at *; omega))) (by (first | omega | (simp only [sf, sq, sd] at *; omega))) (by (first | omega | (simp only [sf, sq, sd] at *; omega))) (by (first | omega | (simp only [sf, sq, sd] at *; omega))) (by (first | omega | (simp only [sf, sq, sd] at *; omega))) (by (first | omega | (simp only [sf, sq, sd] at *; omega)))
theorem OK.arr2 {w w' : Nat → Int32} {n A S T i a : Nat} (h : OK w n A S T) (hA : A < 300000000) (hi : i < n) (ha : 1 ≤ a ∧ a ≤ 4) (e : ∀ j, j < 292 → j ≠ 9 → j ≠ 10 → j ≠ 13 → j ≠ 12 → j ≠ sf i 18 → w' j = w j) (h18 : w' (sf i 18) = w (sf i 18) + 1) (hd : 0 ≤ (w' 12).toInt ∧ (w' 12).toInt ≤ 24) : OK (sp_drops w' i a) n (A + 1) S T := by
  have hn := h.nf.2
  refine h.upd hi (Nat.le_succ A) (fun j h1 h2 => ?_) ?_ ((h.fl i hi).drop hA ha (fun k hk hk2 hk3 hk4 => ?_) ?_ ?_ ?_) ?_
  · rw [sp_drops_ne (by (first | omega | (simp only [sf, sq, sd] at *; omega))) (by (first | omega | (simp only [sf, sq, sd] at *; omega)))]
    exact e j (by omega) (by omega) (by omega) (by omega) (by omega) (by (first | omega | (simp only [sf, sq, sd] at *; omega)))
  · rw [sp_drops_ne (by (first | omega | (simp only [sf, sq, sd] at *; omega))) (by (first | omega | (simp only [sf, sq, sd] at *; omega)))]
    exact hd
  · rw [sp_drops_ne (by (first | omega | (simp only [sf, sq, sd] at *; omega))) (by (first | omega | (simp only [sf, sq, sd] at *; omega)))]
    exact e _ (by (first | omega | (simp only [sf, sq, sd] at *; omega))) (by (first | omega | (simp only [sf, sq, sd] at *; omega))) (by (first | omega | (simp only [sf, sq, sd] at *; omega))) (by (first | omega | (simp only [sf, sq, sd] at *; omega))) (by (first | omega | (simp only [sf, sq, sd] at *; omega))) (by (first | omega | (simp only [sf, sq, sd] at *; omega)))
  · rw [sp_drops_ne (by (first | omega | (simp only [sf, sq, sd] at *; omega))) (by (first | omega | (simp only [sf, sq, sd] at *; omega)))]
    exact h18
  · show sp_drops w' i a (sf i (18 + a)) = _
    unfold sp_drops
    rw [zup_ne _ _ (by (first | omega | (simp only [sf, sq, sd] at *; omega))), sp_counts_eq, e _ (by (first | omega | (simp only [sf, sq, sd] at *; omega))) (by (first | omega | (simp only [sf, sq, sd] at *; omega))) (by (first | omega | (simp only [sf, sq, sd] at *; omega))) (by (first | omega | (simp only [sf, sq, sd] at *; omega))) (by (first | omega | (simp only [sf, sq, sd] at *; omega))) (by (first | omega | (simp only [sf, sq, sd] at *; omega)))]
  · exact zup_self _ _ _
  · rw [sp_drops_ne (by (first | omega | (simp only [sf, sq, sd] at *; omega))) (by (first | omega | (simp only [sf, sq, sd] at *; omega)))]
    exact e _ (by (first | omega | (simp only [sf, sq, sd] at *; omega))) (by (first | omega | (simp only [sf, sq, sd] at *; omega))) (by (first | omega | (simp only [sf, sq, sd] at *; omega))) (by (first | omega | (simp only [sf, sq, sd] at *; omega))) (by (first | omega | (simp only [sf, sq, sd] at *; omega))) (by (first | omega | (simp only [sf, sq, sd] at *; omega)))
set_option maxRecDepth 4000 in
theorem OK.arr {w : Nat → Int32} {n A S T i : Nat} {plain : Bool} (h : OK w n A S T) (hA : A < 300000000) (hi : i < n) : OK (sp_arr w plain i).2 n (A + 1) S T ∧ ((sp_arr w plain i).1 = 0 ∨ (sp_arr w plain i).1 = 1 ∨ (sp_arr w plain i).1 = 2) := by
  have hn := h.nf.2
  have hq := h.nq
  have hI : 0 ≤ (nI i).toInt ∧ (nI i).toInt < n := by rw [ti_nI (by omega)]; omega
  have q8 : sp_a2 w i 8 = w 8 := sp_a2_ne (by omega) (by (first | omega | (simp only [sf, sq, sd] at *; omega)))
  have q0 : sp_a2 w i 0 = w 0 := sp_a2_ne (by omega) (by (first | omega | (simp only [sf, sq, sd] at *; omega)))
  have q12 : 0 ≤ (sp_a2 w i 12).toInt ∧ (sp_a2 w i 12).toInt ≤ 24 := by rw [sp_a2_ne (by omega) (by (first | omega | (simp only [sf, sq, sd] at *; omega)))]; exact h.nd
  unfold sp_arr
  simp only []
  have hlt : sp_how (sp_a2 w i) (sp_a2 w i 9) (sp_a2 w i 8) ≠ 0 → (w 8).toInt < (w 0).toInt := fun hc => by
    have h1 := sp_how_0 hc
    rw [q8, q0] at h1
    have h2 : (w 8).toInt ≠ (w 0).toInt := fun e => h1 (ti_eq.mpr e)
    omega
  split
  · next c =>
    refine ⟨OK.push (h.arr1 hA hi (fun j h1 h2 _ _ _ h6 => sp_a2_ne h2 h6) sp_a2_18 q12) ?_ hI (Or.inl rfl), Or.inl rfl⟩
    rw [q8, q0]
    exact hlt c.2
  · split
    · next c1 c =>
      have e2 : ∀ j, j < 292 → j ≠ 9 → j ≠ 10 → j ≠ 13 → j ≠ 12 → j ≠ sf i 18 → (sp_bt (sp_a2 w i) i).2 j = w j := fun j h1 h2 h3 h4 h5 h6 => by
        rw [sp_bt_ne h5 (by omega) h3 h4, sp_a2_ne h2 h6]
      have e18 : (sp_bt (sp_a2 w i) i).2 (sf i 18) = w (sf i 18) + 1 := by
        rw [sp_bt_ne (by (first | omega | (simp only [sf, sq, sd] at *; omega))) (by (first | omega | (simp only [sf, sq, sd] at *; omega))) (by (first | omega | (simp only [sf, sq, sd] at *; omega))) (by (first | omega | (simp only [sf, sq, sd] at *; omega))), sp_a2_18]
      have hl2 := hlt (by rw [c]; decide)
      split
      · next c2 =>
        dsimp only
        exact ⟨h.arr2 hA hi (by omega) e2 e18 (sp_bt_12 q12), Or.inr (Or.inr c2)⟩
      · split
        · next c3 =>
          dsimp only
          refine ⟨OK.push (h.arr2 (w' := (sp_bt (sp_a2 w i) i).2) hA hi (by omega) e2 e18 (sp_bt_12 q12)) ?_ hI (Or.inr rfl), Or.inr (Or.inl c3)⟩
          rw [sp_drops_ne (by (first | omega | (simp only [sf, sq, sd] at *; omega))) (by (first | omega | (simp only [sf, sq, sd] at *; omega))), sp_drops_ne (by (first | omega | (simp only [sf, sq, sd] at *; omega))) (by (first | omega | (simp only [sf, sq, sd] at *; omega))), e2 8 (by omega) (by omega) (by omega) (by omega) (by omega) (by (first | omega | (simp only [sf, sq, sd] at *; omega))), e2 0 (by omega) (by omega) (by omega) (by omega) (by omega) (by (first | omega | (simp only [sf, sq, sd] at *; omega)))]
          exact hl2
        · next c2 c3 =>
          dsimp only
          refine ⟨OK.push (h.arr1 (w' := (sp_bt (sp_a2 w i) i).2) hA hi e2 e18 (sp_bt_12 q12)) ?_ hI (Or.inl rfl), sp_bt_1 _ _⟩
          rw [e2 8 (by omega) (by omega) (by omega) (by omega) (by omega) (by (first | omega | (simp only [sf, sq, sd] at *; omega))), e2 0 (by omega) (by omega) (by omega) (by omega) (by omega) (by (first | omega | (simp only [sf, sq, sd] at *; omega)))]
          exact hl2
    · have e2 : ∀ (v f a b c d r : Int32), ∀ j, j < 292 → j ≠ 9 → j ≠ 10 → j ≠ 13 → j ≠ 12 → j ≠ sf i 18 → sp_keeps (zup (sp_a2 w i) 10 v) f a b c d r j = w j := fun v f a b c d r j h1 h2 h3 h4 h5 h6 => by
        rw [sp_keeps_ne h5 (by omega), zup_ne _ _ h3, sp_a2_ne h2 h6]
      have e18 : ∀ (v f a b c d r : Int32), sp_keeps (zup (sp_a2 w i) 10 v) f a b c d r (sf i 18) = w (sf i 18) + 1 := fun v f a b c d r => by
        rw [sp_keeps_ne (by (first | omega | (simp only [sf, sq, sd] at *; omega))) (by (first | omega | (simp only [sf, sq, sd] at *; omega))), zup_ne _ _ (by (first | omega | (simp only [sf, sq, sd] at *; omega))), sp_a2_18]
      have e12 : ∀ (v f a b c d r : Int32), 0 ≤ (sp_keeps (zup (sp_a2 w i) 10 v) f a b c d r 12).toInt ∧ (sp_keeps (zup (sp_a2 w i) 10 v) f a b c d r 12).toInt ≤ 24 := fun v f a b c d r => sp_keeps_12 (by rw [zup_ne _ _ (by omega)]; exact q12)
      split
      · next c =>
        refine ⟨OK.push (h.arr1 hA hi (e2 (-1) (nI i) 1 0 0 (-1) 0) (e18 (-1) (nI i) 1 0 0 (-1) 0) (e12 (-1) (nI i) 1 0 0 (-1) 0)) ?_ hI (Or.inl rfl), Or.inl rfl⟩
        rw [e2 (-1) (nI i) 1 0 0 (-1) 0 8 (by omega) (by omega) (by omega) (by omega) (by omega) (by (first | omega | (simp only [sf, sq, sd] at *; omega))), e2 (-1) (nI i) 1 0 0 (-1) 0 0 (by omega) (by omega) (by omega) (by omega) (by omega) (by (first | omega | (simp only [sf, sq, sd] at *; omega)))]
        exact hlt (by rw [c]; decide)
      · generalize sp_how (sp_a2 w i) (sp_a2 w i 9) (sp_a2 w i 8) = how
        refine ⟨h.arr2 hA hi (by split <;> omega) (e2 0 (nI i) how 0 65536 (-1) 2) (e18 0 (nI i) how 0 65536 (-1) 2) (e12 0 (nI i) how 0 65536 (-1) 2), Or.inr (Or.inr rfl)⟩
section
variable {l : Launch} {G : zG} {M : zM}
set_option maxRecDepth 4000 in
theorem R_arr {i n A S T : Nat} {plain : Bool} {Kf : Int32 → zM → Prop} (hO : OK (zmI M 31 0) n A S T) (hi : i < n) (hp : zmI M 30 0 8 = if plain then 1 else 0)
    (h : Kf (sp_arr (zmI M 31 0) plain i).1 (zsIr M 31 0 (sp_arr (zmI M 31 0) plain i).2)) : zCalI l G Y_X9_arrives 0 0 [vr 30 0, vi (nI i)] M Kf := by
  have hn := hO.nf.2
  have hq := hO.nq
  have hl := hO.lim
  have hI : (nI i).toInt = i := ti_nI (by omega)
  refine zm_X9_arrives (R_counts hI (k := 0) rfl (by (first | omega | (simp only [sf, sq, sd] at *; omega))) (R_moved ?_))
  (simp only [zsI1, zsI2])
  refine R_how ?_
  have ha2 : zup (sp_counts (zmI M 31 0) i 0 1) 9 (sp_moved (sp_counts (zmI M 31 0) i 0 1) (sp_counts (zmI M 31 0) i 0 1 9) (sp_counts (zmI M 31 0) i 0 1 8)) = sp_a2 (zmI M 31 0) i := rfl
  have z30 : ∀ f : Nat → Int32, (zsIr M 31 0 f).1 30 0 = M.1 30 0 := fun f => zsIo _ _ _ _ 30 0 (by omega)
  simp only [zsI1, zsI2, z30, ha2]
  rw [show M.1 30 0 8 = zmI M 30 0 8 from rfl, hp]
  unfold sp_arr at h
  simp only [] at h
  have q8 : sp_a2 (zmI M 31 0) i 8 = zmI M 31 0 8 := sp_a2_ne (by omega) (by (first | omega | (simp only [sf, sq, sd] at *; omega)))
  have q12 : sp_a2 (zmI M 31 0) i 12 = zmI M 31 0 12 := sp_a2_ne (by omega) (by (first | omega | (simp only [sf, sq, sd] at *; omega)))
  have qm : sp_mm (sp_a2 (zmI M 31 0) i) := by
    have := hO.mm
    unfold sp_mm at *
    rw [sp_a2_ne (by omega) (by (first | omega | (simp only [sf, sq, sd] at *; omega))), sp_a2_ne (by omega) (by (first | omega | (simp only [sf, sq, sd] at *; omega)))]
    exact this
  generalize hw2 : sp_a2 (zmI M 31 0) i = w2 at *
  generalize hhow : sp_how w2 (w2 9) (w2 8) = how at *
  have h4 : how = 0 ∨ how = 1 ∨ how = 2 ∨ how = 3 := hhow ▸ sp_how_4 _ _ _
  have hq8 : 0 ≤ (w2 8).toInt ∧ (w2 8).toInt ≤ 40 := by rw [q8]; omega
  have tail : ∀ (came cnt ch dr : Int32) (w5 : Nat → Int32), (0 ≤ (w5 12).toInt ∧ (w5 12).toInt ≤ 24) → w5 8 = w2 8 → sp_bt w2 i = (came, sp_keeps w5 (nI i) 3 cnt ch dr came) →
      (Kf (if (sp_bt w2 i).1 = 2 then ((sp_bt w2 i).1, sp_drops (sp_bt w2 i).2 i 2) else if (sp_bt w2 i).1 = 1 then ((sp_bt w2 i).1, sp_letsIn (sp_drops (sp_bt w2 i).2 i 1) (nI i) 1) else ((sp_bt w2 i).1, sp_letsIn (sp_bt w2 i).2 (nI i) 0)).1
        (zsIr M 31 0 (if (sp_bt w2 i).1 = 2 then ((sp_bt w2 i).1, sp_drops (sp_bt w2 i).2 i 2) else if (sp_bt w2 i).1 = 1 then ((sp_bt w2 i).1, sp_letsIn (sp_drops (sp_bt w2 i).2 i 1) (nI i) 1) else ((sp_bt w2 i).1, sp_letsIn (sp_bt w2 i).2 (nI i) 0)).2)) →
      zCalV l G Y_X9_keeps 0 0 [vr 30 0, vi (nI i), vi 3, vi cnt, vi ch, vi dr, vi came] (zsIr M 31 0 w5) (fun M13 =>
        (¬ came = 2 → (¬ came = 1 → zAt l G Y_X9_arrives (zEI G Y_X9_arrives Kf) 246 [(0, vr 30 0), (1, vi (nI i)), (6, vi came)] [] M13 0 0) ∧ (came = 1 → zCalV l G Y_X9_drops 0 0 [vr 30 0, vi (nI i), vi 1] M13 fun M14 => zAt l G Y_X9_arrives (zEI G Y_X9_arrives Kf) 246 [(0, vr 30 0), (1, vi (nI i)), (6, vi came)] [] M14 0 0)) ∧
        (came = 2 → zCalV l G Y_X9_drops 0 0 [vr 30 0, vi (nI i), vi 2] M13 fun M15 => Kf came M15)) := by
    intro came cnt ch dr w5 h12 h8 hb h
    rw [hb] at h
    simp only [] at h
    refine R_keeps (by (simp only [zsI1, zsI2]); exact h12) ?_
    (simp only [zsI1, zsI2])
    have k8 : ∀ (f how count chance draw came : Int32), sp_keeps w5 f how count chance draw came 8 = w2 8 := fun f how count chance draw came => by rw [sp_keeps_ne (by omega) (by omega), h8]
    refine ⟨fun c2 => ⟨fun c1 => ?_, fun c1 => ?_⟩, fun c2 => ?_⟩
    · rw [if_neg c2, if_neg c1] at h
      refine zb_X9_arrives_246 ⟨fun _ => zb_X9_arrives_259 (R_letsIn ?_ (Or.inl rfl) ?_), fun c => absurd c c1⟩
      · (simp only [zsI1, zsI2])
        rw [k8]
        omega
      · (simp only [zsI1, zsI2])
        exact h
    · rw [if_neg c2, if_pos c1] at h
      refine R_drops hI (k := 1) rfl (by omega) (by omega) ?_
      (simp only [zsI1, zsI2])
      refine zb_X9_arrives_246 ⟨fun c => absurd c1 c, fun _ => zb_X9_arrives_259 (R_letsIn ?_ (Or.inr rfl) ?_)⟩
      · (simp only [zsI1, zsI2])
        rw [sp_drops_ne (by (first | omega | (simp only [sf, sq, sd] at *; omega))) (by (first | omega | (simp only [sf, sq, sd] at *; omega))), k8]
        omega
      · (simp only [zsI1, zsI2])
        exact h
    · rw [if_pos c2] at h
      refine R_drops hI (k := 2) rfl (by omega) (by omega) ?_
      (simp only [zsI1, zsI2])
      exact h
  have main : ¬ (plain = true ∧ how ≠ 0) → zAt l G Y_X9_arrives (zEI G Y_X9_arrives Kf) 70 [(0, vr 30 0), (1, vi (nI i)), (2, vi how)] [] (zsIr M 31 0 w2) 0 0 := by
    intro hc
    rw [if_neg hc] at h
    refine zb_X9_arrives_70 ⟨fun c3 => ?_, fun c3 => ?_⟩
    · rw [if_pos c3] at h
      (simp only [zsI1, zsI2])
      refine R_base (by (simp only [zsI1, zsI2]); exact qm) (R_chance (R_draws (R_between hI (by omega) ?_)))
      (simp only [zsI1, zsI2])
      have d12 : sp_draw (zup w2 10 (w2 10 + 1)) 12 = w2 12 := by
        unfold sp_draw
        rw [zup_ne _ _ (by omega), zup_ne _ _ (by omega)]
      have d8 : sp_draw (zup w2 10 (w2 10 + 1)) 8 = w2 8 := by
        unfold sp_draw
        rw [zup_ne _ _ (by omega), zup_ne _ _ (by omega)]
      have hnd := hO.nd
      rw [c3]
      generalize hch : sp_chance (sp_base (zup w2 10 (w2 10 + 1)) (zup w2 10 (w2 10 + 1) 9)) (zup w2 10 (w2 10 + 1) 10) = ch
      generalize hdr : sp_drawn (sp_next (zup w2 10 (w2 10 + 1) 13)) = dr
      rcases Classical.em (dr < ch) with hd | hd
      · rw [if_pos hd]
        refine tail _ _ _ _ _ ?_ ?_ ?_ h
        · rw [zup_ne _ _ (by omega), d12, q12]
          exact hnd
        · rw [zup_ne _ _ (by omega), d8]
        · unfold sp_bt
          simp only []
          rw [hch, hdr, if_pos hd, if_pos hd]
      · rw [if_neg hd]
        refine tail _ _ _ _ _ ?_ ?_ ?_ h
        · rw [d12, q12]
          exact hnd
        · rw [d8]
        · unfold sp_bt
          simp only []
          rw [hch, hdr, if_neg hd, if_neg hd]
    · rw [if_neg c3] at h
      have t118 : ∀ (came chh : Int32) (v : Int32), Kf came (zsIr M 31 0 (if how = 1 then sp_letsIn (sp_keeps (zup w2 10 v) (nI i) how 0 chh (-1) came) (nI i) 0 else sp_drops (sp_keeps (zup w2 10 v) (nI i) how 0 chh (-1) came) i (if how = 0 then 4 else 3))) →
          zAt l G Y_X9_arrives (zEI G Y_X9_arrives Kf) 118 [(0, vr 30 0), (1, vi (nI i)), (2, vi how), (3, vi came)] [vi chh, vi 0, vi how, vi (nI i), vr 30 0] (zsIr M 31 0 (zup w2 10 v)) 0 0 := by
        intro came chh v hk
        refine zb_X9_arrives_118 (R_keeps ?_ ?_)
        · (simp only [zsI1, zsI2])
          rw [zup_ne _ _ (by omega), q12]
          exact hO.nd
        · (simp only [zsI1, zsI2])
          refine ⟨fun c1 => ⟨fun c0 => ?_, fun c0 => ?_⟩, fun c1 => ?_⟩
          · rw [if_neg c1, if_neg c0] at hk
            refine zb_X9_arrives_148 (R_drops hI (k := 3) rfl (by omega) (by omega) ?_)
            (simp only [zsI1, zsI2])
            exact hk
          · rw [if_neg c1, if_pos c0] at hk
            refine zb_X9_arrives_148 (R_drops hI (k := 4) rfl (by omega) (by omega) ?_)
            (simp only [zsI1, zsI2])
            exact hk
          · rw [if_pos c1] at hk
            refine R_letsIn ?_ (Or.inl rfl) ?_
            · (simp only [zsI1, zsI2])
              rw [sp_keeps_ne (by omega) (by omega), zup_ne _ _ (by omega)]
              omega
            · (simp only [zsI1, zsI2])
              exact hk
      refine ⟨fun c1 => ?_, fun c1 => ?_⟩
      · rw [if_neg c1] at h
        refine zb_X9_arrives_91 ⟨ti_in (by decide), ⟨fun _ => ?_, fun c => absurd c c1⟩⟩
        (simp only [zsI1, zsI2])
        refine zb_X9_arrives_102 ⟨fun _ => t118 2 65536 0 ?_, fun c => absurd c c1⟩
        rw [if_neg c1]
        exact h
      · rw [if_pos c1] at h
        refine zb_X9_arrives_91 ⟨ti_in (by decide), ⟨fun c => absurd c1 c, fun _ => ?_⟩⟩
        (simp only [zsI1, zsI2])
        refine zb_X9_arrives_102 ⟨fun c => absurd c1 c, fun _ => t118 0 0 (-1) ?_⟩
        rw [if_pos c1, c1]
        exact h
  refine ⟨fun c => main fun ⟨h1, _⟩ => ?_, fun c => ⟨fun c0 => main fun ⟨_, h1⟩ => absurd c0 h1, fun c0 => ?_⟩⟩
  · rw [h1] at c
    exact absurd c (by decide)
  · have hpl : plain = true := by
      cases plain
      · exact absurd rfl c
      · rfl
    rw [if_pos ⟨hpl, c0⟩] at h
    refine R_letsIn ?_ (Or.inl rfl) ?_
    · (simp only [zsI1, zsI2])
      omega
    · (simp only [zsI1, zsI2])
      exact h
end
