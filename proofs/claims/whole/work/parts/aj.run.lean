/-! RUN, the pair -/
section
variable {l : Launch} {G : zG} {M M0 Mz M' : zM} {A : Nat} {b : Nat → Int32} {F : Nat} {S S' : Nat × Int32 × Int32} {w w' f Q Q0 : Nat → Int32} {t : Int32}
variable {n told L a : Nat} {sk r : List Nat} {st : Nat → List Nat} {o z : Nat → Int32} {Y : SY}
theorem eb_g (h : eb S) : eb (g_f b F w S) := by
  unfold g_f
  refine eb_exp (pif_ind (P := eb) (fun _ => pif_ind (P := eb) (fun _ => h) fun _ => eb_fail h ⟨by decide, by decide⟩) fun _ => eb_fail h ⟨by decide, by decide⟩)
theorem eb_onum {kd : Int32} (h : eb S) : eb (o_num b F w kd S).2.2 := by
  unfold o_num
  by_cases c0 : kd = 0
  · rw [if_pos c0]
    exact eb_num (S := S) h
  rw [if_neg c0]
  by_cases c1 : kd = 1
  · rw [if_pos c1]
    exact eb_num (S := g_f b F w S) (eb_g h)
  rw [if_neg c1]
  by_cases c2 : kd = 2
  · rw [if_pos c2]
    exact eb_num (S := (t_num b F 0 39 S).2) (eb_num (S := S) h)
  rw [if_neg c2]
  by_cases c3 : kd = 3
  · rw [if_pos c3]
    exact eb_num (S := S) h
  rw [if_neg c3]
  by_cases c4 : kd = 4
  · rw [if_pos c4]
    exact eb_num (S := S) h
  rw [if_neg c4]
  by_cases c5 : kd = 5
  · rw [if_pos c5]
    exact eb_num (S := S) h
  rw [if_neg c5]
  by_cases c8 : kd = 8
  · rw [if_pos c8]
    exact eb_num (S := S) h
  rw [if_neg c8]
  exact eb_g h
theorem eb_open {dp : Nat} (h : eb S) : eb (y_open b F dp S) := by
  unfold y_open
  refine eb_exp ?_
  split
  · exact eb_fail h ⟨by decide, by decide⟩
  · exact h
theorem eb_word (h : eb S) : eb (y_word b F told S) := by
  unfold y_word
  refine eb_exp ?_
  split
  · exact eb_fail h ⟨by decide, by decide⟩
  · split
    · exact eb_fail h ⟨by decide, by decide⟩
    · exact h
theorem eb_order (h : eb Y.1) : eb (y_order b F w Y).1 := by
  show eb (if _ then _ else _)
  split
  · exact eb_open (eb_onum (eb_word h))
  · exact eb_exp (eb_onum (eb_word h))
theorem eb_close (h : eb Y.1) : eb (y_close b F Y).1 := eb_exp (S := t_exp b F 5 Y.1) (eb_exp h)
theorem eb_step (h : eb Y.1) : eb (y_step b F w Y).1 := by
  unfold y_step
  split
  · exact eb_close h
  · exact eb_order h
theorem eb_yloop : ∀ (d : Nat) (Y : SY), eb Y.1 → eb (y_loop b F w d Y).1 := by
  intro d
  induction d with
  | zero => exact fun Y h => h
  | succ d ih =>
    intro Y h
    unfold y_loop
    split
    · exact ih _ (eb_step h)
    · exact h
theorem eb_all : eb (y_all b F w).1 := eb_yloop 501 _ (eb_c ⟨by decide, by decide⟩)
/-- without an error, the place of one is as it was -/
theorem ea_g (h : (g_f b F w S).2.1 = 0) : (g_f b F w S).2.2 = S.2.2 := by
  obtain ⟨g0, g1, g2⟩ := g_f_0 h
  have e1 := ea_exp (S := pif (rd_kd b F S.1 = 1 ∧ rd_e b F S.1 - S.1 ≤ 8) (pif (rd_has b F w S.1) S (t_fail 4 S)) (t_fail 1 S)) h
  have e2 := t_exp_0 h
  refine e1.trans ?_
  rcases Classical.em (rd_kd b F S.1 = 1 ∧ rd_e b F S.1 - S.1 ≤ 8) with c | c
  · rw [pif_pos c, pif_pos g2]
  · rw [pif_neg c] at e2
    unfold t_fail at e2
    rw [if_pos g0] at e2
    exact absurd (show (1 : Int32) = 0 from e2) (by decide)
theorem ea_onum {kd : Int32} (h : (o_num b F w kd S).2.2.2.1 = 0) : (o_num b F w kd S).2.2.2.2 = S.2.2 := by
  unfold o_num at h ⊢
  by_cases c0 : kd = 0
  · rw [if_pos c0] at h ⊢
    exact ea_num (S := S) h
  rw [if_neg c0] at h ⊢
  by_cases c1 : kd = 1
  · rw [if_pos c1] at h ⊢
    exact (ea_num (S := g_f b F w S) h).trans (ea_g (t_num_0 (S := g_f b F w S) h))
  rw [if_neg c1] at h ⊢
  by_cases c2 : kd = 2
  · rw [if_pos c2] at h ⊢
    exact (ea_num (S := (t_num b F 0 39 S).2) h).trans (ea_num (S := S) (t_num_0 (S := (t_num b F 0 39 S).2) h))
  rw [if_neg c2] at h ⊢
  by_cases c3 : kd = 3
  · rw [if_pos c3] at h ⊢
    exact ea_num (S := S) h
  rw [if_neg c3] at h ⊢
  by_cases c4 : kd = 4
  · rw [if_pos c4] at h ⊢
    exact ea_num (S := S) h
  rw [if_neg c4] at h ⊢
  by_cases c5 : kd = 5
  · rw [if_pos c5] at h ⊢
    exact ea_num (S := S) h
  rw [if_neg c5] at h ⊢
  by_cases c8 : kd = 8
  · rw [if_pos c8] at h ⊢
    exact ea_num (S := S) h
  rw [if_neg c8] at h ⊢
  exact ea_g h
theorem ea_open {dp : Nat} (h : (y_open b F dp S).2.1 = 0) : (y_open b F dp S).2.2 = S.2.2 := by
  obtain ⟨h0, h1, h2⟩ := y_open_0 h
  have e : y_open b F dp S = t_exp b F 4 S := by
    unfold y_open
    rw [if_neg fun q => by omega]
  rw [e] at h ⊢
  exact ea_exp h
theorem ea_order (h : (y_order b F w Y).1.2.1 = 0) : (y_order b F w Y).1.2.2 = Y.1.2.2 := by
  by_cases c : o_kind b F Y.1.1 = 8
  · have e1 : (y_order b F w Y).1 = y_open b F Y.2.2.1.length (o_num b F w (o_kind b F Y.1.1) (y_word b F Y.2.1.1 Y.1)).2.2 := if_pos c
    rw [e1] at h ⊢
    have h1 := (y_open_0 h).1
    have h2 := o_num_0 h1
    refine (ea_open h).trans ((ea_onum h1).trans ?_)
    rw [(y_word_1 h2).2.2.2.2]
    rfl
  · have e1 : (y_order b F w Y).1 = t_exp b F 3 (o_num b F w (o_kind b F Y.1.1) (y_word b F Y.2.1.1 Y.1)).2.2 := if_neg c
    rw [e1] at h ⊢
    have h1 := t_exp_0 h
    have h2 := o_num_0 h1
    refine (ea_exp h).trans ((ea_onum h1).trans ?_)
    rw [(y_word_1 h2).2.2.2.2]
    rfl
theorem ea_step (h : (y_step b F w Y).1.2.1 = 0) : (y_step b F w Y).1.2.2 = Y.1.2.2 := by
  by_cases c : rd_kd b F Y.1.1 = 5 ∧ 0 < Y.2.2.1.length
  · have e : y_step b F w Y = y_close b F Y := if_pos c
    rw [e] at h ⊢
    exact (ea_exp (S := t_exp b F 5 Y.1) h).trans (ea_exp (t_exp_0 (S := t_exp b F 5 Y.1) h))
  · have e : y_step b F w Y = y_order b F w Y := if_neg c
    rw [e] at h ⊢
    exact ea_order h
theorem ea_yloop : ∀ (d : Nat) (Y : SY), (y_loop b F w d Y).1.2.1 = 0 → (y_loop b F w d Y).1.2.2 = Y.1.2.2 := by
  intro d
  induction d with
  | zero => exact fun Y _ => rfl
  | succ d ih =>
    intro Y h
    unfold y_loop at h ⊢
    split at h
    · next c =>
      rw [if_pos c]
      have h2 : (y_step b F w Y).1.2.1 = 0 := by
        refine Classical.byContradiction fun g => ?_
        rw [y_loop_e g] at h
        exact g h
      exact (ih _ h).trans (ea_step h2)
    · next c => rw [if_neg c]
theorem ea_all (h : (y_all b F w).1.2.1 = 0) : (y_all b F w).1.2.2 = -1 := ea_yloop 501 _ h
theorem YR.of (h : YR told L sk o f z M) (e : ∀ s, s = 4 ∨ s = 5 ∨ s = 6 ∨ s = 7 ∨ s = 9 → M'.1 s 0 = M.1 s 0) : YR told L sk o f z M' := by
  have e : ∀ s, s = 4 ∨ s = 5 ∨ s = 6 ∨ s = 7 ∨ s = 9 → zmI M' s 0 = zmI M s 0 := e
  exact YR.mk (by rw [e 4 (by omega)]; exact h.len) (by rw [e 4 (by omega)]; exact h.tol) (by rw [e 4 (by omega)]; exact h.dep) (fun k hk => by rw [e 5 (by omega), e 6 (by omega), e 7 (by omega)]; exact h.row k hk) (fun i hi => by rw [e 9 (by omega)]; exact h.opn i hi)
theorem UR.of (h : UR told L sk o f z M) (e : ∀ s, 38 ≤ s → s ≤ 42 → M'.1 s 0 = M.1 s 0) (e2 : ∀ k, 25 ≤ k → k ≤ 27 → M'.1 30 0 k = M.1 30 0 k) : UR told L sk o f z M' := by
  have e : ∀ s, 38 ≤ s → s ≤ 42 → zmI M' s 0 = zmI M s 0 := e
  have e2 : ∀ k, 25 ≤ k → k ≤ 27 → zmI M' 30 0 k = zmI M 30 0 k := e2
  exact UR.mk (by rw [e2 _ (by omega) (by omega)]; exact h.len) (by rw [e2 _ (by omega) (by omega)]; exact h.tol) (by rw [e2 _ (by omega) (by omega)]; exact h.dep) (fun k hk => by rw [e 38 (by omega) (by omega), e 39 (by omega) (by omega), e 40 (by omega) (by omega)]; exact h.row k hk) (fun i hi => by rw [e 42 (by omega) (by omega)]; exact h.opn i hi) (fun k hk h8 => by rw [e 41 (by omega) (by omega)]; exact h.fin k hk h8)
/-- where only readers and scripts have changed -/
theorem Inv.far (h : Inv M A) (J : ∀ s i, ¬ (s = 1 ∨ (4 ≤ s ∧ s ≤ 9) ∨ s = 30 ∨ (38 ≤ s ∧ s ≤ 43)) → M'.1 s i = M.1 s i) (K : M'.2 = M.2) (e : ∀ k, k = 6 ∨ k = 8 ∨ k = 29 → M'.1 30 0 k = M.1 30 0 k) (hr : Rd M') : Inv M' A := by
  obtain ⟨hRow, hpl, hRing, hSav, -, hPg⟩ := h
  have kp : ∀ {r : Nat} {w : Nat → Int32}, Row M r w A → Row M' r w A := fun {r w} q => by
    obtain ⟨n, g1, g2⟩ := q
    have hn := g2.nf
    exact ⟨n, g1.kept (by omega) (fun s i hi => J s i (by unfold inR at hi; omega)) (fun _ _ _ => by rw [K]) (fun _ _ _ => by rw [K]) (fun _ _ q => by rw [K]; exact q), g2⟩
  refine ⟨?_, by rw [e 8 (by omega)]; exact hpl, ?_, fun s hs => ?_, hr, ?_⟩
  · rw [show zmI M' 31 0 = zmI M 31 0 from J 31 0 (by omega)]
    exact kp hRow
  · obtain ⟨P, U, p1, p2, p3, p4, p5, p6⟩ := hRing
    refine ⟨P, U, p1, p2, by rw [J 10 0 (by omega)]; exact p3, by rw [J 10 0 (by omega)]; exact p4, by rw [e 6 (by omega)]; exact p5, fun j hj => ?_⟩
    rw [J 34 0 (by omega)]
    exact kp (p6 j hj)
  · obtain ⟨a1, a2, a3⟩ := hSav s hs
    rw [J 13 0 (by omega), J 36 0 (by omega), J 35 0 (by omega)]
    exact ⟨a1, a2, fun c => kp (a3 c)⟩
  · unfold Pg zmB at *
    rw [K, J 44 0 (by omega), e 29 (by omega)]
    exact hPg
end
