/-! SETUPS: what is read is in order -/
section
variable {l : Launch} {G : zG} {M M0 : zM} {A : Nat} {b : Nat → Int32} {F : Nat} {S S' : Nat × Int32 × Int32} {w w' : Nat → Int32} {t : Int32}
def OKZ (w : Nat → Int32) : Prop := (WS w) ∧ (1 ≤ (w 0).toInt ∧ (w 0).toInt ≤ 40) ∧ (1 ≤ (w 1).toInt ∧ (w 1).toInt ≤ 9) ∧ (sp_mm w) ∧ (0 ≤ (w 4).toInt ∧ (w 4).toInt ≤ 65536) ∧ (0 ≤ (w 5).toInt ∧ (w 5).toInt ≤ 10) ∧ (w 6 = 0 ∨ w 6 = 1) ∧ (w 7 = 0) ∧ (w 12 = 0) ∧ (∀ i : Nat, (i : Int) < (w 11).toInt → (1 ≤ (w (sf i 0)).toInt ∧ (w (sf i 0)).toInt ≤ 99) ∧ (1 ≤ (w (sf i 1)).toInt ∧ (w (sf i 1)).toInt ≤ 50) ∧ (1 ≤ (w (sf i 3)).toInt ∧ (w (sf i 3)).toInt ≤ 9) ∧ (w (sf i 4) = 0 ∨ w (sf i 4) = 1) ∧ w (sf i 5) = 1 ∧ (1 ≤ (w (sf i 6)).toInt ∧ (w (sf i 6)).toInt ≤ 9) ∧ w (sf i 7) = 0 ∧ ∀ k, 18 ≤ k → k < 26 → w (sf i k) = 0)
theorem OKZ.ws {w : Nat → Int32} (h9 : OKZ w) : WS w := h9.1
theorem OKZ.lim {w : Nat → Int32} (h9 : OKZ w) : 1 ≤ (w 0).toInt ∧ (w 0).toInt ≤ 40 := h9.2.1
theorem OKZ.rate {w : Nat → Int32} (h9 : OKZ w) : 1 ≤ (w 1).toInt ∧ (w 1).toInt ≤ 9 := h9.2.2.1
theorem OKZ.mm {w : Nat → Int32} (h9 : OKZ w) : sp_mm w := h9.2.2.2.1
theorem OKZ.top {w : Nat → Int32} (h9 : OKZ w) : 0 ≤ (w 4).toInt ∧ (w 4).toInt ≤ 65536 := h9.2.2.2.2.1
theorem OKZ.wt {w : Nat → Int32} (h9 : OKZ w) : 0 ≤ (w 5).toInt ∧ (w 5).toInt ≤ 10 := h9.2.2.2.2.2.1
theorem OKZ.gen {w : Nat → Int32} (h9 : OKZ w) : w 6 = 0 ∨ w 6 = 1 := h9.2.2.2.2.2.2.1
theorem OKZ.tim {w : Nat → Int32} (h9 : OKZ w) : w 7 = 0 := h9.2.2.2.2.2.2.2.1
theorem OKZ.nd {w : Nat → Int32} (h9 : OKZ w) : w 12 = 0 := h9.2.2.2.2.2.2.2.2.1
theorem OKZ.fl {w : Nat → Int32} (h9 : OKZ w) : ∀ i : Nat, (i : Int) < (w 11).toInt → (1 ≤ (w (sf i 0)).toInt ∧ (w (sf i 0)).toInt ≤ 99) ∧ (1 ≤ (w (sf i 1)).toInt ∧ (w (sf i 1)).toInt ≤ 50) ∧ (1 ≤ (w (sf i 3)).toInt ∧ (w (sf i 3)).toInt ≤ 9) ∧ (w (sf i 4) = 0 ∨ w (sf i 4) = 1) ∧ w (sf i 5) = 1 ∧ (1 ≤ (w (sf i 6)).toInt ∧ (w (sf i 6)).toInt ≤ 9) ∧ w (sf i 7) = 0 ∧ ∀ k, 18 ≤ k → k < 26 → w (sf i k) = 0 := h9.2.2.2.2.2.2.2.2.2
theorem OKZ.mk {w : Nat → Int32} (ws : WS w) (lim : 1 ≤ (w 0).toInt ∧ (w 0).toInt ≤ 40) (rate : 1 ≤ (w 1).toInt ∧ (w 1).toInt ≤ 9) (mm : sp_mm w) (top : 0 ≤ (w 4).toInt ∧ (w 4).toInt ≤ 65536) (wt : 0 ≤ (w 5).toInt ∧ (w 5).toInt ≤ 10) (gen : w 6 = 0 ∨ w 6 = 1) (tim : w 7 = 0) (nd : w 12 = 0) (fl : ∀ i : Nat, (i : Int) < (w 11).toInt → (1 ≤ (w (sf i 0)).toInt ∧ (w (sf i 0)).toInt ≤ 99) ∧ (1 ≤ (w (sf i 1)).toInt ∧ (w (sf i 1)).toInt ≤ 50) ∧ (1 ≤ (w (sf i 3)).toInt ∧ (w (sf i 3)).toInt ≤ 9) ∧ (w (sf i 4) = 0 ∨ w (sf i 4) = 1) ∧ w (sf i 5) = 1 ∧ (1 ≤ (w (sf i 6)).toInt ∧ (w (sf i 6)).toInt ≤ 9) ∧ w (sf i 7) = 0 ∧ ∀ k, 18 ≤ k → k < 26 → w (sf i k) = 0) : OKZ w := ⟨ws, lim, rate, mm, top, wt, gen, tim, nd, fl⟩
theorem OKZ.ok (h : OKZ w) : OK w (w 11).toInt.toNat 0 0 9999 := by
  have hn := h.ws.n
  refine OK.mk h.lim h.rate h.mm h.top h.wt h.gen ?_ ?_ ⟨by omega, by omega⟩ ?_ (fun i hi => ?_) (fun k hk => ?_) ?_
  · rw [h.tim]; exact ⟨by decide, by decide⟩
  · rw [h.ws.q]; have := h.lim; rw [ti_0]; omega
  · rw [h.nd]; exact ⟨by decide, by decide⟩
  · obtain ⟨f0, f1, f3, f4, f5, f6, f7, f8⟩ := h.fl i (by omega)
    obtain ⟨l1, l2, l3⟩ := h.ws.lt i (by omega)
    have z : ∀ k, 18 ≤ k → k < 26 → (w (sf i k)).toInt = 0 := fun k h1 h2 => by rw [f8 k h1 h2]; rfl
    have z18 := z 18 (by omega) (by omega)
    have z19 := z 19 (by omega) (by omega)
    have z20 := z 20 (by omega) (by omega)
    have z21 := z 21 (by omega) (by omega)
    have z22 := z 22 (by omega) (by omega)
    have z23 := z 23 (by omega) (by omega)
    have z24 := z 24 (by omega) (by omega)
    have z25 := z 25 (by omega) (by omega)
    refine FOK.mk f0 f1 f3 f4 (.inr f5) f6 (.inl f7) ⟨l1, l2⟩ l3 ?_ ?_ ?_ ?_ ?_ <;> first | omega | (dsimp only; omega)
  · rw [h.ws.q, ti_0] at hk
    omega
  · have key : ∀ j : Nat, j ≤ (w 11).toInt.toNat → sm w 5 j = 0 := by
      intro j
      induction j with
      | zero => exact fun _ => rfl
      | succ j ih =>
        intro hj
        show sm w 5 j + (w (sf j (18 + 5))).toInt = 0
        rw [ih (by omega), (h.fl j (by omega)).2.2.2.2.2.2.2 (18 + 5) (by omega) (by omega)]
        rfl
    rw [key _ (Nat.le_refl _)]
    exact Int.le_refl _
theorem OKZ.set {j : Nat} {x : Int32} (h : OKZ w) (hj : j = 4 ∧ 0 ≤ x.toInt ∧ x.toInt ≤ 65536 ∨ j = 5 ∧ 0 ≤ x.toInt ∧ x.toInt ≤ 10 ∨ j = 6 ∧ 0 ≤ x.toInt ∧ x.toInt ≤ 1 ∨ j = 13) : OKZ (zup w j x) := by
  have e : ∀ k, ¬ k = j → zup w j x k = w k := fun k hk => zup_ne _ _ hk
  have hs : ∀ i k : Nat, zup w j x (sf i k) = w (sf i k) := fun i k => e _ (by unfold sf; omega)
  have hm := h.mm
  refine OKZ.mk (h.ws.set (by omega)) (by rw [e 0 (by omega)]; exact h.lim) (by rw [e 1 (by omega)]; exact h.rate) ?_ ?_ ?_ ?_ (by rw [e 7 (by omega)]; exact h.tim) (by rw [e 12 (by omega)]; exact h.nd) (fun i hi => ?_)
  · unfold sp_mm at hm ⊢
    rw [e 2 (by omega), e 3 (by omega)]
    exact hm
  · by_cases g : j = 4
    · subst g; rw [zup_self]; omega
    · rw [e 4 (fun q => g q.symm)]; exact h.top
  · by_cases g : j = 5
    · subst g; rw [zup_self]; omega
    · rw [e 5 (fun q => g q.symm)]; exact h.wt
  · by_cases g : j = 6
    · subst g; rw [zup_self, ti_eq, ti_eq, ti_0, ti_1]; omega
    · rw [e 6 (fun q => g q.symm)]; exact h.gen
  · rw [e 11 (by omega)] at hi
    simp only [hs]
    exact h.fl i hi
theorem OKZ.lims {u v : Int32} (h : OKZ w) (h1 : 0 ≤ u.toInt ∧ u.toInt ≤ 39) (h2 : u.toInt < v.toInt ∧ v.toInt ≤ 40) : OKZ (zup (zup w 2 u) 3 v) := by
  have e : ∀ k, ¬ k = 2 → ¬ k = 3 → zup (zup w 2 u) 3 v k = w k := fun k h1 h2 => by rw [zup_ne _ _ h2, zup_ne _ _ h1]
  have hs : ∀ i k : Nat, zup (zup w 2 u) 3 v (sf i k) = w (sf i k) := fun i k => e _ (by unfold sf; omega) (by unfold sf; omega)
  refine OKZ.mk ((h.ws.set (by omega)).set (by omega)) (by rw [e 0 (by omega) (by omega)]; exact h.lim) (by rw [e 1 (by omega) (by omega)]; exact h.rate) ?_ (by rw [e 4 (by omega) (by omega)]; exact h.top) (by rw [e 5 (by omega) (by omega)]; exact h.wt) (by rw [e 6 (by omega) (by omega)]; exact h.gen) (by rw [e 7 (by omega) (by omega)]; exact h.tim) (by rw [e 12 (by omega) (by omega)]; exact h.nd) (fun i hi => ?_)
  · unfold sp_mm
    rw [zup_self, zup_ne _ _ (by omega), zup_self]
    omega
  · rw [e 11 (by omega) (by omega)] at hi
    simp only [hs]
    exact h.fl i hi
theorem f_n_v (h : (f_n b F S).2.2.1 = 0) : 1 ≤ (f_n b F S).1.toInt ∧ (f_n b F S).1.toInt ≤ 99 := by
  unfold f_n at h ⊢
  have m := t_num_v h
  rw [ti_le, ti_le, ti_1, show (99 : Int32).toInt = 99 from rfl] at m
  exact ⟨m.1, m.2.1⟩
theorem f_p_v (h : (f_p b F S).2.2.1 = 0) : 1 ≤ (f_p b F S).1.toInt ∧ (f_p b F S).1.toInt ≤ 50 := by
  unfold f_p at h ⊢
  have m := t_num_v h
  rw [ti_le, ti_le, ti_1, show (50 : Int32).toInt = 50 from rfl] at m
  exact ⟨m.1, m.2.1⟩
theorem f_s_v (h : (f_s b F S).2.2.1 = 0) : 1 ≤ (f_s b F S).1.toInt ∧ (f_s b F S).1.toInt ≤ 9 := by
  unfold f_s at h ⊢
  have m := t_num_v h
  rw [ti_le, ti_le, ti_1, show (9 : Int32).toInt = 9 from rfl] at m
  exact ⟨m.1, m.2.1⟩
theorem f_c_v (h : (f_c b F S).2.2.1 = 0) : (f_s b F S).1.toInt ≤ (f_c b F S).1.toInt ∧ (f_c b F S).1.toInt ≤ 9 := by
  unfold f_c at h ⊢
  have m := t_num_v h
  rw [ti_le, ti_le, show (9 : Int32).toInt = 9 from rfl] at m
  exact ⟨m.1, m.2.1⟩
theorem f_m_v : f_m b F S = 0 ∨ f_m b F S = 1 := by
  unfold f_m
  rcases Classical.em (f_mk b F S) with c | c
  · exact .inr (pif_pos c)
  · exact .inl (pif_neg c)
theorem OKZ.flow (h : OKZ w) (hne : ¬ w 11 = 6) (h0 : (f_8 b F (t_exp b F 1 (f_2 b F w S))).2.1 = 0) : OKZ (f_w b F w (w 11).toInt.toNat (f_2 b F w S).1 (t_exp b F 1 (f_2 b F w S))) := by
  have W := WS_flow h.ws hne h0
  obtain ⟨q1, q2, q3, q4⟩ := s_flow_0 (n := 0) h0
  have hn := h.ws.n
  have h6 : (w 11).toInt.toNat < 6 := by
    rw [ti_eq, show (6 : Int32).toInt = 6 from rfl] at hne
    omega
  have z := h.ws.z (w 11).toInt.toNat (by omega) h6
  obtain ⟨w1, w2, v0, v1, v2, v3, v4, v5, v6, v7, v9, v10⟩ := f_w_at (w := w) (S3 := t_exp b F 1 (f_2 b F w S)) (s := (f_2 b F w S).1) q3 h6
  obtain ⟨r4, r3, r2, r1, r0⟩ := f_8_0 h0
  have m0 := f_n_v r1
  have m1 := f_p_v r2
  have m2 := f_s_v r3
  have m3 := f_c_v r4
  have m4 := f_m_v (b := b) (F := F) (S := t_exp b F 1 (f_2 b F w S))
  clear r0 r1 r2 r3 r4 h0
  generalize f_w b F w (w 11).toInt.toNat (f_2 b F w S).1 (t_exp b F 1 (f_2 b F w S)) = v at W w1 w2 v0 v1 v2 v3 v4 v5 v6 v7 v9 v10 ⊢
  have iv : (v 11).toInt = (w 11).toInt + 1 := by rw [w1, ti_add (by rw [ti_1]; omega), ti_1]
  have o : ∀ k, k < 14 → ¬ k = 11 → v k = w k := fun k h1 h2 => w2 k h2 (by unfold sf; omega)
  have hm := h.mm
  refine OKZ.mk W (by rw [o 0 (by omega) (by omega)]; exact h.lim) (by rw [o 1 (by omega) (by omega)]; exact h.rate) ?_ (by rw [o 4 (by omega) (by omega)]; exact h.top) (by rw [o 5 (by omega) (by omega)]; exact h.wt) (by rw [o 6 (by omega) (by omega)]; exact h.gen) (by rw [o 7 (by omega) (by omega)]; exact h.tim) (by rw [o 12 (by omega) (by omega)]; exact h.nd) (fun i hi => ?_)
  · unfold sp_mm at hm ⊢
    rw [o 2 (by omega) (by omega), o 3 (by omega) (by omega)]
    exact hm
  · rcases Nat.lt_or_ge i (w 11).toInt.toNat with d | d
    · have hs : ∀ k : Nat, k < 26 → v (sf i k) = w (sf i k) := fun k hk => w2 _ (by unfold sf; omega) (by unfold sf; omega)
      obtain ⟨f0, f1, f3, f4, f5, f6, f7, f8⟩ := h.fl i (by omega)
      rw [hs 0 (by omega), hs 1 (by omega), hs 3 (by omega), hs 4 (by omega), hs 5 (by omega), hs 6 (by omega), hs 7 (by omega)]
      exact ⟨f0, f1, f3, f4, f5, f6, f7, fun k h1 h2 => by rw [hs k h2]; exact f8 k h1 h2⟩
    · have ei : i = (w 11).toInt.toNat := by omega
      rw [ei, v0, v1, v3, v4, v5, v6, v7 7 (by omega)]
      exact ⟨m0, m1, ⟨by omega, m3.2⟩, m4, rfl, m2, z 7 (by omega), fun k h1 h2 => by rw [v7 k (by omega)]; exact z k (by omega)⟩
theorem OKZ_stmt (h : OKZ w) (h0 : (s_stmt b F (S, w, t)).1.2.1 = 0) : OKZ (s_stmt b F (S, w, t)).2.1 := by
  have st : ∀ (bit : Int32) (j : Nat) (hi : Int32), (s_set b F bit j hi (S, w, t)).1.2.1 = 0 → (j = 4 ∧ hi = 65536 ∨ j = 5 ∧ hi = 10 ∨ j = 6 ∧ hi = 1 ∨ j = 13) → OKZ (s_set b F bit j hi (S, w, t)).2.1 := fun bit j hi q hj => by
    have m := t_num_v (lo := 0) (hi := hi) (S := s_once b F bit t S) q
    refine h.set (x := (t_num b F 0 hi (s_once b F bit t S)).1) ?_
    rw [ti_le, ti_le, ti_0] at m
    rcases hj with e | e | e | e
    · refine .inl ⟨e.1, m.1, ?_⟩
      rw [e.2] at m ⊢
      exact m.2.1
    · refine .inr (.inl ⟨e.1, m.1, ?_⟩)
      rw [e.2] at m ⊢
      exact m.2.1
    · refine .inr (.inr (.inl ⟨e.1, m.1, ?_⟩))
      rw [e.2] at m ⊢
      exact m.2.1
    · exact .inr (.inr (.inr e))
  unfold s_stmt at h0 ⊢
  rcases Classical.em (rd_is b F (S, w, t).1.1 [108, 105, 109, 105, 116, 115]) with c | c
  · rw [pif_pos c] at h0 ⊢
    have m2 := t_num_v (lo := (t_num b F 0 39 (s_once b F 1 t S)).1 + 1) (hi := 40) (S := (t_num b F 0 39 (s_once b F 1 t S)).2) h0
    have m1 := t_num_v (lo := 0) (hi := 39) (S := s_once b F 1 t S) m2.2.2
    rw [ti_le, ti_le, ti_0, show (39 : Int32).toInt = 39 from rfl] at m1
    rw [ti_le, ti_le, ti_add (by rw [ti_1]; omega), ti_1, show (40 : Int32).toInt = 40 from rfl] at m2
    exact OKZ.lims (u := (t_num b F 0 39 (s_once b F 1 t S)).1) (v := (t_num b F ((t_num b F 0 39 (s_once b F 1 t S)).1 + 1) 40 (t_num b F 0 39 (s_once b F 1 t S)).2).1) h ⟨m1.1, m1.2.1⟩ ⟨by omega, m2.2.1⟩
  rw [pif_neg c] at h0 ⊢
  rcases Classical.em (rd_is b F (S, w, t).1.1 [116, 111, 112]) with c | c
  · rw [pif_pos c] at h0 ⊢
    exact st 2 4 65536 h0 (.inl ⟨rfl, rfl⟩)
  rw [pif_neg c] at h0 ⊢
  rcases Classical.em (rd_is b F (S, w, t).1.1 [119, 101, 105, 103, 104, 116]) with c | c
  · rw [pif_pos c] at h0 ⊢
    exact st 4 5 10 h0 (.inr (.inl ⟨rfl, rfl⟩))
  rw [pif_neg c] at h0 ⊢
  rcases Classical.em (rd_is b F (S, w, t).1.1 [103, 101, 110, 116, 108, 101]) with c | c
  · rw [pif_pos c] at h0 ⊢
    exact st 8 6 1 h0 (.inr (.inr (.inl ⟨rfl, rfl⟩)))
  rw [pif_neg c] at h0 ⊢
  rcases Classical.em (rd_is b F (S, w, t).1.1 [115, 101, 101, 100]) with c | c
  · rw [pif_pos c] at h0 ⊢
    exact st 16 13 9999 h0 (.inr (.inr (.inr rfl)))
  rw [pif_neg c] at h0 ⊢
  rcases Classical.em (rd_is b F (S, w, t).1.1 [102, 108, 111, 119]) with c | c
  · rw [pif_pos c] at h0 ⊢
    unfold s_flow at h0 ⊢
    by_cases d : w 11 = 6
    · rw [if_pos d] at h0 ⊢
      exact h
    · rw [if_neg d] at h0 ⊢
      exact h.flow d h0
  · rw [pif_neg c]
    exact h
theorem s_stmt_e (h : ¬ S.2.1 = 0) (X : (Nat → Int32) × Int32) : (s_stmt b F (S, X)).1 = S := by
  have e1 : ∀ bit j hi, (s_set b F bit j hi (S, X)).1 = S := fun bit j hi => by
    show (t_num b F 0 hi (s_once b F bit X.2 S)).2 = S
    have : s_once b F bit X.2 S = S := if_neg h
    rw [this, t_num_e h]
  have e2 : (s_lim b F (S, X)).1 = S := by
    have : s_once b F 1 X.2 S = S := if_neg h
    show (t_num b F ((t_num b F 0 39 (s_once b F 1 X.2 S)).1 + 1) 40 (t_num b F 0 39 (s_once b F 1 X.2 S)).2).2 = S
    rw [this, t_num_e h, t_num_e h]
  unfold s_stmt pif
  repeat' split
  all_goals first | exact e2 | exact e1 _ _ _ | exact s_flow_e h X | exact t_fail_e h
end
