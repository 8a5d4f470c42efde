theorem sp_nl_q {w : Nat → Int32} {n A S T : Nat} (h : OK w n A S T) : 0 ≤ (sp_nl w).toInt ∧ (sp_nl w).toInt ≤ 9 ∧ (sp_nl w).toInt ≤ (w 8).toInt := by
  have h1 := h.nq
  have h2 := h.rate
  unfold sp_nl
  split
  · next c =>
    rw [ti_lt] at c
    omega
  · next c =>
    rw [ti_lt] at c
    omega
theorem OK.rest {w : Nat → Int32} {n A S T : Nat} (h : OK w n A S T) : OK (sp_rest w) n A S T := by
  have hn := h.nf.2
  have hq := h.nq
  have hl := h.lim
  have e : ∀ j, j ≠ 9 → sp_rest w j = w j := fun j hj => by
    unfold sp_rest
    split
    · exact zup_ne _ _ hj
    · rfl
  exact OK.mk
    (lim := by rw [e _ (by omega)]; exact h.lim)
    (rate := by rw [e _ (by omega)]; exact h.rate)
    (mm := by
      have := h.mm
      unfold sp_mm at *
      rw [e _ (by omega), e _ (by omega)]
      exact this)
    (top := by rw [e _ (by omega)]; exact h.top)
    (wt := by rw [e _ (by omega)]; exact h.wt)
    (gen := by rw [e _ (by omega)]; exact h.gen)
    (tim := by rw [e _ (by omega)]; exact h.tim)
    (nq := by rw [e _ (by omega), e _ (by omega)]; exact h.nq)
    (nf := by rw [e _ (by omega)]; exact h.nf)
    (nd := by rw [e _ (by omega)]; exact h.nd)
    (fl := fun j hj => (h.fl j hj).of fun k hk => e _ (by (first | omega | (simp only [sf, sq, sd] at *; omega))))
    (qu := fun k hk => by
      rw [e 8 (by omega)] at hk
      rw [e 7 (by omega), e (sq k 0) (by (first | omega | (simp only [sf, sq, sd] at *; omega))), e (sq k 1) (by (first | omega | (simp only [sf, sq, sd] at *; omega))), e (sq k 2) (by (first | omega | (simp only [sf, sq, sd] at *; omega)))]
      exact h.qu k hk)
    (su := by
      rw [sm_congr (w := w) fun j hj => e _ (by (first | omega | (simp only [sf, sq, sd] at *; omega)))]
      exact h.su)
theorem OK.leaves {w : Nat → Int32} {n A S T : Nat} (h : OK w n A S T) (hS : S + 40 ≤ 200000) (hT : T ≤ 10400) :
    OK (sp_slide (sp_out w) (sp_nl w).toInt.toNat (172 + 3 * (sp_out w 8).toInt.toNat)) n A (S + 9) T := by
  have hn := h.nf.2
  have hq := h.nq
  have hl := h.lim
  have hm := sp_nl_q h
  obtain ⟨m, hm1⟩ : ∃ m : Nat, (sp_nl w).toInt = m := ⟨_, (Int.toNat_of_nonneg hm.1).symm⟩
  have hm2 : (sp_nl w).toInt.toNat = m := by omega
  obtain ⟨g, g2⟩ := sp_leaves_q h hS hT m (by omega)
  have o8 : (sp_out w 8).toInt = (w 8).toInt - m := by
    unfold sp_out
    rw [zup_self, hm2, g2 8 (by omega), ti_sub (by omega)]
    omega
  have eo : ∀ j, j ≠ 8 → sp_out w j = sp_leaves w m j := fun j hj => by
    unfold sp_out
    rw [zup_ne _ _ hj, hm2]
  rw [hm2]
  have e : ∀ j, j < 172 → j ≠ 8 → sp_slide (sp_out w) m (172 + 3 * (sp_out w 8).toInt.toNat) j = sp_leaves w m j := fun j h1 h2 => (if_neg (by omega)).trans (eo j h2)
  have e8 : sp_slide (sp_out w) m (172 + 3 * (sp_out w 8).toInt.toNat) 8 = sp_out w 8 := if_neg (by omega)
  have h1 := g.mono (Nat.le_refl A) (show S + m ≤ S + 9 by omega) (Nat.le_refl T)
  have c8 : sp_leaves w m 8 = w 8 := g2 8 (by omega)
  exact OK.mk
    (lim := by rw [e _ (by omega) (by omega)]; exact h1.lim)
    (rate := by rw [e _ (by omega) (by omega)]; exact h1.rate)
    (mm := by
      have := h1.mm
      unfold sp_mm at *
      rw [e _ (by omega) (by omega), e _ (by omega) (by omega)]
      exact this)
    (top := by rw [e _ (by omega) (by omega)]; exact h1.top)
    (wt := by rw [e _ (by omega) (by omega)]; exact h1.wt)
    (gen := by rw [e _ (by omega) (by omega)]; exact h1.gen)
    (tim := by rw [e _ (by omega) (by omega)]; exact h1.tim)
    (nq := by
      have := h1.nq
      rw [c8] at this
      rw [e8, e _ (by omega) (by omega), o8]
      omega)
    (nf := by rw [e _ (by omega) (by omega)]; exact h1.nf)
    (nd := by
      rw [show sp_slide (sp_out w) m (172 + 3 * (sp_out w 8).toInt.toNat) 12 = _ from e 12 (by omega) (by omega)]
      exact h1.nd)
    (fl := fun j hj => (h1.fl j hj).of fun k hk => e _ (by (first | omega | (simp only [sf, sq, sd] at *; omega))) (by (first | omega | (simp only [sf, sq, sd] at *; omega))))
    (qu := fun k hk => by
      rw [e8, o8] at hk
      have hk2 : k + m < 484 := by omega
      have s : ∀ c, c < 3 → sp_slide (sp_out w) m (172 + 3 * (sp_out w 8).toInt.toNat) (sq k c) = sp_leaves w m (sq (k + m) c) := fun c hc => by
        have r1 : sp_slide (sp_out w) m (172 + 3 * (sp_out w 8).toInt.toNat) (sq k c) = sp_out w (sq k c + 3 * m) := if_pos (by (first | omega | (simp only [sf, sq, sd] at *; omega)))
        rw [r1, show sq k c + 3 * m = sq (k + m) c by (first | omega | (simp only [sf, sq, sd] at *; omega))]
        exact eo _ (by (first | omega | (simp only [sf, sq, sd] at *; omega)))
      rw [e 7 (by omega) (by omega), s 0 (by omega), s 1 (by omega), s 2 (by omega)]
      exact h1.qu (k + m) (by rw [c8]; omega))
    (su := by
      rw [sm_congr (w := sp_leaves w m) fun j hj => e _ (by (first | omega | (simp only [sf, sq, sd] at *; omega))) (by (first | omega | (simp only [sf, sq, sd] at *; omega)))]
      exact h1.su)
theorem OK.pass {w : Nat → Int32} {n A S T : Nat} {p : Bool} (h : OK w n A S T) (hA : A + 54 ≤ 300000000) (hS : S + 40 ≤ 200000) (hT : T < 10400) : OK (sp_pass w p) n (A + 54) (S + 9) (T + 1) := by
  have hn := h.nf
  unfold sp_pass
  dsimp only
  have h1 := ((h.tick (by omega)).flows (p := p) n (Nat.le_refl _) (by omega)).mono (show A + 9 * n ≤ A + 54 by omega) (Nat.le_refl S) (Nat.le_refl (T + 1))
  rw [show (w 11).toInt.toNat = n by omega]
  exact (h1.leaves hS (by omega)).rest
theorem OK.passes {w : Nat → Int32} {n A S T : Nat} {p : Bool} (h : OK w n A S T) : ∀ k, A + 54 * k ≤ 300000000 → S + 9 * k + 40 ≤ 200000 → T + k ≤ 10400 → OK (sp_passes w p k) n (A + 54 * k) (S + 9 * k) (T + k)
  | 0, _, _, _ => h
  | k + 1, hA, hS, hT => ((OK.passes h k (by omega) (by omega) (by omega)).pass (by omega) (by omega) (by omega)).mono (by omega) (by omega) (by omega)
section
variable {l : Launch} {G : zG} {M : zM}
theorem z3031 (M : zM) (f : Nat → Int32) : (zsIr M 31 0 f).1 30 0 = M.1 30 0 := zsIo _ _ _ _ 30 0 (by omega)
theorem R_many {i n A S T k : Nat} {q : Int32} {plain : Bool} {Kf : Int32 → zM → Prop} (hO : OK (zmI M 31 0) n A S T) (hi : i < n) (hp : zmI M 30 0 8 = if plain then 1 else 0) (hk : q.toInt = k) (hA : A + k ≤ 300000000)
    (h : Kf (sp_many (zmI M 31 0) plain i k).1 (zsIr M 31 0 (sp_many (zmI M 31 0) plain i k).2)) : zCalI l G Y_X9_arriveMany 0 0 [vr 30 0, vi (nI i), vi q] M Kf := by
  have key : ∀ d j : Nat, j + d = k → ∀ y : Int32, y.toInt = j → zAt l G Y_X9_arriveMany (zEI G Y_X9_arriveMany Kf) 5 [(0, vr 30 0), (1, vi (nI i)), (2, vi q), (3, vi (sp_many (zmI M 31 0) plain i j).1), (4, vi y)] [] (zsIr M 31 0 (sp_many (zmI M 31 0) plain i j).2) 0 0 := by
    intro d
    induction d with
    | zero =>
      intro j hj y hy
      refine zb_X9_arriveMany_5 ⟨fun _ => ?_, fun c => ?_⟩
      · rw [show j = k by omega]
        exact h
      · exfalso
        rw [ti_le] at c
        omega
    | succ d ih =>
      intro j hj y hy
      refine zb_X9_arriveMany_5 ⟨fun c => ?_, fun _ => ?_⟩
      · exfalso
        rw [ti_le] at c
        omega
      · have o := hO.many (p := plain) hi j (by omega)
        have oa := (o.arr (plain := plain) (by omega) hi).2
        refine R_arr (n := n) (plain := plain) (by (simp only [zsI1, zsI2]); exact o) hi (by rw [show zmI (zsIr M 31 0 _) 30 0 8 = zmI M 30 0 8 from congrFun (z3031 M _) 8]; exact hp) ?_
        (simp only [zsI1, zsI2])
        have nx := ih (j + 1) (by omega) (y + 1) (ti_inc hy (by omega))
        refine ⟨fun c => zb_X9_arriveMany_26 (R_one ?_), fun c => zb_X9_arriveMany_26 (R_one ?_)⟩
        · have e : (sp_many (zmI M 31 0) plain i (j + 1)).1 = (sp_many (zmI M 31 0) plain i j).1 + (if (0 : Int32) = 0 then 0 else 1) := by
            show _ + (if _ then _ else _) = _
            rw [if_pos c]
            rfl
          rw [← e]
          exact nx
        · have e : (sp_many (zmI M 31 0) plain i (j + 1)).1 = (sp_many (zmI M 31 0) plain i j).1 + (if (1 : Int32) = 0 then 0 else 1) := by
            show _ + (if _ then _ else _) = _
            rw [if_neg c]
            rfl
          rw [← e]
          exact nx
  have k0 := key k 0 (by omega) 0 rfl
  change zAt l G _ _ _ [_, _, _, (3, vi 0), _] _ (zsIr M 31 0 (zmI M 31 0)) _ _ at k0
  rw [show zsIr M 31 0 (zmI M 31 0) = M from zsI0 M 31 0] at k0
  exact zm_X9_arriveMany k0
theorem R_now {i : Nat} {Kf : Int32 → zM → Prop} (hi : i < 6) (hp : 1 ≤ (zmI M 31 0 (sf i 1)).toInt) (h : Kf (if sp_now (zmI M 31 0) i = true then 1 else 0) M) : zCalI l G Y_X9_sendsNow 0 0 [vr 30 0, vi (nI i)] M Kf := by
  have hI : (nI i).toInt = i := ti_nI (by omega)
  unfold sp_now at h
  refine zm_X9_sendsNow (R_isOn hI hi ⟨fun c => ?_, fun c => R_ofFlow hI (k := 0) rfl (by (first | omega | (simp only [sf, sq, sd] at *; omega))) ⟨fun d => ?_, fun d => R_ofFlow hI (k := 0) rfl (by (first | omega | (simp only [sf, sq, sd] at *; omega))) (R_ofFlow hI (k := 1) rfl (by (first | omega | (simp only [sf, sq, sd] at *; omega))) ⟨?_, fun f => ?_, fun f => ?_⟩)⟩⟩)
  · have c2 : ¬ zmI M 31 0 (sf i 5) = 1 := fun e => by
      rw [if_pos e] at c
      exact absurd c (by decide)
    rw [decide_eq_false c2] at h
    exact h
  · have d2 : ¬ zmI M 31 0 (sf i 0) ≤ zmI M 31 0 7 := by
      rw [ti_le]
      rw [ti_lt] at d
      omega
    rw [decide_eq_false d2, Bool.false_and, Bool.and_false] at h
    exact h
  · intro e
    rw [e] at hp
    exact absurd hp (by decide)
  · rw [decide_eq_false f, Bool.and_false, Bool.and_false] at h
    exact h
  · have c2 : zmI M 31 0 (sf i 5) = 1 := Classical.byContradiction fun e => c (if_neg e)
    have d2 : zmI M 31 0 (sf i 0) ≤ zmI M 31 0 7 := by
      rw [ti_le]
      rw [ti_lt] at d
      omega
    rw [decide_eq_true c2, decide_eq_true d2, decide_eq_true f] at h
    exact h
theorem R_sends {i n A S T : Nat} {plain : Bool} {Kf : zM → Prop} (hO : OK (zmI M 31 0) n A S T) (hi : i < n) (hp : zmI M 30 0 8 = if plain then 1 else 0) (hA : A + 9 ≤ 300000000)
    (h : Kf (zsIr M 31 0 (sp_sends (zmI M 31 0) plain i))) : zCalV l G Y_X9_sends 0 0 [vr 30 0, vi (nI i)] M Kf := by
  have hn := hO.nf.2
  have hI : (nI i).toInt = i := ti_nI (by omega)
  obtain ⟨o, o1, o2⟩ := hO.adapt hi
  have tail : zAt l G Y_X9_sends (zEV G Y_X9_sends Kf) 58 [(0, vr 30 0), (1, vi (nI i))] [] (zsIr M 31 0 (sp_wind (zmI M 31 0) i)) 0 0 := by
    refine zb_X9_sends_58 (R_putsFlow hI (k := 7) rfl (by (first | omega | (simp only [sf, sq, sd] at *; omega))) (R_ofFlow hI (k := 8) rfl (by (first | omega | (simp only [sf, sq, sd] at *; omega))) (R_putsFlow hI (k := 8) rfl (by (first | omega | (simp only [sf, sq, sd] at *; omega))) (R_ofFlow hI (k := 6) rfl (by (first | omega | (simp only [sf, sq, sd] at *; omega))) ?_))))
    (simp only [zsI1, zsI2])
    have e8 : zup (sp_wind (zmI M 31 0) i) (sf i 7) 0 (sf i 8) = sp_wind (zmI M 31 0) i (sf i 8) := zup_ne _ _ (by (first | omega | (simp only [sf, sq, sd] at *; omega)))
    rw [e8]
    refine R_many (n := n) (A := A) (S := S) (T := T) (k := (sp_adapt (zmI M 31 0) i (sf i 6)).toInt.toNat) (plain := plain) (by (simp only [zsI1, zsI2]); exact o) hi (by rw [show zmI (zsIr M 31 0 _) 30 0 8 = zmI M 30 0 8 from congrFun (z3031 M _) 8]; exact hp) ?_ (by omega) ?_
    · show (sp_adapt (zmI M 31 0) i (sf i 6)).toInt = _
      omega
    · (simp only [zsI1, zsI2])
      exact h
  unfold sp_wind at tail
  refine zm_X9_sends (R_ofFlow hI (k := 6) rfl (by (first | omega | (simp only [sf, sq, sd] at *; omega))) (R_ofFlow hI (k := 8) rfl (by (first | omega | (simp only [sf, sq, sd] at *; omega))) ⟨fun c => ?_, fun c => R_ofFlow hI (k := 7) rfl (by (first | omega | (simp only [sf, sq, sd] at *; omega))) ⟨fun d => R_ofFlow hI (k := 3) rfl (by (first | omega | (simp only [sf, sq, sd] at *; omega))) (zb_X9_sends_55 (R_putsFlow hI (k := 6) rfl (by (first | omega | (simp only [sf, sq, sd] at *; omega))) ?_)), fun d => zb_X9_sends_55 (R_putsFlow hI (k := 6) rfl (by (first | omega | (simp only [sf, sq, sd] at *; omega))) ?_)⟩⟩))
  · rw [if_pos c, show zsIr M 31 0 (zmI M 31 0) = M from zsI0 M 31 0] at tail
    exact tail
  · rw [if_neg c, if_neg d] at tail
    exact tail
  · rw [if_neg c, if_pos d] at tail
    exact tail
theorem R_leave {n A S T k : Nat} {q : Int32} {Kf : zM → Prop} (hO : OK (zmI M 31 0) n A S T) (hq : q.toInt = k) (hk : (k : Int) < (zmI M 31 0 8).toInt)
    (h : Kf (zsIr M 31 0 (sp_leave (zmI M 31 0) k))) : zCalV l G Y_X9_leaves 0 0 [vr 30 0, vi q] M Kf := by
  have hn := hO.nf.2
  have hnq := hO.nq
  have hl := hO.lim
  obtain ⟨⟨k1, k2⟩, ⟨k3, k4⟩, k5⟩ := hO.qu k hk
  obtain ⟨i, hi⟩ : ∃ i : Nat, (zmI M 31 0 (sq k 0)).toInt.toNat = i := ⟨_, rfl⟩
  have hI : (zmI M 31 0 (sq k 0)).toInt = i := by omega
  unfold sp_leave at h
  rw [hi] at h
  refine zm_X9_leaves (R_ofPacket hq (k := 0) rfl (by (first | omega | (simp only [sf, sq, sd] at *; omega))) (R_counts hI (k := 5) rfl (by (first | omega | (simp only [sf, sq, sd] at *; omega))) (R_ofPacket hq (k := 2) rfl (by (first | omega | (simp only [sf, sq, sd] at *; omega))) (R_counts hI (k := 6) rfl (by (first | omega | (simp only [sf, sq, sd] at *; omega))) (R_ofPacket hq (k := 1) rfl (by (first | omega | (simp only [sf, sq, sd] at *; omega))) (R_counts hI (k := 7) rfl (by (first | omega | (simp only [sf, sq, sd] at *; omega))) ?_))))))
  (simp only [zsI1, zsI2])
  rw [show sp_counts (zmI M 31 0) i 5 1 (sq k 2) = _ from sp_counts_ne (by (first | omega | (simp only [sf, sq, sd] at *; omega))), sp_counts_ne (j := 7) (by (first | omega | (simp only [sf, sq, sd] at *; omega))), sp_counts_ne (j := 7) (by (first | omega | (simp only [sf, sq, sd] at *; omega))), sp_counts_ne (j := sq k 1) (by (first | omega | (simp only [sf, sq, sd] at *; omega))), sp_counts_ne (j := sq k 1) (by (first | omega | (simp only [sf, sq, sd] at *; omega)))]
  exact h
end
