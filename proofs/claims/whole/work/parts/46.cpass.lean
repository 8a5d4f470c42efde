/-! THE CLASS'S ROUTER: many packets, a tick -/
theorem sp_arr_ne {w : Nat → Int32} {p : Bool} {i j N : Nat} (hN : (w 8).toInt = N) (hN40 : (w 0).toInt ≤ 40) (hle : (w 8).toInt ≤ (w 0).toInt) (h1 : j < 172) (h2 : j ≠ 8 ∧ j ≠ 9 ∧ j ≠ 10 ∧ j ≠ 12 ∧ j ≠ 13) (h3 : ∀ k, 18 ≤ k → k < 23 → j ≠ sf i k) (h4 : j ≠ sf i 7) : (sp_arr w p i).2 j = w j := by
  have a2 : sp_a2 w i j = w j := sp_a2_ne h2.2.1 (h3 18 (by omega) (by omega))
  have a8 : (sp_a2 w i 8).toInt = N := by rw [sp_a2_ne (by omega) (by (first | omega | (simp only [sf, sq, sd] at *; omega)))]; exact hN
  have bt : (sp_bt (sp_a2 w i) i).2 j = w j := by rw [sp_bt_ne h2.2.2.2.1 (by omega) h2.2.2.1 h2.2.2.2.2, a2]
  have b8 : ((sp_bt (sp_a2 w i) i).2 8).toInt = N := by rw [sp_bt_ne (by omega) (by omega) (by omega) (by omega)]; exact a8
  have dr : ∀ (x : Nat → Int32) (a : Nat), a < 5 → sp_drops x i a j = x j := fun x a ha => sp_drops_ne (h3 (18 + a) (by omega) (by omega)) h4
  unfold sp_arr
  dsimp only
  split
  · dsimp only
    rw [letsIn_ne a8 h2.1 (by (first | omega | (simp only [sf, sq, sd] at *; omega))), a2]
  · split
    · split
      · dsimp only
        rw [dr _ 2 (by omega), bt]
      · split
        · dsimp only
          rw [letsIn_ne (N := N) (by rw [sp_drops_ne (by (first | omega | (simp only [sf, sq, sd] at *; omega))) (by (first | omega | (simp only [sf, sq, sd] at *; omega)))]; exact b8) h2.1 (by (first | omega | (simp only [sf, sq, sd] at *; omega))), dr _ 1 (by omega), bt]
        · dsimp only
          rw [letsIn_ne b8 h2.1 (by (first | omega | (simp only [sf, sq, sd] at *; omega))), bt]
    · split
      · dsimp only
        rw [letsIn_ne (N := N) (by rw [sp_keeps_ne (by omega) (by omega), zup_ne _ _ (by omega)]; exact a8) h2.1 (by (first | omega | (simp only [sf, sq, sd] at *; omega))), sp_keeps_ne h2.2.2.2.1 (by omega), zup_ne _ _ h2.2.2.1, a2]
      · dsimp only
        rw [dr _ _ (by split <;> omega), sp_keeps_ne h2.2.2.2.1 (by omega), zup_ne _ _ h2.2.2.1, a2]
section
variable {l : Launch} {G : zG} {M : zM} {r : Nat} {w : Nat → Int32} {e : Bool}
theorem Rel.n {M : zM} {r n A S T : Nat} {w : Nat → Int32} {e : Bool} (h : Rel M r w e) (hO : OK w n A S T) : (zmI M 15 r 12).toInt = n := by
  rw [h.1.2.2.2.2.2]
  exact hO.nf.1
theorem C_many {i n A S T k : Nat} {q : Int32} {Kf : Int32 → zM → Prop} (hO : OK w n A S T) (hR : Rel M r w e) (hi : i < n) (hk : q.toInt = k) (hA : A + k ≤ 300000000)
    (h : ∀ M', zFr r M M' → Rel M' r (sp_many w (!e) i k).2 e → Kf (sp_many w (!e) i k).1 M') : zCalI l G Y_X5_arriveAll 0 0 [vr 15 r, vi (nI i), vi q] M Kf := by
  have hn := hO.nf
  have hI : (nI i).toInt = i := ti_nI (by omega)
  have key : ∀ d j : Nat, j + d = k → ∀ (y : Int32) (M1 : zM), y.toInt = j → zFr r M M1 → Rel M1 r (sp_many w (!e) i j).2 e → zAt l G Y_X5_arriveAll (zEI G Y_X5_arriveAll Kf) 5 [(0, vr 15 r), (1, vi (nI i)), (2, vi q), (3, vi (sp_many w (!e) i j).1), (4, vi y)] [] M1 0 0 := by
    intro d
    induction d with
    | zero =>
      intro j hj y M1 hy hF hR1
      refine zb_X5_arriveAll_5 ⟨fun _ => ?_, fun c => ?_⟩
      · have hjk : j = k := by omega
        rw [hjk] at hR1 ⊢
        exact h M1 hF hR1
      · exfalso
        rw [ti_le] at c
        omega
    | succ d ih =>
      intro j hj y M1 hy hF hR1
      have o := hO.many (p := !e) hi j (by omega)
      refine zb_X5_arriveAll_5 ⟨fun c => ?_, fun _ => C_hasFlow (hR1.n o) hn.2 ?_⟩
      · exfalso
        rw [ti_le] at c
        omega
      · rw [if_pos (by rw [hI]; omega)]
        refine ⟨fun c => absurd c (by decide), fun _ => C_arr o hR1 hi (by omega) fun M2 hF2 hR2 => ?_⟩
        have nx := ih (j + 1) (by omega) (y + 1) M2 (ti_inc hy (by omega)) (hF.trans hF2) hR2
        refine ⟨fun c => zb_X5_arriveAll_31 ?_, fun c => zb_X5_arriveAll_31 ?_⟩
        · have e1 : (sp_many w (!e) i (j + 1)).1 = (sp_many w (!e) i j).1 := by
            show _ + (if _ then _ else _) = _
            rw [if_pos c]
            exact Int32.add_zero _
          rw [e1] at nx
          exact nx
        · have e1 : (sp_many w (!e) i (j + 1)).1 = (sp_many w (!e) i j).1 + 1 := by
            show _ + (if _ then _ else _) = _
            rw [if_neg c]
          rw [e1] at nx
          exact nx
  exact zm_X5_arriveAll (key k 0 (by omega) 0 M rfl (zFr.refl r M) hR)
/-- a setting -/
theorem Rel.set {M : zM} {r k n : Nat} {w : Nat → Int32} {e : Bool} {v : Int32} (h : Rel M r w e) (hn : (w 11).toInt = n ∧ n ≤ 6) (hl : ∀ i, i < n → (w (sf i 9)).toInt ≤ 8) (hq : (w 8).toInt ≤ 40) (hk : k < 8) : Rel (zsIr M 15 r (zup (zmI M 15 r) k v)) r (zup w k v) e := by
  obtain ⟨a, f, q, d⟩ := h
  unfold Rel
  (simp only [zmI, zmL, zmN, zmT, zmI_sI, zmI_sL, zmI_sN, zsI2, zsL2, zmL_sL, zmL_sI, zmN_sI, zmN_sL, zmT_sI, zmT_sL, Nat.reduceEqDiff, false_and, and_false, and_self, if_false, if_true])
  refine ⟨⟨fun j hj => ?_, ?_, fun he => ?_, ?_, ?_, ?_⟩, fun i hi => ?_, ?_, ?_⟩
  · rw [zup_at, zup_at]
    split
    · rfl
    · exact a.1 j hj
  · rw [zup_ne _ _ (by omega), zup_ne _ _ (by omega)]; exact a.2.1
  · rw [zup_ne _ _ (by omega), zup_ne _ _ (by omega)]; exact a.2.2.1 he
  · rw [zup_ne _ _ (by omega), zup_ne _ _ (by omega)]; exact a.2.2.2.1
  · rw [zup_ne _ _ (by omega)]; exact a.2.2.2.2.1
  · rw [zup_ne _ _ (by omega), zup_ne _ _ (by omega)]; exact a.2.2.2.2.2
  · rw [zup_ne _ _ (by omega)] at hi
    exact (f i hi).congr (hl i (by omega)) fun j hj => zup_ne _ _ (by (first | omega | (simp only [sf, sq, sd] at *; omega)))
  · exact q.congr hq (zup_ne _ _ (by omega)) fun j h1 h2 => zup_ne _ _ (by omega)
  · exact d.congr (zup_ne _ _ (by omega)) fun j h1 h2 => zup_ne _ _ (by omega)
theorem Rel.avg {M : zM} {r n : Nat} {w : Nat → Int32} {e : Bool} {v : Int32} (h : Rel M r w e) (hn : (w 11).toInt = n ∧ n ≤ 6) (hl : ∀ i, i < n → (w (sf i 9)).toInt ≤ 8) (hq : (w 8).toInt ≤ 40) : Rel (zsIr M 15 r (zup (zmI M 15 r) 8 v)) r (zup w 9 v) e := by
  obtain ⟨a, f, q, d⟩ := h
  unfold Rel
  (simp only [zmI, zmL, zmN, zmT, zmI_sI, zmI_sL, zmI_sN, zsI2, zsL2, zmL_sL, zmL_sI, zmN_sI, zmN_sL, zmT_sI, zmT_sL, Nat.reduceEqDiff, false_and, and_false, and_self, if_false, if_true])
  refine ⟨⟨fun j hj => ?_, ?_, fun he => ?_, ?_, ?_, ?_⟩, fun i hi => ?_, ?_, ?_⟩
  · rw [zup_ne _ _ (by omega), zup_ne _ _ (by omega)]; exact a.1 j hj
  · rw [zup_self, zup_self]
  · rw [zup_ne _ _ (by omega), zup_ne _ _ (by omega)]; exact a.2.2.1 he
  · rw [zup_ne _ _ (by omega), zup_ne _ _ (by omega)]; exact a.2.2.2.1
  · rw [zup_ne _ _ (by omega)]; exact a.2.2.2.2.1
  · rw [zup_ne _ _ (by omega), zup_ne _ _ (by omega)]; exact a.2.2.2.2.2
  · rw [zup_ne _ _ (by omega)] at hi
    exact (f i hi).congr (hl i (by omega)) fun j hj => zup_ne _ _ (by (first | omega | (simp only [sf, sq, sd] at *; omega)))
  · exact q.congr hq (zup_ne _ _ (by omega)) fun j h1 h2 => zup_ne _ _ (by omega)
  · exact d.congr (zup_ne _ _ (by omega)) fun j h1 h2 => zup_ne _ _ (by omega)
theorem OK.lng {w : Nat → Int32} {n A S T : Nat} (h : OK w n A S T) : ∀ i, i < n → (w (sf i 9)).toInt ≤ 8 := fun i hi => (h.fl i hi).lng.2
theorem OK.q40 {w : Nat → Int32} {n A S T : Nat} (h : OK w n A S T) : (w 8).toInt ≤ 40 := by
  have h1 := h.nq
  have h2 := h.lim
  omega
/-- one flow's row changes -/
theorem Rel.flow {M : zM} {r n i A S : Nat} {w w' g : Nat → Int32} {L : Nat → Int64} {e : Bool} (h : Rel M r w e) (hn : (w 11).toInt = n ∧ n ≤ 6) (hl : ∀ i, i < n → (w (sf i 9)).toInt ≤ 8) (hq : (w 8).toInt ≤ 40) (hi : i < n)
    (hw : ∀ j, j < 484 → ¬ (sf i 0 ≤ j ∧ j < sf i 26) → w' j = w j) (hf : RF g L (zmT M (zmN M 17 (6 * r + i) 0)) w' i) : Rel (zsIr (zsLr M 18 (6 * r + i) L) 17 (6 * r + i) g) r w' e := by
  obtain ⟨a, f, q, d⟩ := h
  unfold Rel
  (simp only [zmI, zmL, zmN, zmT, zmI_sI, zmI_sL, zmI_sN, zsI2, zsL2, zmL_sL, zmL_sI, zmN_sI, zmN_sL, zmT_sI, zmT_sL, Nat.reduceEqDiff, false_and, and_false, and_self, if_false, if_true])
  refine ⟨a.congr fun k h1 _ _ => hw k (by omega) (by (first | omega | (simp only [sf, sq, sd] at *; omega))), fun j hj => ?_, q.congr hq (hw 8 (by omega) (by (first | omega | (simp only [sf, sq, sd] at *; omega)))) fun j h1 h2 => hw j (by omega) (by (first | omega | (simp only [sf, sq, sd] at *; omega))), d.congr (hw 12 (by omega) (by (first | omega | (simp only [sf, sq, sd] at *; omega)))) fun j h1 h2 => hw j h2 (by (first | omega | (simp only [sf, sq, sd] at *; omega)))⟩
  rw [hw 11 (by omega) (by (first | omega | (simp only [sf, sq, sd] at *; omega)))] at hj
  by_cases hji : j = i
  · rw [hji]
    simp only [if_true]
    exact hf
  · have q1 : ¬ (6 * r + j = 6 * r + i) := by omega
    simp only [q1, if_false]
    exact (f j hj).congr (hl j (by omega)) fun k hk => hw _ (by (first | omega | (simp only [sf, sq, sd] at *; omega))) (by (first | omega | (simp only [sf, sq, sd] at *; omega)))
theorem C_now {i n A S T : Nat} {t : Int32} {Kf : Int32 → zM → Prop} (hO : OK w n A S T) (hR : Rel M r w e) (hi : i < n) (ht : t = w 7) (h : Kf (if sp_now w i = true then 1 else 0) M) : zCalI l G Y_X1_sendsAt 0 0 [vr 17 (6 * r + i), vi t] M Kf := by
  have hn := hO.nf
  have f := hR.2.1 i (by omega)
  have hf := hO.fl i hi
  have hp : 1 ≤ (w (sf i 1)).toInt := hf.per.1
  have e6 : zmI M 17 (6 * r + i) 6 = w (sf i 5) := f.1 5 (by omega)
  have e1 : zmI M 17 (6 * r + i) 1 = w (sf i 0) := f.1 0 (by omega)
  have e2 : zmI M 17 (6 * r + i) 2 = w (sf i 1) := f.1 1 (by omega)
  unfold sp_now at h
  refine zm_X1_sendsAt ?_
  rw [e6, e1, e2, ht]
  refine ⟨fun c => ?_, fun c => ⟨fun d => ?_, fun d => ⟨fun g => ?_, fun _ => ⟨?_, fun g => ?_, fun g => ?_⟩⟩⟩⟩
  · rw [c, decide_eq_false (show ¬ ((0 : Int32) = 1) by decide), Bool.false_and] at h
    exact h
  · have d2 : ¬ w (sf i 0) ≤ w 7 := by
      rw [ti_le]
      rw [ti_lt] at d
      omega
    rw [decide_eq_false d2, Bool.false_and, Bool.and_false] at h
    exact h
  · exfalso
    rw [ti_le, ti_0] at g
    omega
  · intro g
    rw [g] at hp
    exact absurd hp (by decide)
  · rw [decide_eq_false g, Bool.and_false, Bool.and_false] at h
    exact h
  · have c2 : w (sf i 5) = 1 := hf.on.resolve_left c
    have d2 : w (sf i 0) ≤ w 7 := by
      rw [ti_le]
      rw [ti_lt] at d
      omega
    rw [decide_eq_true c2, decide_eq_true d2, decide_eq_true g] at h
    exact h
theorem C_adapt {i n A S T : Nat} {Kf : zM → Prop} (hO : OK w n A S T) (hR : Rel M r w e) (hi : i < n) (h : ∀ M', zFr r M M' → Rel M' r (sp_adapt w i) e → Kf M') : zCalV l G Y_X1_adapt 0 0 [vr 17 (6 * r + i)] M Kf := by
  have hn := hO.nf
  have f := hR.2.1 i (by omega)
  have hf := hO.fl i hi
  have e9 : zmI M 17 (6 * r + i) 9 = w (sf i 8) := f.1 8 (by omega)
  have e8 : zmI M 17 (6 * r + i) 8 = w (sf i 7) := f.1 7 (by omega)
  have e7 : zmI M 17 (6 * r + i) 7 = w (sf i 6) := f.1 6 (by omega)
  have e4 : zmI M 17 (6 * r + i) 4 = w (sf i 3) := f.1 3 (by omega)
  -- the end
  have fin : ∀ (g : Nat → Int32), (∀ k, k < 9 → k ≠ 6 → k ≠ 7 → k ≠ 8 → g (k + 1) = w (sf i k)) → g 7 = sp_wind w i (sf i 6) → g 8 = 0 → g 9 = w (sf i 8) + 1 → Kf (zsIr M 17 (6 * r + i) g) := by
    intro g h1 h2 h3 h4
    refine h _ ((zFr.refl r M).I (inR17 (by omega))) ?_
    have hz := hR.flow (g := g) (w' := sp_adapt w i) (L := zmL M 18 (6 * r + i)) (A := A) (S := S) hn hO.lng hO.q40 hi (fun j h1 h2 => sp_adapt_ne (by (first | omega | (simp only [sf, sq, sd] at *; omega))) (by (first | omega | (simp only [sf, sq, sd] at *; omega))) (by (first | omega | (simp only [sf, sq, sd] at *; omega)))) ⟨fun k hk => ?_, fun k hk => ?_, f.2.2.congr (hO.lng i hi) fun k h1 h2 => sp_adapt_ne (by (first | omega | (simp only [sf, sq, sd] at *; omega))) (by (first | omega | (simp only [sf, sq, sd] at *; omega))) (by (first | omega | (simp only [sf, sq, sd] at *; omega)))⟩
    · have e0 : zsLr M 18 (6 * r + i) (zmL M 18 (6 * r + i)) = M := by
        unfold zsLr zrw
        refine Prod.ext rfl (Prod.ext ?_ rfl)
        funext s' i'
        show (if _ then _ else _) = _
        by_cases c : s' = 18 ∧ i' = 6 * r + i
        · rw [if_pos c, c.1, c.2]
        · rw [if_neg c]
      rw [e0] at hz
      exact hz
    · unfold sp_adapt
      by_cases c8 : k = 8
      · rw [c8, zup_self, h4, sp_wind_ne (by (first | omega | (simp only [sf, sq, sd] at *; omega)))]
      · rw [zup_ne _ _ (by (first | omega | (simp only [sf, sq, sd] at *; omega)))]
        by_cases c7 : k = 7
        · rw [c7, zup_self, h3]
        · rw [zup_ne _ _ (by (first | omega | (simp only [sf, sq, sd] at *; omega)))]
          by_cases c6 : k = 6
          · rw [c6, h2]
          · rw [h1 k hk c6 c7 c8, sp_wind_ne (by (first | omega | (simp only [sf, sq, sd] at *; omega)))]
    · rw [sp_adapt_ne (by (first | omega | (simp only [sf, sq, sd] at *; omega))) (by (first | omega | (simp only [sf, sq, sd] at *; omega))) (by (first | omega | (simp only [sf, sq, sd] at *; omega)))]
      exact f.2.1 k hk
  have base : ∀ (v : Int32), v = sp_wind w i (sf i 6) → Kf (zsI (zsI (zsI M 17 (6 * r + i) 7 v) 17 (6 * r + i) 8 0) 17 (6 * r + i) 9 (zmI (zsI (zsI M 17 (6 * r + i) 7 v) 17 (6 * r + i) 8 0) 17 (6 * r + i) 9 + 1)) := by
    intro v hv
    (simp only [zmI, zmL, zmN, zmT, zmI_sI, zmI_sL, zmI_sN, zsI2, zsL2, zmL_sL, zmL_sI, zmN_sI, zmN_sL, zmT_sI, zmT_sL, Nat.reduceEqDiff, false_and, and_false, and_self, if_false, if_true])
    refine fin _ (fun k h1 h2 h3 h4 => ?_) ?_ ?_ ?_
    · rw [zup_ne _ _ (by omega), zup_ne _ _ (by omega), zup_ne _ _ (by omega)]
      exact f.1 k h1
    · rw [zup_ne _ _ (by omega), zup_ne _ _ (by omega), zup_self, hv]
    · rw [zup_ne _ _ (by omega), zup_self]
    · rw [zup_self, zup_ne _ _ (by omega), zup_ne _ _ (by omega)]
      exact congrArg (· + 1) e9
  refine zm_X1_adapt ?_
  rw [e9, e8, e4, e7]
  refine ⟨fun c => ?_, fun c => ⟨fun d => zb_X1_adapt_41 (base _ ?_), fun d => zb_X1_adapt_41 (base _ ?_)⟩⟩
  · (simp only [zmI, zmL, zmN, zmT, zmI_sI, zmI_sL, zmI_sN, zsI2, zsL2, zmL_sL, zmL_sI, zmN_sI, zmN_sL, zmT_sI, zmT_sL, Nat.reduceEqDiff, false_and, and_false, and_self, if_false, if_true])
    refine fin _ (fun k h1 h2 h3 h4 => ?_) ?_ ?_ ?_
    · rw [zup_ne _ _ (by omega), zup_ne _ _ (by omega)]
      exact f.1 k h1
    · rw [zup_ne _ _ (by omega), zup_ne _ _ (by omega)]
      unfold sp_wind
      rw [if_pos c]
      exact e7
    · rw [zup_ne _ _ (by omega), zup_self]
    · rw [zup_self, zup_ne _ _ (by omega)]
      exact congrArg (· + 1) e9
  · unfold sp_wind
    rw [if_neg c, zup_self, if_neg (show ¬ w (sf i 7) = 1 by rw [d]; decide)]
    by_cases g : w (sf i 3) < w (sf i 6) + 1
    · rw [if_pos g, if_neg (by rw [ti_lt] at g ⊢; omega)]
    · rw [if_neg g]
      by_cases g2 : w (sf i 6) + 1 < w (sf i 3)
      · rw [if_pos g2]
      · rw [if_neg g2]
        refine ti_eq.mpr ?_
        rw [ti_lt] at g g2
        omega
  · unfold sp_wind
    rw [if_neg c, zup_self, if_pos (show w (sf i 7) = 1 from hf.tld.resolve_left d)]
    by_cases g : w (sf i 6) / 2 < 1
    · rw [if_pos g, if_neg (by rw [ti_lt] at g ⊢; omega)]
    · rw [if_neg g]
      by_cases g2 : 1 < w (sf i 6) / 2
      · rw [if_pos g2]
      · rw [if_neg g2]
        refine ti_eq.mpr ?_
        rw [ti_lt] at g g2
        omega
end
