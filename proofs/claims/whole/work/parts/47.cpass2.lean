theorem sp_many_ne {w : Nat → Int32} {n A S T i j : Nat} {p : Bool} (h : OK w n A S T) (hi : i < n) (h1 : j < 172) (h2 : j ≠ 8 ∧ j ≠ 9 ∧ j ≠ 10 ∧ j ≠ 12 ∧ j ≠ 13) (h3 : ∀ k, 18 ≤ k → k < 23 → j ≠ sf i k) (h4 : j ≠ sf i 7) : ∀ k, A + k ≤ 300000000 → (sp_many w p i k).2 j = w j
  | 0, _ => rfl
  | k + 1, hk => by
    have o := h.many (p := p) hi k (by omega)
    have oq := o.nq
    have ol := o.lim
    show (sp_arr (sp_many w p i k).2 p i).2 j = w j
    rw [sp_arr_ne (N := ((sp_many w p i k).2 8).toInt.toNat) (Int.toNat_of_nonneg oq.1).symm ol.2 oq.2 h1 h2 h3 h4, sp_many_ne h hi h1 h2 h3 h4 k (by omega)]
theorem RF.leave {g : Nat → Int32} {L : Nat → Int64} {t : Option (List Nat)} {w w' : Nat → Int32} {i A S T : Nat} {wt mk : Int32} (h : RF g L t w i) (hf : FOK (fun k => w (sf i k)) A S) (hS : S < 200000) (hm : mk = 0 ∨ mk = 1) (hw : 0 ≤ wt.toInt ∧ wt.toInt ≤ 10400)
    (e : ∀ k, k < 26 → k ≠ 23 → k ≠ 24 → k ≠ 25 → w' (sf i k) = w (sf i k)) (e5 : w' (sf i 23) = w (sf i 23) + 1) (e6 : w' (sf i 24) = w (sf i 24) + mk) (e7 : w' (sf i 25) = w (sf i 25) + wt) :
    RF g (zup (zup (zup L 5 (L 5 + 1)) 6 (L 6 + mk.toInt64)) 7 (L 7 + wt.toInt64)) t w' i := by
  have q5 := hf.a5
  have q6 := hf.a6
  have q7 := hf.a7
  have b := ti_bit hm
  refine ⟨fun k hk => (h.1 k hk).trans (e k (by omega) (by omega) (by omega) (by omega)).symm, fun k hk => ?_, h.2.2.congr hf.lng.2 fun k h1 h2 => e k (by omega) (by omega) (by omega) (by omega)⟩
  by_cases k7 : k = 7
  · rw [k7, zup_self, show L 7 = (w (sf i 25)).toInt64 from h.2.1 7 (by omega), show w' (sf i (18 + 7)) = _ from e7]
    exact t64_add (by omega)
  · rw [zup_ne _ _ k7]
    by_cases k6 : k = 6
    · rw [k6, zup_self, show L 6 = (w (sf i 24)).toInt64 from h.2.1 6 (by omega), show w' (sf i (18 + 6)) = _ from e6]
      exact t64_add (by omega)
    · rw [zup_ne _ _ k6]
      by_cases k5 : k = 5
      · rw [k5, zup_self, show L 5 = (w (sf i 23)).toInt64 from h.2.1 5 (by omega), show w' (sf i (18 + 5)) = _ from e5]
        exact t64_1 (by omega)
      · rw [zup_ne _ _ k5, h.2.1 k hk, e (18 + k) (by omega) (by omega) (by omega) (by omega)]
section
variable {l : Launch} {G : zG} {M : zM} {r : Nat} {w : Nat → Int32} {e : Bool}
/-- the packets leave -/
theorem C_letLeave {n A S T m : Nat} {q : Int32} {Kf : zM → Prop} (hO : OK w n A S T) (hR : Rel M r w e) (hq : q.toInt = m) (hm : (m : Int) ≤ (w 8).toInt) (hm9 : m ≤ 9) (hS : S + 40 ≤ 200000) (hT : T ≤ 10400)
    (h : ∀ M', zFr r M M' → Rel M' r (sp_slide (zup (sp_leaves w m) 8 (sp_leaves w m 8 - q)) m (172 + 3 * (zup (sp_leaves w m) 8 (sp_leaves w m 8 - q) 8).toInt.toNat)) e → Kf M') : zCalV l G Y_X5_letLeave 0 0 [vr 15 r, vi q] M Kf := by
  have key : ∀ d j : Nat, j + d = m → ∀ (y : Int32) (M1 : zM), y.toInt = j → zFr r M M1 → Rel M1 r (sp_leaves w j) e → zAt l G Y_X5_letLeave (zEV G Y_X5_letLeave Kf) 2 [(0, vr 15 r), (1, vi q), (2, vi y)] [] M1 0 0 := by
    intro d
    induction d with
    | zero =>
      intro j hj y M1 hy hF hR1
      have hjm : j = m := by omega
      rw [hjm] at hR1 hy
      obtain ⟨o, oq⟩ := sp_leaves_q hO hS hT m hm
      have hq40 := o.q40
      have hl8 := o.nq
      refine zb_X5_letLeave_2 ⟨fun _ => ?_, fun c => ?_⟩
      · obtain ⟨N, hN⟩ : ∃ N : Nat, (sp_leaves w m 8).toInt = N := ⟨_, (Int.toNat_of_nonneg hl8.1).symm⟩
        have hmN : m ≤ N := by
          rw [oq 8 (by omega)] at hN
          omega
        have b1 : M1.1 19 r 1 = sp_leaves w m 8 := hR1.2.2.1.1
        have b2 : (sp_leaves w m 8 - q).toInt = (N - m : Nat) := by rw [ti_sub (by omega)]; omega
        have b3 : (q * 3).toInt = (3 * m : Nat) := by rw [ti_mul (by rw [hq, show (3 : Int32).toInt = 3 from rfl]; omega), hq, show (3 : Int32).toInt = 3 from rfl]; omega
        have b4 : ((sp_leaves w m 8 - q) * 3).toInt = (3 * (N - m) : Nat) := by rw [ti_mul (by rw [b2, show (3 : Int32).toInt = 3 from rfl]; omega), b2, show (3 : Int32).toInt = 3 from rfl]; omega
        refine zm_X3_removeFirst ⟨fun c => ?_, fun _ => ⟨fun _ => ?_, fun c => ?_⟩⟩
        · exfalso
          rw [ti_lt, ti_0] at c
          omega
        · (simp only [zmI, zmL, zmN, zmT, zmI_sI, zmI_sL, zmI_sN, zsI2, zsL2, zmL_sL, zmL_sI, zmN_sI, zmN_sL, zmT_sI, zmT_sL, Nat.reduceEqDiff, false_and, and_false, and_self, if_false, if_true])
          rw [zup_self, b1]
          refine ⟨⟨?_, by decide, ?_, ?_, ?_⟩, h _ ((hF.I (inR19 r)).I (inR20 r)) ?_⟩
          · rw [ti_lt, b3, ti_0]; omega
          · rw [ti_lt, b4, ti_0]; omega
          · rw [ti_at b3, ti_at b4]; omega
          · rw [show (0 : Int32).toNatClampNeg = 0 from rfl, ti_at b4]; omega
          · rw [ti_at b3, ti_at b4, show (0 : Int32).toNatClampNeg = 0 from rfl]
            obtain ⟨ra, rf, rq, rd⟩ := hR1
            have s8 : ∀ x k : Nat, sp_slide (zup (sp_leaves w m) 8 (sp_leaves w m 8 - q)) x k 8 = sp_leaves w m 8 - q := fun x k => (if_neg (by omega)).trans (zup_self _ _ _)
            have so : ∀ x k j : Nat, j ≠ 8 → j < 172 → sp_slide (zup (sp_leaves w m) 8 (sp_leaves w m 8 - q)) x k j = sp_leaves w m j := fun x k j h1 h2 => (if_neg (by omega)).trans (zup_ne _ _ h1)
            rw [zup_self]
            rw [show (sp_leaves w m 8 - q).toInt.toNat = N - m by omega]
            unfold Rel
            (simp only [zmI, zmL, zmN, zmT, zmI_sI, zmI_sL, zmI_sN, zsI2, zsL2, zmL_sL, zmL_sI, zmN_sI, zmN_sL, zmT_sI, zmT_sL, Nat.reduceEqDiff, false_and, and_false, and_self, if_false, if_true])
            refine ⟨ra.congr fun k h1 h2 h3 => so _ _ k h2 (by omega), fun i hi => ?_, ⟨?_, fun k hk => ?_⟩, rd.congr (so _ _ 12 (by omega) (by omega)) fun j h1 h2 => ?_⟩
            · rw [so _ _ 11 (by omega) (by omega)] at hi
              have hn := o.nf
              exact (rf i hi).congr (o.lng i (by omega)) fun k hk => so _ _ _ (by have := hn.2; (first | omega | (simp only [sf, sq, sd] at *; omega))) (by have := hn.2; (first | omega | (simp only [sf, sq, sd] at *; omega)))
            · rw [zup_self, s8]
            · rw [s8, b2] at hk
              unfold va_cpy
              rw [if_pos (by omega)]
              have e1 : sp_slide (zup (sp_leaves w m) 8 (sp_leaves w m 8 - q)) m (172 + 3 * (N - m)) (172 + k) = zup (sp_leaves w m) 8 (sp_leaves w m 8 - q) (172 + k + 3 * m) := if_pos (by omega)
              rw [e1, zup_ne _ _ (by omega)]
              have e2 := rq.2 (3 * m + (k - 0)) (by rw [hN]; omega)
              rw [show 172 + k + 3 * m = 172 + (3 * m + (k - 0)) by omega]
              exact e2
            · exact (if_neg (by omega)).trans (zup_ne _ _ (by omega))
        · exfalso
          rw [ti_le, show (zmI M1 19 r 1) = _ from b1, hN] at c
          omega
      · exfalso
        rw [ti_le] at c
        omega
    | succ d ih =>
      intro j hj y M1 hy hF hR1
      obtain ⟨o, oq⟩ := sp_leaves_q hO hS hT j (by omega)
      have hn := o.nf
      have hq40 := o.q40
      have hj8 : (j : Int) < (sp_leaves w j 8).toInt := by rw [oq 8 (by omega)]; omega
      obtain ⟨⟨k1, k2⟩, ⟨k3, k4⟩, k5⟩ := o.qu j hj8
      have ht := o.tim
      refine zb_X5_letLeave_2 ⟨fun c => ?_, fun _ => ?_⟩
      · exfalso
        rw [ti_le] at c
        omega
      · obtain ⟨i, hi⟩ : ∃ i : Nat, (sp_leaves w j (sq j 0)).toInt = i := ⟨_, (Int.toNat_of_nonneg k1).symm⟩
        have hin : i < n := by omega
        have c0 : M1.1 20 r (3 * j + 0) = sp_leaves w j (sq j 0) := (hR1.2.2.1.2 (3 * j + 0) (by omega)).trans (congrArg (sp_leaves w j) (by (first | omega | (simp only [sf, sq, sd] at *; omega))))
        have c1 : M1.1 20 r (3 * j + 1) = sp_leaves w j (sq j 1) := (hR1.2.2.1.2 (3 * j + 1) (by omega)).trans (congrArg (sp_leaves w j) (by (first | omega | (simp only [sf, sq, sd] at *; omega))))
        have c2 : M1.1 20 r (3 * j + 2) = sp_leaves w j (sq j 2) := (hR1.2.2.1.2 (3 * j + 2) (by omega)).trans (congrArg (sp_leaves w j) (by (first | omega | (simp only [sf, sq, sd] at *; omega))))
        have c7 : zmI M1 15 r 7 = sp_leaves w j 7 := hR1.1.1 7 (by omega)
        refine C_qcell (k := 0) hy rfl (by omega) ?_
        rw [show zmI M1 20 r (3 * j + 0) = _ from c0]
        refine C_hasFlow (hR1.n o) hn.2 ?_
        rw [if_pos (by omega)]
        refine ⟨fun c => absurd c (by decide), fun _ => ⟨ti_in (by omega), C_qcell (k := 1) hy rfl (by omega) (C_qcell (k := 2) hy rfl (by omega) (zm_X1_countLeaving ?_))⟩⟩
        rw [ti_at hi, show zmI M1 20 r (3 * j + 1) = _ from c1, show zmI M1 20 r (3 * j + 2) = _ from c2, c7]
        simp only [zmL, zmL_sL, zsL2, and_self, if_true]
        have l6 : ∀ v, zup (M1.2.1 18 (6 * r + i)) 5 v 6 = M1.2.1 18 (6 * r + i) 6 := fun v => zup_ne _ _ (by omega)
        have l7 : ∀ v u, zup (zup (M1.2.1 18 (6 * r + i)) 5 v) 6 u 7 = M1.2.1 18 (6 * r + i) 7 := fun v u => by rw [zup_ne _ _ (by omega), zup_ne _ _ (by omega)]
        rw [l6, l7]
        have hii : (sp_leaves w j (sq j 0)).toInt.toNat = i := by omega
        have f := hR1.2.1 i (by omega)
        have hfo := o.fl i hin
        have nx := ih (j + 1) (by omega) (y + 1) (zsLr M1 18 (6 * r + i) (zup (zup (zup (M1.2.1 18 (6 * r + i)) 5 (M1.2.1 18 (6 * r + i) 5 + 1)) 6 (M1.2.1 18 (6 * r + i) 6 + (sp_leaves w j (sq j 2)).toInt64)) 7 (M1.2.1 18 (6 * r + i) 7 + (sp_leaves w j 7 - sp_leaves w j (sq j 1)).toInt64))) (ti_inc hy (by omega)) (hF.L (inR18 (by omega))) ?_
        · exact zb_X5_letLeave_57 nx
        · have ne : ∀ x, ¬ (sf i 23 ≤ x ∧ x < sf i 26) → sp_leave (sp_leaves w j) j x = sp_leaves w j x := fun x hx => sp_leave_ne (by rw [hii]; (first | omega | (simp only [sf, sq, sd] at *; omega))) (by rw [hii]; (first | omega | (simp only [sf, sq, sd] at *; omega))) (by rw [hii]; (first | omega | (simp only [sf, sq, sd] at *; omega)))
          have hz := hR1.flow (g := M1.1 17 (6 * r + i)) (w' := sp_leave (sp_leaves w j) j) (L := zup (zup (zup (M1.2.1 18 (6 * r + i)) 5 (M1.2.1 18 (6 * r + i) 5 + 1)) 6 (M1.2.1 18 (6 * r + i) 6 + (sp_leaves w j (sq j 2)).toInt64)) 7 (M1.2.1 18 (6 * r + i) 7 + (sp_leaves w j 7 - sp_leaves w j (sq j 1)).toInt64)) (A := A) (S := S) hn o.lng o.q40 hin (fun x _ hx => ne x (by (first | omega | (simp only [sf, sq, sd] at *; omega))))
            (f.leave (T := T) (wt := sp_leaves w j 7 - sp_leaves w j (sq j 1)) hfo (by omega) k5 (by rw [ti_sub (by omega)]; omega) (fun k hk h1 h2 h3 => ne _ (by (first | omega | (simp only [sf, sq, sd] at *; omega)))) (by rw [← hii]; exact sp_leave_23) (by rw [← hii]; exact sp_leave_24) (by rw [← hii]; exact sp_leave_25))
          have e0 : ∀ (M9 : zM), zsIr M9 17 (6 * r + i) (M9.1 17 (6 * r + i)) = M9 := fun M9 => zsI0 M9 17 (6 * r + i)
          have e1 := e0 (zsLr M1 18 (6 * r + i) (zup (zup (zup (M1.2.1 18 (6 * r + i)) 5 (M1.2.1 18 (6 * r + i) 5 + 1)) 6 (M1.2.1 18 (6 * r + i) 6 + (sp_leaves w j (sq j 2)).toInt64)) 7 (M1.2.1 18 (6 * r + i) 7 + (sp_leaves w j 7 - sp_leaves w j (sq j 1)).toInt64)))
          exact e1 ▸ hz
  exact zm_X5_letLeave (key m 0 (by omega) 0 M rfl (zFr.refl r M) hR)
/-- A TICK of the class's router is a tick of the row -/
theorem C_pass {n A S T : Nat} {Kf : zM → Prop} (hO : OK w n A S T) (hR : Rel M r w e) (hA : A + 54 ≤ 300000000) (hS : S + 40 ≤ 200000) (hT : T < 10400)
    (h : ∀ M', zFr r M M' → Rel M' r (sp_pass w (!e)) e → Kf M') : zCalV l G Y_X5_passTick 0 0 [vr 15 r] M Kf := by
  have hn := hO.nf
  have hnn : (w 11).toInt.toNat = n := by omega
  unfold sp_pass at h
  dsimp only at h
  rw [hnn] at h
  have hO1 := hO.tick (by omega)
  have hR1 := hR.set (k := 7) (v := w 7 + 1) hn hO.lng hO.q40 (by omega)
  have hO2 := (hO1.flows (p := !e) n (Nat.le_refl _) (by omega)).mono (show A + 9 * n ≤ A + 54 by omega) (Nat.le_refl S) (Nat.le_refl (T + 1))
  generalize hw1 : zup w 7 (w 7 + 1) = w1 at *
  have h11 := hO1.nf
  -- the end
  have fin : ∀ M1 : zM, zFr r M M1 → Rel M1 r (sp_flows w1 (!e) n) e → zAt l G Y_X5_passTick (zEV G Y_X5_passTick Kf) 84 [(0, vr 15 r)] [] M1 0 0 := by
    intro M1 hF hR2
    generalize hw2 : sp_flows w1 (!e) n = w2 at *
    have hm := sp_nl_q hO2
    obtain ⟨m, hm1⟩ : ∃ m : Nat, (sp_nl w2).toInt = m := ⟨_, (Int.toNat_of_nonneg hm.1).symm⟩
    have hm2 : (sp_nl w2).toInt.toNat = m := by omega
    rw [hm2] at h
    have b1 : M1.1 19 r 1 = w2 8 := hR2.2.2.1.1
    have b2 : M1.1 15 r 1 = w2 1 := hR2.1.1 1 (by omega)
    have enl : (if zmI M1 19 r 1 < zmI M1 15 r 1 then zmI M1 19 r 1 else zmI M1 15 r 1) = sp_nl w2 := by
      rw [show zmI M1 19 r 1 = _ from b1, show zmI M1 15 r 1 = _ from b2]
      rfl
    have eo : zup (sp_leaves w2 m) 8 (sp_leaves w2 m 8 - sp_nl w2) = sp_out w2 := by
      unfold sp_out
      rw [hm2]
    have hO3 := hO2.leaves hS (by omega)
    rw [hm2] at hO3
    refine zb_X5_passTick_84 ?_
    rw [enl]
    refine C_letLeave hO2 hR2 hm1 (by omega) (by omega) hS (by omega) fun M2 hF2 hR3 => ?_
    rw [eo] at hR3
    generalize hw3 : sp_slide (sp_out w2) m (172 + 3 * (sp_out w2 8).toInt.toNat) = w3 at *
    have d1 : M2.1 19 r 1 = w3 8 := hR3.2.2.1.1
    have d8 : M2.1 15 r 8 = w3 9 := hR3.1.2.1
    have d5 : M2.1 15 r 5 = w3 5 := hR3.1.1 5 (by omega)
    unfold sp_rest at h
    refine ⟨fun c => ?_, fun c => ?_⟩
    · rw [show zmI M2 19 r 1 = _ from d1] at c
      rw [if_neg c] at h
      exact h M2 (hF.trans hF2) hR3
    · rw [show zmI M2 19 r 1 = _ from d1] at c
      rw [if_pos c] at h
      rw [show zmI M2 15 r 8 = _ from d8, show zmI M2 15 r 5 = _ from d5]
      exact h _ ((hF.trans hF2).I (inR15 r)) (hR3.avg hO3.nf hO3.lng hO3.q40)
  have key : ∀ d j : Nat, j + d = n → ∀ (y : Int32) (M1 : zM), y.toInt = j → zFr r M M1 → Rel M1 r (sp_flows w1 (!e) j) e → zAt l G Y_X5_passTick (zEV G Y_X5_passTick Kf) 12 [(0, vr 15 r), (1, vi y)] [] M1 0 0 := by
    intro d
    induction d with
    | zero =>
      intro j hj y M1 hy hF hR2
      have o := hO1.flows (p := !e) j (by omega) (by omega)
      have hjn : j = n := by omega
      refine zb_X5_passTick_12 ⟨fun _ => ?_, fun c => ?_⟩
      · rw [hjn] at hR2
        exact fin M1 hF hR2
      · exfalso
        rw [ti_le, hR2.n o] at c
        omega
    | succ d ih =>
      intro j hj y M1 hy hF hR2
      have o := hO1.flows (p := !e) j (by omega) (by omega)
      have hjn : j < n := by omega
      refine zb_X5_passTick_12 ⟨fun c => ?_, fun _ => ⟨fun c => ?_, fun _ => ⟨ti_in (by omega), ?_⟩⟩⟩
      · exfalso
        rw [ti_le, hR2.n o] at c
        omega
      · exfalso
        rw [ti_le, show (6 : Int32).toInt = 6 from rfl] at c
        omega
      · rw [ti_at hy]
        refine C_now o hR2 hjn (hR2.1.1 7 (by omega)) ?_
        by_cases cn : sp_now (sp_flows w1 (!e) j) j = true
        · rw [if_pos cn]
          refine ⟨fun c => absurd c (by decide), fun _ => ⟨ti_in (by omega), C_adapt o hR2 hjn fun M2 hF2 hR3 => ?_⟩⟩
          obtain ⟨oa, w6a, w6b⟩ := o.adapt hjn
          generalize hwa : sp_adapt (sp_flows w1 (!e) j) j = wa at *
          obtain ⟨W, hW⟩ : ∃ W : Nat, (wa (sf j 6)).toInt = W := ⟨_, (Int.toNat_of_nonneg (by omega)).symm⟩
          have enx : sp_flows w1 (!e) (j + 1) = (sp_many wa (!e) j W).2 := by
            show (if _ then _ else _) = _
            rw [if_pos cn]
            unfold sp_sends
            rw [hwa, show (wa (sf j 6)).toInt.toNat = W by omega]
          obtain rfl := nI_ofT hy
          have inner : ∀ d' k : Nat, k + d' = W → ∀ (z : Int32) (M3 : zM), z.toInt = k → zFr r M M3 → Rel M3 r (sp_many wa (!e) j k).2 e → zAt l G Y_X5_passTick (zEV G Y_X5_passTick Kf) 53 [(0, vr 15 r), (1, vi (nI j)), (2, vi z)] [] M3 0 0 := by
            intro d'
            induction d' with
            | zero =>
              intro k hk z M3 hz hF3 hR4
              have ok := oa.many (p := !e) hjn k (by omega)
              have wk : zmI M3 17 (6 * r + j) 7 = wa (sf j 6) := by
                rw [show zmI M3 17 (6 * r + j) 7 = _ from (hR4.2.1 j (by rw [ok.nf.1]; omega)).1 6 (by omega)]
                exact sp_many_ne oa hjn (by (first | omega | (simp only [sf, sq, sd] at *; omega))) (by (first | omega | (simp only [sf, sq, sd] at *; omega))) (by intros; (first | omega | (simp only [sf, sq, sd] at *; omega))) (by (first | omega | (simp only [sf, sq, sd] at *; omega))) k (by omega)
              refine zb_X5_passTick_53 ⟨ti_in (by omega), ?_⟩
              rw [ti_at hy, wk]
              refine ⟨fun _ => zb_X5_passTick_78 (ih (j + 1) (by omega) (nI j + 1) M3 (ti_inc hy (by omega)) hF3 ?_), fun c => ?_⟩
              · rw [enx, show W = k by omega]
                exact hR4
              · exfalso
                rw [ti_le] at c
                omega
            | succ d' ih2 =>
              intro k hk z M3 hz hF3 hR4
              have ok := oa.many (p := !e) hjn k (by omega)
              have wk : zmI M3 17 (6 * r + j) 7 = wa (sf j 6) := by
                rw [show zmI M3 17 (6 * r + j) 7 = _ from (hR4.2.1 j (by rw [ok.nf.1]; omega)).1 6 (by omega)]
                exact sp_many_ne oa hjn (by (first | omega | (simp only [sf, sq, sd] at *; omega))) (by (first | omega | (simp only [sf, sq, sd] at *; omega))) (by intros; (first | omega | (simp only [sf, sq, sd] at *; omega))) (by (first | omega | (simp only [sf, sq, sd] at *; omega))) k (by omega)
              refine zb_X5_passTick_53 ⟨ti_in (by omega), ?_⟩
              rw [ti_at hy, wk]
              refine ⟨fun c => ?_, fun _ => C_arr ok hR4 hjn (by omega) fun M4 hF4 hR5 => ih2 (k + 1) (by omega) (z + 1) M4 (ti_inc hz (by omega)) (hF3.trans hF4) hR5⟩
              exfalso
              rw [ti_le] at c
              omega
          exact inner W 0 (by omega) 0 M2 rfl (hF.trans hF2) hR3
        · rw [if_neg cn]
          refine ⟨fun _ => zb_X5_passTick_78 (ih (j + 1) (by omega) (y + 1) M1 (ti_inc hy (by omega)) hF ?_), fun c => absurd rfl c⟩
          have enx : sp_flows w1 (!e) (j + 1) = sp_flows w1 (!e) j := by
            show (if _ then _ else _) = _
            rw [if_neg cn]
          rw [enx]
          exact hR2
  refine zm_X5_passTick (key n 0 (by omega) 0 _ rfl ((zFr.refl r M).I (inR15 r)) ?_)
  rw [show zmI M 15 r 7 = w 7 from hR.1.1 7 (by omega)]
  exact hR1
end
