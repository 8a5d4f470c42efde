section
variable {l : Launch} {G : zG} {M : zM} {A : Nat} {w : Nat → Int32}
theorem apc_one (L K : List (List Nat)) (m : Nat) : (apc L 0 m).1 + (apc K L.flatten.length (apm L 0 m)).1 = (apc (L ++ K) 0 m).1 ∧ (apc L 0 m).2 + (apc K L.flatten.length (apm L 0 m)).2 = (apc (L ++ K) 0 m).2 ∧ apm K L.flatten.length (apm L 0 m) = apm (L ++ K) 0 m := by
  rw [apc_app, apm_app, Nat.zero_add]
  exact ⟨rfl, rfl, rfl⟩
theorem rp_small {n A S T N : Nat} (hO : OK w n A S T) (hN : (w 8).toInt = N) : ∀ c ∈ (rpAll w n N).flatten, c < 128 := by
  have hn := hO.nf.2
  have h40 := hO.q40
  have hd : ∀ x c : Nat, c ∈ decL x → c < 128 := fun x c h => by
    unfold decL at h
    obtain ⟨i, -, rfl⟩ := List.mem_map.mp h
    unfold sb_dec
    omega
  have hF : ∀ i, i < n → ∀ c ∈ (rpF w i).flatten, c < 128 := by
    intro i hi c hc
    unfold rpF at hc
    simp only [List.flatten_cons, List.flatten_nil, List.append_nil, List.mem_append, List.mem_cons, List.not_mem_nil, or_false] at hc
    have f := hO.fl i hi
    have hlet : ∀ j : Nat, (j : Int) < (w (sf i 9)).toInt → 97 ≤ (w (sf i (10 + j))).toInt ∧ (w (sf i (10 + j))).toInt ≤ 122 := f.let_
    rcases hc with h | h | h | h | h | h | h
    · unfold nm at h
      obtain ⟨j, hj, rfl⟩ := List.mem_map.mp h
      have := hlet j (by have := List.mem_range.mp hj; omega)
      omega
    · omega
    · exact hd _ _ h
    · omega
    · exact hd _ _ h
    · split at h
      · have := List.mem_singleton.mp h
        omega
      · cases h
    · omega
  have hFs : ∀ i, i ≤ n → ∀ c ∈ (rpFs w i).flatten, c < 128 := by
    intro i
    induction i with
    | zero =>
      intro _ c hc
      cases hc
    | succ i ih =>
      intro hi c hc
      have hc2 : c ∈ (rpFs w i ++ rpF w i).flatten := hc
      rw [List.flatten_append] at hc2
      rcases List.mem_append.mp hc2 with h | h
      · exact ih (by omega) c h
      · exact hF i (by omega) c h
  have hQs : ∀ i, ∀ c ∈ (rpQs w i).flatten, c < 128 := by
    intro i
    induction i with
    | zero =>
      intro c hc
      cases hc
    | succ i ih =>
      intro c hc
      have hc2 : c ∈ (rpQs w i ++ rpQ w i).flatten := hc
      rw [List.flatten_append] at hc2
      rcases List.mem_append.mp hc2 with h | h
      · exact ih c h
      · unfold rpQ at h
        simp only [List.flatten_cons, List.flatten_nil, List.append_nil, List.mem_append] at h
        rcases h with h | h
        · exact hd _ _ h
        · split at h
          · have := List.mem_singleton.mp h
            omega
          · cases h
  intro c hc
  unfold rpAll at hc
  rw [List.flatten_append, List.flatten_cons] at hc
  rcases List.mem_append.mp hc with h | h
  · exact hFs n (Nat.le_refl _) c h
  · rcases List.mem_append.mp h with h | h
    · have := List.mem_singleton.mp h
      omega
    · exact hQs N c h
theorem rpAll_len {n A S T N : Nat} (hO : OK w n A S T) (hb : sBnd A S) (hN : (w 8).toInt = N) : (rpAll w n N).flatten.length ≤ 261 := by
  have hn := hO.nf.2
  have h40 := hO.q40
  have h1 := rpFs_len hO hb n (Nat.le_refl _)
  have h2 := rpQs_len hO N (by omega)
  unfold rpAll
  rw [List.flatten_append, List.flatten_cons, List.length_append, List.length_append, List.length_singleton]
  omega
/-- only the page, its count and the builder have changed -/
theorem Inv.page {M' : zM} (h : Inv M A) (o : ∀ s i, ¬ (s = 30 ∧ i = 0) → ¬ (s = 44 ∧ i = 0) → M'.1 s i = M.1 s i) (eL : M'.2.1 = M.2.1) (eN : M'.2.2.2.1 = M.2.2.2.1) (eT : M'.2.2.2.2.1 = M.2.2.2.2.1) (o30 : ∀ k, k ≠ 29 → k ≠ 7 → M'.1 30 0 k = M.1 30 0 k) (hP : Pg M') : Inv M' A := by
  have kR : ∀ {r A' : Nat} {w' : Nat → Int32}, Row M r w' A' → Row M' r w' A' := fun {r A' w'} g => by
    obtain ⟨n, g1, g2⟩ := g
    have hn := g2.nf
    exact ⟨n, g1.kept (by omega) (fun s i hi => by have := inR_sort hi; exact o s i (by omega) (by omega)) (fun s i hi => by rw [eL]) (fun s i hi => by rw [eN]) (fun a t ha => by rw [eT]; exact ha), g2⟩
  refine ⟨?_, by rw [o30 8 (by omega) (by omega)]; exact h.2.1, ?_, ?_, ?_, hP⟩
  · rw [show zmI M' 31 0 = zmI M 31 0 from o 31 0 (by omega) (by omega)]
    exact kR h.1
  · obtain ⟨P, U, h1, h2, h3, h4, h5, h6⟩ := h.2.2.1
    refine ⟨P, U, h1, h2, by rw [o 10 0 (by omega) (by omega)]; exact h3, by rw [o 10 0 (by omega) (by omega)]; exact h4, by rw [o30 6 (by omega) (by omega)]; exact h5, fun j hj => ?_⟩
    rw [o 34 0 (by omega) (by omega)]
    exact kR (h6 j hj)
  · intro s hs
    obtain ⟨h1, h2, h3⟩ := h.2.2.2.1 s hs
    rw [o 13 0 (by omega) (by omega), o 36 0 (by omega) (by omega), o 35 0 (by omega) (by omega)]
    exact ⟨h1, h2, fun c => kR (h3 c)⟩
  · obtain ⟨F, h1, h2, h3, h4, h5⟩ := h.2.2.2.2.1
    refine ⟨F, h1, ?_⟩
    rw [o 1 0 (by omega) (by omega), o 2 0 (by omega) (by omega), o 37 0 (by omega) (by omega), o30 10 (by omega) (by omega), o30 17 (by omega) (by omega)]
    exact ⟨h2, h3, h4, h5⟩
theorem P_report (hI : Inv M A) (hA : A ≤ 299000000) :
    zCalI l G Y_X8_report 9 1700 [vr 0 0] M (fun x M1 => zCalI l G Y_X9_report 0 0 [vr 30 0] M1 (fun y M2 => y = x ∧ Good A 0 M2)) := by
  obtain ⟨n, hR, hO⟩ := hI.1
  have ht := hO.tim
  have hq := hO.nq
  have h40 := hO.q40
  have hn := hO.nf
  obtain ⟨w, hw⟩ : ∃ w, zmI M 31 0 = w := ⟨_, rfl⟩
  rw [hw] at hO hR ht hq h40 hn
  have hb : sBnd A (9 * (w 7).toInt.toNat) := ⟨by omega, by omega⟩
  obtain ⟨N, hN⟩ : ∃ N : Nat, (w 8).toInt = N := ⟨_, (Int.toNat_of_nonneg hq.1).symm⟩
  obtain ⟨m0, hm0⟩ : ∃ m0, (zmB M).2 = m0 := ⟨_, rfl⟩
  have lAll := rpAll_len hO hb hN
  have lF : ∀ j, j ≤ n → (rpFs w j).flatten.length ≤ 30 * j := fun j hj => rpFs_len hO hb j hj
  have lQ : ∀ j : Nat, j ≤ N → (rpQs w j).flatten.length ≤ 2 * j := fun j hj => rpQs_len hO j (by omega)
  have r12 : (zmI M 15 1 12).toInt = n := hR.n hO
  have r8 : zmI M 19 1 1 = w 8 := hR.2.2.1.1
  -- the end: the reference beside
  have fin : zCalI l G Y_X9_report 0 0 [vr 30 0] (zsB M ((rpAll w n N).flatten, apm (rpAll w n N) 0 m0)) (fun y M2 => y = nI (rpAll w n N).flatten.length ∧ Good A 0 M2) := by
    refine R_report hO hb hw hN fun M' m' => ⟨rfl, ?_, ?_⟩
    · rw [m'.2.2.1 7 (by omega)]
      exact z7_0 _
    · obtain ⟨g1, g2, g3, g4, g5⟩ := m'
      refine hI.page (M' := M') (fun s i h1 h2 => (g1 s i h1 h2).trans (zsIo _ _ _ _ _ _ h1)) (by rw [g2]; rfl) (by rw [g2]; rfl) (by rw [g2]; rfl) (fun k h1 h2 => (g3 k h1).trans ?_) ?_
      · simp only [zsI1]
        exact zup_ne _ _ h2
      · have eB : zmB M' = ((rpAll w n N).flatten, apm (rpAll w n N) 0 m0) := by unfold zmB; rw [g2]; rfl
        unfold Pg
        rw [eB]
        refine ⟨by show (rpAll w n N).flatten.length ≤ 400; omega, g4, fun j hj => ⟨g5 j hj, rp_small hO hN _ ?_⟩⟩
        show (rpAll w n N).flatten.getD j 0 ∈ _
        rw [List.getD_eq_getElem?_getD, List.getElem?_eq_getElem hj]
        exact List.getElem_mem hj
  have eAll : ∀ j, rpFs w n ++ [[124]] ++ rpQs w j = rpFs w n ++ [124] :: rpQs w j := fun j => by simp
  have aQ : ∀ j : Nat, j ≤ N → (rpFs w n ++ [[124]] ++ rpQs w j).flatten.length ≤ 261 := fun j hj => by
    have := lF n (Nat.le_refl _)
    have := lQ j hj
    rw [List.flatten_append, List.flatten_append, List.length_append, List.length_append]
    show _ + 1 + _ ≤ _
    omega
  have kQ : ∀ d j : Nat, j + d = N → ∀ y : Int32, y.toInt = j → zAt l G Y_X8_report (zEM G Y_X8_report 9 1700 (zKI (fun x M1 => zCalI l G Y_X9_report 0 0 [vr 30 0] M1 (fun y M2 => y = x ∧ Good A 0 M2)), none)) 58 [(0, vr 0 0), (1, vi y)] [] (zsB M ((rpFs w n ++ [[124]] ++ rpQs w j).flatten, apm (rpFs w n ++ [[124]] ++ rpQs w j) 0 m0)) (apc (rpFs w n ++ [[124]] ++ rpQs w j) 0 m0).1 (apc (rpFs w n ++ [[124]] ++ rpQs w j) 0 m0).2 := by
    intro d
    induction d with
    | zero =>
      intro j hj y hy
      have hjN : j = N := by omega
      have mx := apc_max (rpFs w n ++ [[124]] ++ rpQs w j) m0 (by have := aQ j (by omega); omega)
      refine zb_X8_report_58 ⟨fun _ => ⟨mx.1, mx.2, C_blen ⟨mx.1, mx.2, ?_⟩⟩, fun c => ?_⟩
      · rw [hjN, eAll]
        exact fin
      · exfalso
        have c2 : ¬ zmI M 19 1 1 ≤ y := c
        rw [r8, ti_le] at c2
        omega
    | succ d ih =>
      intro j hj y hy
      have hq2 := hO.qu j (by omega)
      obtain ⟨l1, l2⟩ := rpQ_len hO (k := j) (by omega)
      have a0 := aQ j (by omega)
      have mx := apc_max (rpFs w n ++ [[124]] ++ rpQs w j) m0 (by omega)
      have a1 := aQ (j + 1) (by omega)
      have mx1 := apc_max (rpFs w n ++ [[124]] ++ rpQs w (j + 1)) m0 (by omega)
      have q0 : zmI M 20 1 (3 * j + 0) = w (sq j 0) := hR.2.2.1.2 (3 * j + 0) (by omega)
      have q2 : zmI M 20 1 (3 * j + 2) = w (sq j 2) := hR.2.2.1.2 (3 * j + 2) (by omega)
      have ih2 := ih (j + 1) (by omega) (y + 1) (ti_inc hy (by omega))
      obtain ⟨L, hL⟩ : ∃ L, rpFs w n ++ [[124]] ++ rpQs w j = L := ⟨_, rfl⟩
      have hL1 : rpFs w n ++ [[124]] ++ rpQs w (j + 1) = L ++ rpQ w j := by
        rw [← hL]
        show _ ++ (rpQs w j ++ rpQ w j) = _
        simp only [List.append_assoc]
      rw [hL] at a0 mx ⊢
      rw [hL1] at a1 mx1 ih2
      refine zb_X8_report_58 ⟨fun c => ?_, fun _ => ⟨mx.1, mx.2, C_qcell (k := 0) hy rfl (by omega) ?_⟩⟩
      · exfalso
        have c2 : zmI M 19 1 1 ≤ y := c
        rw [r8, ti_le] at c2
        omega
      · rw [show zmI (zsB M (L.flatten, apm L 0 m0)) 20 1 (3 * j + 0) = w (sq j 0) from q0]
        obtain ⟨X, hX⟩ : ∃ X, (w (sq j 0)).toInt.toNat = X := ⟨_, rfl⟩
        have hX2 : (w (sq j 0)).toInt = X := by have := hq2.1; omega
        rw [hX] at l2
        have hdl : (decL X).length = 1 := by rw [decL_len]; exact l2
        by_cases c : w (sq j 2) = 1
        · have e : rpQ w j = [decL X] ++ [[42]] := by unfold rpQ; rw [if_pos c, hX]; rfl
          rw [e, ← List.append_assoc] at ih2 mx1 a1
          obtain ⟨p1, p2, p3⟩ := apc_one L [decL X] m0
          obtain ⟨p4, p5, p6⟩ := apc_one (L ++ [decL X]) [[42]] m0
          have f1 : (L ++ [decL X]).flatten = L.flatten ++ decL X := by simp
          have f2 : (L ++ [decL X] ++ [[42]]).flatten = L.flatten ++ decL X ++ [42] := by simp
          rw [f2, List.length_append, List.length_append] at a1
          rw [f1] at p4 p5 p6
          simp only [apc, apm, Nat.add_zero] at p1 p2 p3 p4 p5 p6
          rw [← p3] at p4 p5 p6
          rw [f2, ← p6, ← p4, ← p5, ← p1, ← p2] at ih2
          rw [← p4, ← p5, ← p1, ← p2] at mx1
          refine ⟨_, _, ?_, ?_, K_I (zmB_s _ _) (x := X) (by omega) hX2 ⟨rfl, ?_, ?_, C_qcell (k := 2) hy rfl (by omega) ⟨fun g => absurd (q2.trans c) g, fun _ => ⟨_, _, ?_, ?_, K_C (zmB_s _ _) (by rw [List.length_append]; omega) (c := 42) rfl (by omega) ⟨rfl, zb_X8_report_118 ih2⟩⟩⟩⟩⟩
          all_goals first | omega | exact mx1.1 | exact mx1.2
        · have e : rpQ w j = [decL X] ++ [[]] := by unfold rpQ; rw [if_neg c, hX]; rfl
          rw [e, ← List.append_assoc] at ih2 mx1 a1
          obtain ⟨p1, p2, p3⟩ := apc_one L [decL X] m0
          obtain ⟨p4, p5, p6⟩ := apc_one (L ++ [decL X]) [[]] m0
          have f1 : (L ++ [decL X]).flatten = L.flatten ++ decL X := by simp
          have f2 : (L ++ [decL X] ++ [[]]).flatten = L.flatten ++ decL X := by simp
          rw [f2, List.length_append] at a1
          rw [f1] at p4 p5 p6
          simp only [apc, apm, Nat.add_zero, List.length_nil] at p1 p2 p3 p4 p5 p6
          rw [← p3, List.length_append, ap1_0] at p4 p5
          rw [← p3, List.length_append, cap_2] at p6
          rw [f2, ← p6, ← p4, ← p5, ← p1, ← p2] at ih2
          rw [← p4, ← p5, ← p1, ← p2] at mx1
          simp only [Nat.add_zero] at ih2 mx1
          refine ⟨_, _, ?_, ?_, K_I (zmB_s _ _) (x := X) (by omega) hX2 ⟨rfl, ?_, ?_, C_qcell (k := 2) hy rfl (by omega) ⟨fun _ => zb_X8_report_118 ih2, fun g => absurd (q2.symm.trans g) c⟩⟩⟩
          all_goals first | exact mx1.1 | exact mx1.2
  have k46 : zAt l G Y_X8_report (zEM G Y_X8_report 9 1700 (zKI (fun x M1 => zCalI l G Y_X9_report 0 0 [vr 30 0] M1 (fun y M2 => y = x ∧ Good A 0 M2)), none)) 46 [(0, vr 0 0)] [] (zsB M ((rpFs w n).flatten, apm (rpFs w n) 0 m0)) (apc (rpFs w n) 0 m0).1 (apc (rpFs w n) 0 m0).2 := by
    have k0 := kQ N 0 (by omega) 0 rfl
    have a1 := aQ 0 (by omega)
    have mx1 := apc_max (rpFs w n ++ [[124]] ++ rpQs w 0) m0 (by omega)
    have e0 : rpFs w n ++ [[124]] ++ rpQs w 0 = rpFs w n ++ [[124]] := by simp [rpQs]
    rw [e0] at k0 a1 mx1
    obtain ⟨p1, p2, p3⟩ := apc_one (rpFs w n) [[124]] m0
    have f1 : (rpFs w n ++ [[124]]).flatten = (rpFs w n).flatten ++ [124] := by simp
    simp only [apc, apm, Nat.add_zero] at p1 p2 p3
    have hl := lF n (Nat.le_refl _)
    rw [f1, ← p3, ← p1, ← p2] at k0
    rw [← p1, ← p2] at mx1
    exact zb_X8_report_46 ⟨_, _, mx1.1, mx1.2, K_C (zmB_s _ _) (by omega) (c := 124) rfl (by omega) ⟨rfl, k0⟩⟩
  have kF : ∀ d j : Nat, j + d = n → ∀ y : Int32, y.toInt = j → zAt l G Y_X8_report (zEM G Y_X8_report 9 1700 (zKI (fun x M1 => zCalI l G Y_X9_report 0 0 [vr 30 0] M1 (fun y M2 => y = x ∧ Good A 0 M2)), none)) 10 [(0, vr 0 0), (1, vi y)] [] (zsB M ((rpFs w j).flatten, apm (rpFs w j) 0 m0)) (apc (rpFs w j) 0 m0).1 (apc (rpFs w j) 0 m0).2 := by
    intro d
    induction d with
    | zero =>
      intro j hj y hy
      have hjn : j = n := by omega
      rw [hjn]
      refine zb_X8_report_10 ⟨fun _ => k46, fun c => ?_⟩
      exfalso
      have c2 : ¬ zmI M 15 1 12 ≤ y := c
      rw [ti_le, r12] at c2
      omega
    | succ d ih =>
      intro j hj y hy
      have lj := lF j (by omega)
      have lj1 := lF (j + 1) (by omega)
      have hRj : Rel (zsB M ((rpFs w j).flatten, apm (rpFs w j) 0 m0)) 1 w true := hR
      have ih2 := ih (j + 1) (by omega) (y + 1) (ti_inc hy (by omega))
      have mx1 := apc_max (rpFs w (j + 1)) m0 (by omega)
      obtain ⟨p1, p2, p3⟩ := apc_one (rpFs w j) (rpF w j) m0
      have e1 : rpFs w (j + 1) = rpFs w j ++ rpF w j := rfl
      rw [e1, List.flatten_append, ← p1, ← p2, ← p3] at ih2
      rw [e1, ← p1, ← p2] at mx1
      refine zb_X8_report_10 ⟨fun c => ?_, fun _ => ⟨fun c => ?_, fun _ => ⟨ti_in (by omega), ?_⟩⟩⟩
      · exfalso
        have c2 : zmI M 15 1 12 ≤ y := c
        rw [ti_le, r12] at c2
        omega
      · exfalso
        rw [ti_le, show (6 : Int32).toInt = 6 from rfl] at c
        omega
      · rw [ti_at hy]
        refine ⟨_, _, mx1.1, mx1.2, C_wrF hO hb (i := j) (by omega) hRj (zmB_s _ _) ?_ (by omega) ih2⟩
        have := apm_ge (rpFs w j) 0 m0 (Nat.zero_le _)
        omega
  refine zm_X8_report ⟨0, 0, by omega, by omega, C_bset ?_⟩
  rw [hm0]
  exact kF n 0 (by omega) 0 rfl
end
