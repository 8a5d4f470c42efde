/-- a flow's name; what the report says of it, in pieces; of the packets -/
def nm (w : Nat → Int32) (i : Nat) : List Nat := (List.range (w (sf i 9)).toInt.toNat).map (fun j => (w (sf i (10 + j))).toInt.toNat)
def rpF (w : Nat → Int32) (i : Nat) : List (List Nat) := [nm w i, [58], decL (w (sf i 18)).toInt.toNat, [47], decL (w (sf i 23)).toInt.toNat, if w (sf i 7) = 1 then [33] else [], [32]]
def rpQ (w : Nat → Int32) (k : Nat) : List (List Nat) := [decL (w (sq k 0)).toInt.toNat, if w (sq k 2) = 1 then [42] else []]
def rpFs (w : Nat → Int32) : Nat → List (List Nat)
  | 0 => []
  | i + 1 => rpFs w i ++ rpF w i
def rpQs (w : Nat → Int32) : Nat → List (List Nat)
  | 0 => []
  | i + 1 => rpQs w i ++ rpQ w i
theorem nm_len (w : Nat → Int32) (i : Nat) : (nm w i).length = (w (sf i 9)).toInt.toNat := by simp [nm]
theorem nm_at {w : Nat → Int32} {i j : Nat} (h : j < (w (sf i 9)).toInt.toNat) : (nm w i).getD j 0 = (w (sf i (10 + j))).toInt.toNat := by
  unfold nm
  rw [List.getD_eq_getElem?_getD, List.getElem?_map, List.getElem?_range h]
  rfl
theorem nm_of {w : Nat → Int32} {i : Nat} {s : List Nat} (h1 : s.length = (w (sf i 9)).toInt.toNat) (h2 : ∀ j : Nat, j < s.length → s.getD j 0 = (w (sf i (10 + j))).toInt.toNat) : s = nm w i := by
  apply List.ext_getElem?
  intro j
  by_cases c : j < s.length
  · have e1 := h2 j c
    have e2 := nm_at (w := w) (i := i) (j := j) (by omega)
    rw [List.getD_eq_getElem?_getD] at e1 e2
    rw [List.getElem?_eq_getElem c] at e1 ⊢
    rw [List.getElem?_eq_getElem (by rw [nm_len]; omega)] at e2 ⊢
    simp only [Option.getD_some] at e1 e2
    rw [e1, e2]
  · rw [List.getElem?_eq_none (by omega), List.getElem?_eq_none (by rw [nm_len]; omega)]
theorem rpF_len {w : Nat → Int32} {n A S T i : Nat} (hO : OK w n A S T) (hb : sBnd A S) (hi : i < n) : ((rpF w i).flatten.length ≤ 30 ∧ (nm w i).length ≤ 8 ∧ (w (sf i 18)).toInt.toNat < 1000000000 ∧ (w (sf i 23)).toInt.toNat < 1000000000) := by
  have f := hO.fl i hi
  have h9 : 0 ≤ (w (sf i 9)).toInt ∧ (w (sf i 9)).toInt ≤ 8 := f.lng
  have h18 : 0 ≤ (w (sf i 18)).toInt ∧ (w (sf i 18)).toInt ≤ A := f.a0
  have h23 : 0 ≤ (w (sf i 23)).toInt ∧ (w (sf i 23)).toInt ≤ S := f.a5
  have hA := hb.1
  have hS := hb.2
  have d1 := (dg_b (x := (w (sf i 18)).toInt.toNat) (by omega)).2.2
  have d2 := (dg_b (x := (w (sf i 23)).toInt.toNat) (by omega)).2.2
  refine ⟨?_, by rw [nm_len]; omega, by omega, by omega⟩
  unfold rpF
  simp only [List.flatten_cons, List.flatten_nil, List.length_append, nm_len, decL_len, List.length_cons, List.length_nil]
  split <;> simp only [List.length_cons, List.length_nil] <;> omega
section
variable {l : Launch} {G : zG} {M0 M : zM} {t : List Nat} {w : Nat → Int32}
theorem Wr.row (h : Wr M0 M t) (hw : M0.1 31 0 = w) : zmI M 31 0 = w := (h.1 31 0 (by omega) (by omega)).trans hw
theorem R_wrF {n A S T i : Nat} {p : Int32} {Kf : zM → Prop} (hO : OK w n A S T) (hb : sBnd A S) (hi : i < n) (hw : M0.1 31 0 = w) (h : Wr M0 M t) (ht : t.length + 30 ≤ 400) (hp : p.toInt = i) (hk : ∀ M', Wr M0 M' (t ++ (rpF w i).flatten) → Kf M') : zCalV l G Y_X9_writesFlow 0 0 [vr 30 0, vi p] M Kf := by
  have hn := hO.nf.2
  obtain ⟨L1, L2, L3, L4⟩ := rpF_len hO hb hi
  have f := hO.fl i hi
  have h9 : 0 ≤ (w (sf i 9)).toInt ∧ (w (sf i 9)).toInt ≤ 8 := f.lng
  have hlet : ∀ j : Nat, (j : Int) < (w (sf i 9)).toInt → 97 ≤ (w (sf i (10 + j))).toInt ∧ (w (sf i (10 + j))).toInt ≤ 122 := f.let_
  have h18 : 0 ≤ (w (sf i 18)).toInt ∧ (w (sf i 18)).toInt ≤ A := f.a0
  have h23 : 0 ≤ (w (sf i 23)).toInt ∧ (w (sf i 23)).toInt ≤ S := f.a5
  have htl : w (sf i 7) = 0 ∨ w (sf i 7) = 1 := f.tld
  have d1 := (dg_b (x := (w (sf i 18)).toInt.toNat) L3).2.2
  have d2 := (dg_b (x := (w (sf i 23)).toInt.toNat) L4).2.2
  rw [nm_len] at L2
  -- behind the letters
  have rest : ∀ M1 : zM, Wr M0 M1 (t ++ nm w i) → zCalV l G Y_X9_writes 0 0 [vr 30 0, vi 58] M1 (fun M3 => (zCalI l G Y_X9_accountOf 0 0 [vr 30 0, vi p, vi 0] M3 (fun x5 M4 => (zCalV l G Y_X9_writesNumber 0 0 [vr 30 0, vi x5] M4 (fun M6 => (zCalV l G Y_X9_writes 0 0 [vr 30 0, vi 47] M6 (fun M7 => (zCalI l G Y_X9_accountOf 0 0 [vr 30 0, vi p, vi 5] M7 (fun x9 M8 => (zCalV l G Y_X9_writesNumber 0 0 [vr 30 0, vi x9] M8 (fun M10 => (zCalI l G Y_X9_ofFlow 0 0 [vr 30 0, vi p, vi 7] M10 (fun x12 M11 => ((¬ x12 = 1 → zAt l G Y_X9_writesFlow (zEV G Y_X9_writesFlow Kf) 81 [(0, vr 30 0)] [] M11 0 0) ∧ (x12 = 1 → (zCalV l G Y_X9_writes 0 0 [vr 30 0, vi 33] M11 (fun M13 => zAt l G Y_X9_writesFlow (zEV G Y_X9_writesFlow Kf) 81 [(0, vr 30 0)] [] M13 0 0))))))))))))))))) := by
    intro M1 m1
    refine R_writes (c := 58) rfl m1 (by rw [List.length_append, nm_len]; omega) fun M3 m3 => R_account (a := 0) hp (by omega) rfl (by omega) ?_
    rw [m3.row hw]
    refine R_num (x := (w (sf i 18)).toInt.toNat) (Int.toNat_of_nonneg h18.1).symm L3 m3 (by simp only [List.length_append, nm_len, List.length_cons, List.length_nil]; omega) fun M6 m6 => R_writes (c := 47) rfl m6 (by simp only [List.length_append, nm_len, decL_len, List.length_cons, List.length_nil]; omega) fun M7 m7 => R_account (a := 5) hp (by omega) rfl (by omega) ?_
    rw [m7.row hw]
    refine R_num (x := (w (sf i 23)).toInt.toNat) (Int.toNat_of_nonneg h23.1).symm L4 m7 (by simp only [List.length_append, nm_len, decL_len, List.length_cons, List.length_nil]; omega) fun M10 m10 => R_ofFlow (k := 7) hp rfl (by (first | omega | (simp only [sf, sq, sd] at *; omega))) ?_
    rw [m10.row hw]
    refine ⟨fun c => zb_X9_writesFlow_81 (R_writes (c := 32) rfl m10 (by simp only [List.length_append, nm_len, decL_len, List.length_cons, List.length_nil]; omega) fun M12 m12 => hk M12 ?_), fun c => R_writes (c := 33) rfl m10 (by simp only [List.length_append, nm_len, decL_len, List.length_cons, List.length_nil]; omega) fun M12 m12 => zb_X9_writesFlow_81 (R_writes (c := 32) rfl m12 (by simp only [List.length_append, nm_len, decL_len, List.length_cons, List.length_nil]; omega) fun M13 m13 => hk M13 ?_)⟩
    · have e : t ++ (rpF w i).flatten = t ++ nm w i ++ [58] ++ decL (w (sf i 18)).toInt.toNat ++ [47] ++ decL (w (sf i 23)).toInt.toNat ++ [32] := by
        unfold rpF
        rw [if_neg c]
        simp [List.append_assoc]
      rw [e]
      exact m12
    · have e : t ++ (rpF w i).flatten = t ++ nm w i ++ [58] ++ decL (w (sf i 18)).toInt.toNat ++ [47] ++ decL (w (sf i 23)).toInt.toNat ++ [33] ++ [32] := by
        unfold rpF
        rw [if_pos c]
        simp [List.append_assoc]
      rw [e]
      exact m13
  have key : ∀ d j : Nat, j + d = (w (sf i 9)).toInt.toNat → ∀ (y : Int32) (M1 : zM), y.toInt = j → Wr M0 M1 (t ++ (List.range j).map (fun j => (w (sf i (10 + j))).toInt.toNat)) → zAt l G Y_X9_writesFlow (zEV G Y_X9_writesFlow Kf) 2 [(0, vr 30 0), (1, vi p), (2, vi y)] [] M1 0 0 := by
    intro d
    induction d with
    | zero =>
      intro j hj y M1 hy m1
      refine zb_X9_writesFlow_2 (R_ofFlow (k := 9) hp rfl (by (first | omega | (simp only [sf, sq, sd] at *; omega))) ?_)
      rw [m1.row hw]
      refine ⟨fun _ => rest M1 ?_, fun c => ?_⟩
      · have e : nm w i = (List.range j).map (fun j => (w (sf i (10 + j))).toInt.toNat) := by unfold nm; rw [show (w (sf i 9)).toInt.toNat = j by omega]
        rw [e]
        exact m1
      · exfalso
        rw [ti_le] at c
        omega
    | succ d ih =>
      intro j hj y M1 hy m1
      refine zb_X9_writesFlow_2 (R_ofFlow (k := 9) hp rfl (by (first | omega | (simp only [sf, sq, sd] at *; omega))) ?_)
      rw [m1.row hw]
      refine ⟨fun c => ?_, fun _ => R_ofFlow (k := 10 + j) hp (by rw [ti_add (by rw [hy]; show _ ≤ (10 : Int) + _ ∧ (10 : Int) + _ ≤ _; omega), hy]; rfl) (by (first | omega | (simp only [sf, sq, sd] at *; omega))) ?_⟩
      · exfalso
        rw [ti_le] at c
        omega
      · rw [m1.row hw]
        have hl := hlet j (by omega)
        have hl2 : (w (sf i (10 + j))).toInt = ((w (sf i (10 + j))).toInt.toNat : Nat) := by omega
        refine R_writes (c := (w (sf i (10 + j))).toInt.toNat) hl2 m1 (by simp only [List.length_append, List.length_map, List.length_range]; omega) fun M2 m2 => ih (j + 1) (by omega) (y + 1) M2 (ti_inc hy (by omega)) ?_
        rw [List.range_succ, List.map_append, ← List.append_assoc]
        exact m2
  exact zm_X9_writesFlow (key (w (sf i 9)).toInt.toNat 0 (by omega) 0 M rfl (by simpa using h))
theorem rpFs_len {n A S T : Nat} (hO : OK w n A S T) (hb : sBnd A S) : ∀ i, i ≤ n → (rpFs w i).flatten.length ≤ 30 * i
  | 0, _ => Nat.le_refl _
  | i + 1, hi => by
    have h1 := rpFs_len hO hb i (by omega)
    have h2 := (rpF_len hO hb (i := i) (by omega)).1
    show (rpFs w i ++ rpF w i).flatten.length ≤ _
    rw [List.flatten_append, List.length_append]
    omega
theorem rpQ_len {n A S T k : Nat} (hO : OK w n A S T) (hk : (k : Int) < (w 8).toInt) : (rpQ w k).flatten.length ≤ 2 ∧ sb_dg (w (sq k 0)).toInt.toNat = 1 := by
  have hn := hO.nf.2
  have h := (hO.qu k hk).1
  have e : sb_dg (w (sq k 0)).toInt.toNat = 1 := if_pos (by omega)
  refine ⟨?_, e⟩
  unfold rpQ
  simp only [List.flatten_cons, List.flatten_nil, List.length_append, decL_len, e, List.length_nil]
  split <;> simp
theorem rpQs_len {n A S T : Nat} (hO : OK w n A S T) : ∀ k : Nat, (k : Int) ≤ (w 8).toInt → (rpQs w k).flatten.length ≤ 2 * k
  | 0, _ => Nat.le_refl _
  | k + 1, hk => by
    have h1 := rpQs_len hO k (by omega)
    have h2 := (rpQ_len hO (k := k) (by omega)).1
    show (rpQs w k ++ rpQ w k).flatten.length ≤ _
    rw [List.flatten_append, List.length_append]
    omega
/-- the whole report, in pieces -/
def rpAll (w : Nat → Int32) (n q : Nat) : List (List Nat) := rpFs w n ++ [124] :: rpQs w q
theorem R_report {n A S T N : Nat} {Kf : Int32 → zM → Prop} (hO : OK w n A S T) (hb : sBnd A S) (hw : M.1 31 0 = w) (hN : (w 8).toInt = N)
    (hk : ∀ M', Wr (zsI M 30 0 7 0) M' (rpAll w n N).flatten → Kf (nI (rpAll w n N).flatten.length) M') : zCalI l G Y_X9_report 0 0 [vr 30 0] M Kf := by
  have hn := hO.nf
  have h40 := hO.q40
  have lF := rpFs_len hO hb n (Nat.le_refl _)
  have w7 : ∀ f : Nat → Int32, (zsIr M 30 0 f).1 31 0 = w := fun f => (zsIo _ _ _ _ _ _ (by omega)).trans hw
  have base : Wr (zsI M 30 0 7 0) (zsI (zsI M 30 0 7 0) 30 0 29 0) [] := by
    refine ⟨fun s i g1 _ => zsIo _ _ _ _ _ _ g1, rfl, fun k hk => ?_, ?_, fun j hj => absurd hj (by simp)⟩
    · rw [zsI1, zup_ne _ _ hk]
    · rw [zsI1, zup_self]
      rfl
  have kQ : ∀ d j : Nat, j + d = N → ∀ (y : Int32) (M1 : zM), y.toInt = j → Wr (zsI M 30 0 7 0) M1 ((rpFs w n).flatten ++ [124] ++ (rpQs w j).flatten) → zAt l G Y_X9_report (zEI G Y_X9_report Kf) 42 [(0, vr 30 0), (1, vi y)] [] M1 0 0 := by
    intro d
    induction d with
    | zero =>
      intro j hj y M1 hy m1
      have e : (rpAll w n N).flatten = (rpFs w n).flatten ++ [124] ++ (rpQs w j).flatten := by
        rw [show N = j by omega]
        simp [rpAll, List.append_assoc]
      refine zb_X9_report_42 ⟨fun _ => ?_, fun c => ?_⟩
      · have e2 : zmI M1 30 0 29 = nI (rpAll w n N).flatten.length := by rw [e]; exact m1.2.2.2.1
        rw [e2]
        exact hk M1 (by rw [e]; exact m1)
      · exfalso
        rw [m1.row (w7 _), ti_le] at c
        omega
    | succ d ih =>
      intro j hj y M1 hy m1
      have lQ := rpQs_len hO j (by omega)
      obtain ⟨l1, l2⟩ := rpQ_len hO (k := j) (by omega)
      have hq := hO.qu j (by omega)
      refine zb_X9_report_42 ⟨fun c => ?_, fun _ => R_ofPacket (k := 0) hy rfl (by (first | omega | (simp only [sf, sq, sd] at *; omega))) ?_⟩
      · exfalso
        rw [m1.row (w7 _), ti_le] at c
        omega
      · rw [m1.row (w7 _)]
        refine R_num (x := (w (sq j 0)).toInt.toNat) (Int.toNat_of_nonneg hq.1.1).symm (by omega) m1 (by simp only [List.length_append, List.length_cons, List.length_nil]; omega) fun M4 m4 => R_ofPacket (k := 2) hy rfl (by (first | omega | (simp only [sf, sq, sd] at *; omega))) ?_
        rw [m4.row (w7 _)]
        refine ⟨fun c => zb_X9_report_79 (ih (j + 1) (by omega) (y + 1) M4 (ti_inc hy (by omega)) ?_), fun c => R_writes (c := 42) rfl m4 (by simp only [List.length_append, decL_len, List.length_cons, List.length_nil]; omega) fun M7 m7 => zb_X9_report_79 (ih (j + 1) (by omega) (y + 1) M7 (ti_inc hy (by omega)) ?_)⟩
        · have e : (rpFs w n).flatten ++ [124] ++ (rpQs w (j + 1)).flatten = (rpFs w n).flatten ++ [124] ++ (rpQs w j).flatten ++ decL (w (sq j 0)).toInt.toNat := by
            show _ ++ (rpQs w j ++ rpQ w j).flatten = _
            unfold rpQ
            rw [if_neg c]
            simp [List.append_assoc]
          rw [e]
          exact m4
        · have e : (rpFs w n).flatten ++ [124] ++ (rpQs w (j + 1)).flatten = (rpFs w n).flatten ++ [124] ++ (rpQs w j).flatten ++ decL (w (sq j 0)).toInt.toNat ++ [42] := by
            show _ ++ (rpQs w j ++ rpQ w j).flatten = _
            unfold rpQ
            rw [if_pos c]
            simp [List.append_assoc]
          rw [e]
          exact m7
  have kF : ∀ d j : Nat, j + d = n → ∀ (y : Int32) (M1 : zM), y.toInt = j → Wr (zsI M 30 0 7 0) M1 (rpFs w j).flatten → zAt l G Y_X9_report (zEI G Y_X9_report Kf) 12 [(0, vr 30 0), (1, vi y)] [] M1 0 0 := by
    intro d
    induction d with
    | zero =>
      intro j hj y M1 hy m1
      have hjn : j = n := by omega
      rw [hjn] at m1
      refine zb_X9_report_12 ⟨fun _ => R_writes (c := 124) rfl m1 (by omega) fun M2 m2 => kQ N 0 (by omega) 0 M2 rfl (by simpa [rpQs] using m2), fun c => ?_⟩
      exfalso
      rw [m1.row (w7 _), ti_le] at c
      omega
    | succ d ih =>
      intro j hj y M1 hy m1
      have lj := rpFs_len hO hb j (by omega)
      refine zb_X9_report_12 ⟨fun c => ?_, fun _ => R_wrF hO hb (i := j) (by omega) (w7 _) m1 (by omega) hy fun M2 m2 => ih (j + 1) (by omega) (y + 1) M2 (ti_inc hy (by omega)) ?_⟩
      · exfalso
        rw [m1.row (w7 _), ti_le] at c
        omega
      · show Wr _ _ (rpFs w j ++ rpF w j).flatten
        rw [List.flatten_append]
        exact m2
  exact zm_X9_report (kF n 0 (by omega) 0 _ rfl base)
end
