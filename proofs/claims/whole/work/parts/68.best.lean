theorem tot_set {w : Nat → Int32} {j a : Nat} {v : Int32} (hj : j < 16) : ∀ n, sp_tot (zup w j v) a n = sp_tot w a n
  | 0 => rfl
  | n + 1 => by
    show sp_tot (zup w j v) a n + zup w j v (sf n (18 + a)) = sp_tot w a n + w (sf n (18 + a))
    rw [tot_set hj n, zup_ne _ _ (by (first | omega | (simp only [sf, sq, sd] at *; omega)))]
theorem drp_set {w : Nat → Int32} {j n : Nat} {v : Int32} (hj : j < 16) : sp_drp (zup w j v) n = sp_drp w n := by
  unfold sp_drp
  rw [tot_set hj, tot_set hj, tot_set hj]
theorem OK.drp0 {w : Nat → Int32} {n A S T : Nat} (h : OK w n A S T) (hb : sBnd A S) : 0 ≤ (sp_drp w n).toInt ∧ (sp_drp w n).toInt ≤ 2000000000 := by
  have b0 := h.drp hb
  have := (h.smb (a := 2) (by omega) n (Nat.le_refl _)).1
  have := (h.smb (a := 3) (by omega) n (Nat.le_refl _)).1
  have := (h.smb (a := 4) (by omega) n (Nat.le_refl _)).1
  omega
section
variable {l : Launch} {G : zG} {M : zM} {A : Nat} {w : Nat → Int32}
/-- only what is laid aside has changed -/
def Bk0 (M M' : zM) : Prop := (∀ s i, s ≠ 32 → M'.1 s i = M.1 s i) ∧ M'.2 = M.2
theorem R_droppedBy {n S T k j : Nat} {q v p : Int32} {Kf : Int32 → zM → Prop} (hw : zmI M 31 0 = w) (h8 : M.1 30 0 8 = 0) (hq : q.toInt = j) (hj : j < 8) (hO : OK (zup w j v) n A S T) (hp : p.toInt = k) (hA : A + 54 * k ≤ 300000000) (hS : S + 9 * k + 40 ≤ 200000) (hT : T + k ≤ 10400)
    (h : ∀ M', Bk0 M M' → Kf (sp_drp (sp_passes (zup w j v) false k) n - sp_drp w n) M') : zCalI l G Y_X9_droppedBy 0 0 [vr 30 0, vi q, vi v, vi p] M Kf := by
  refine zm_X9_droppedBy (R_aside ⟨ti_in (by omega), ?_⟩)
  rw [ti_at hq, hw]
  generalize zmI M 32 0 = o
  have e1 : zmI (zsIr M 32 0 (sp_lay w o 0 0)) 31 0 = w := (z31_32 _ _).trans hw
  show zCalI l G _ 0 0 _ (zsIr (zsIr M 32 0 (sp_lay w o 0 0)) 31 0 (zup (zmI (zsIr M 32 0 (sp_lay w o 0 0)) 31 0) j v)) _
  rw [e1]
  refine R_droppedIn (plain := false) (k := k) (w := zup w j v) (zsI1 _ _ _ _) hO ?_ hp hA hS hT (R_back ?_)
  · show (zsIr (zsIr M 32 0 _) 31 0 _).1 30 0 8 = 0
    rw [zsIo _ _ _ _ _ _ (by omega), zsIo _ _ _ _ _ _ (by omega)]
    exact h8
  · (simp only [zsI1, zsI2])
    rw [drp_set (by omega), show zmI (zsIr (zsIr M 32 0 (sp_lay w o 0 0)) 31 0 (sp_passes (zup w j v) false k)) 32 0 = sp_lay w o 0 0 from (zsIo _ _ _ _ _ _ (by omega)).trans (zsI1 _ _ _ _)]
    rw [lay_back fun i hi => (passes_ge hO hi k hA hS hT).trans (zup_ne _ _ (by omega))]
    refine h _ ⟨fun s i hs => ?_, rfl⟩
    rw [zmI_sI]
    by_cases c : s = 31 ∧ i = 0
    · rw [if_pos c, c.1, c.2]
      exact hw.symm
    · rw [if_neg c]
      exact zsIo _ _ _ _ _ _ (by omega)
theorem Bk0.trans {M M1 M2 : zM} (h : Bk0 M M1) (g : Bk0 M1 M2) : Bk0 M M2 := ⟨fun s i hs => (g.1 s i hs).trans (h.1 s i hs), g.2.trans h.2⟩
theorem Good.bk0 {M M' : zM} (h : Inv M A) (b : Bk0 (zsI M 30 0 7 0) M') : Good A 0 M' := by
  have b2 : Bk (zsI M 30 0 7 0) M' := ⟨fun s i h0 h1 h2 h3 => b.1 s i h2, b.2, fun k _ => congrFun (b.1 31 0 (by omega)) k, fun k _ => congrFun (b.1 30 0 (by omega)) k⟩
  refine ⟨?_, (inv_thr h 0).bk b2⟩
  rw [b.1 30 0 (by omega)]
  exact z7_0 M
theorem lg_eq1 {a : Int64} (h : lg_cmp a (-1) = 0) : a.toInt = -1 := by
  have h1 : 0 ≤ lg_cmp a (-1) := Eq.subst (motive := fun x => (0 : Int32) ≤ x) h.symm (by decide)
  have h2 : lg_cmp a (-1) ≤ 0 := Eq.subst (motive := fun x => x ≤ (0 : Int32)) h.symm (by decide)
  rw [lg_cmp_ge, tl_le, show (-1 : Int64).toInt = -1 from rfl] at h1
  rw [lg_cmp_le, tl_le, show (-1 : Int64).toInt = -1 from rfl] at h2
  omega
theorem lg_ne1 {a : Int64} (h : ¬ lg_cmp a (-1) = 0) : ¬ a = -1 := fun e => by
  rw [e] at h
  exact h (by decide)
/-- the first of the least -/
def bst (T : Nat → Int32) : Nat → Nat
  | 0 => 0
  | j + 1 => if j = 0 ∨ T j < T (bst T j) then j else bst T j
theorem bst_lt (T : Nat → Int32) : ∀ j, 0 < j → bst T j < j
  | 0, h => absurd h (by omega)
  | j + 1, _ => by
    unfold bst
    split
    · omega
    · next c =>
      have := bst_lt T j (by omega)
      omega
theorem P_bestWeight (hl : l.stackTraces = false) {p : Int32} (hI : Inv M A) (hA : A ≤ 299000000) :
    zCalIX l G Y_X8_bestWeight 1 6 [vr 0 0, vi p] M (fun x M1 => zCalI l G Y_X9_bestWeight 0 0 [vr 30 0, vi p] M1 (fun y M2 => y = x ∧ Good A 0 M2)) (fun E M1 => E = IAE ∧ zCalI l G Y_X9_bestWeight 0 0 [vr 30 0, vi p] M1 (fun _ M2 => Good A 1 M2)) := by
  obtain ⟨n, hR, hO⟩ := hI.1
  have ht := hO.tim
  refine zm_X8_bestWeight (C_within hl (fun c => ?_) fun c => ⟨rfl, zm_X9_bestWeight (R_noTicks (z7_0 M) (by decide) (fun d => absurd d c) fun _ => ⟨fun d => absurd d (by decide), fun _ => Good.thr hI 1⟩)⟩)
  have c2 := c
  rw [ti_le, ti_le, ti_1, show (100 : Int32).toInt = 100 from rfl] at c2
  obtain ⟨k, hk⟩ : ∃ k : Nat, p.toInt = k := ⟨_, (Int.toNat_of_nonneg (by omega)).symm⟩
  obtain ⟨w, hw⟩ : ∃ w, zmI M 31 0 = w := ⟨_, rfl⟩
  rw [hw] at hO hR ht
  have hn := hO.nf
  have oS : ∀ j : Nat, j ≤ 10 → OK (zup w 5 (nI j)) n A (9 * (w 7).toInt.toNat) 9999 := fun j hj => hO.sets (fun k hk => zup_ne _ _ (by omega)) (by unfold sp_mm; rw [zup_ne _ _ (by omega), zup_ne _ _ (by omega)]; exact hO.mm) (by rw [zup_ne _ _ (by omega)]; exact hO.top) (by rw [zup_self, ti_nI (by omega)]; omega) (by rw [zup_ne _ _ (by omega)]; exact hO.gen)
  obtain ⟨T, hT⟩ : ∃ T : Nat → Int32, ∀ j, sp_drp (sp_passes (zup w 5 (nI j)) false k) n = T j := ⟨_, fun _ => rfl⟩
  have tb : ∀ j, j ≤ 10 → 0 ≤ (T j).toInt ∧ (T j).toInt ≤ 2000000000 := fun j hj => by
    rw [← hT]
    exact ((oS j hj).passes k (by omega) (by omega) (by omega)).drp0 ⟨by omega, by omega⟩
  have d0 := hO.drp0 ⟨by omega, by omega⟩
  have dT : ∀ j, j ≤ 10 → (T j - sp_drp w n).toInt = (T j).toInt - (sp_drp w n).toInt := fun j hj => ti_sub (by have := tb j hj; omega)
  have ten : (10 : Int32).toInt = 10 := rfl
  -- the reference's rounds
  have ref : ∀ M1 : zM, zFr 2 M M1 → zCalI l G Y_X9_bestWeight 0 0 [vr 30 0, vi p] M1 (fun y M2 => y = nI (bst T 11) ∧ Good A 0 M2) := by
    intro M1 hF
    have e1 : zmI M1 31 0 = w := (ahead_31 hF).trans hw
    have hI1 := hI.ahead hF
    have key : ∀ d j : Nat, j + d = 11 → ∀ (y b f : Int32) (M2 : zM), y.toInt = j → (j = 0 → b = -1) → (j ≠ 0 → b = nI (bst T j) ∧ f = T (bst T j) - sp_drp w n) → Bk0 (zsI M1 30 0 7 0) M2 → zAt l G Y_X9_bestWeight (zEI G Y_X9_bestWeight (fun y M2 => y = nI (bst T 11) ∧ Good A 0 M2)) 26 [(0, vr 30 0), (1, vi p), (2, vi b), (3, vi f), (4, vi y)] [] M2 0 0 := by
      intro d
      induction d with
      | zero =>
        intro j hj y b f M2 hy hb0 hb1 hB
        have j11 : j = 11 := by omega
        refine zb_X9_bestWeight_26 ⟨fun _ => ⟨by rw [(hb1 (by omega)).1, j11], Good.bk0 hI1 hB⟩, fun c => ?_⟩
        exfalso
        rw [ti_lt, ten] at c
        omega
      | succ d ih =>
        intro j hj y b f M2 hy hb0 hb1 hB
        obtain rfl := nI_ofT hy
        refine zb_X9_bestWeight_26 ⟨fun c => ?_, fun _ => R_droppedBy (w := w) (k := k) (n := n) (S := 9 * (w 7).toInt.toNat) (T := 9999) ?_ ?_ (j := 5) rfl (by omega) (oS j (by omega)) hk (by omega) (by omega) (by omega) fun M3 hB3 => ?_⟩
        · exfalso
          rw [ti_lt, ten] at c
          omega
        · rw [show zmI M2 31 0 = _ from hB.1 31 0 (by omega)]
          exact (z31_thr M1 0).trans e1
        · rw [hB.1 30 0 (by omega)]
          exact z8_0 hI1.2.1
        · rw [hT]
          have hj1 := ti_inc hy (by omega)
          refine ⟨fun g => zb_X9_bestWeight_57 (zb_X9_bestWeight_63 (ih (j + 1) (by omega) _ _ _ M3 hj1 (fun h => absurd h (by omega)) (fun _ => ?_) (hB.trans hB3))), fun g => ⟨fun g2 => zb_X9_bestWeight_57 (zb_X9_bestWeight_63 (ih (j + 1) (by omega) _ _ _ M3 hj1 (fun h => absurd h (by omega)) (fun _ => ?_) (hB.trans hB3))), fun g2 => zb_X9_bestWeight_63 (ih (j + 1) (by omega) _ _ _ M3 hj1 (fun h => absurd h (by omega)) (fun _ => ?_) (hB.trans hB3))⟩⟩
          · have j0 : j = 0 := Classical.byContradiction fun h => by
              have hlt := bst_lt T j (by omega)
              have e9 := (hb1 h).1
              rw [g] at e9
              have e8 : ((nI (bst T j)).toInt : Int) = (bst T j : Nat) := ti_nI (by omega)
              rw [← e9, ti_n1] at e8
              omega
            have e9 : bst T (j + 1) = j := by
              unfold bst
              exact if_pos (Or.inl j0)
            rw [e9]
            exact ⟨rfl, rfl⟩
          · have j0 : j ≠ 0 := fun h => g (hb0 h)
            have hlt := bst_lt T j (by omega)
            have e9 : bst T (j + 1) = j := by
              unfold bst
              refine if_pos (Or.inr ?_)
              rw [(hb1 j0).2, ti_lt, dT j (by omega), dT _ (by omega)] at g2
              rw [ti_lt]
              omega
            rw [e9]
            exact ⟨rfl, rfl⟩
          · have j0 : j ≠ 0 := fun h => g (hb0 h)
            have hlt := bst_lt T j (by omega)
            have e9 : bst T (j + 1) = bst T j := by
              show (if j = 0 ∨ T j < T (bst T j) then j else bst T j) = bst T j
              refine if_neg ?_
              rintro (h | h)
              · exact j0 h
              · rw [(hb1 j0).2, ti_lt, dT j (by omega), dT _ (by omega)] at g2
                rw [ti_lt] at h
                omega
            rw [e9]
            exact hb1 j0
    exact zm_X9_bestWeight (R_noTicks (z7_0 M1) (by decide) (fun _ => ⟨fun _ => key 11 0 (by omega) 0 (-1) 0 _ rfl (fun _ => rfl) (fun h => absurd rfl h) ⟨fun _ _ _ => rfl, rfl⟩, fun d => absurd rfl d⟩) fun d => absurd c d)
  have key : ∀ d j : Nat, j + d = 11 → ∀ (y b : Int32) (f : Int64) (M2 : zM), y.toInt = j → (j = 0 → f = -1) → (j ≠ 0 → b = nI (bst T j) ∧ f = (T (bst T j)).toInt64) → zFr 2 M M2 → zAt l G Y_X8_bestWeight (zEM G Y_X8_bestWeight 1 6 (zKI (fun x M1 => zCalI l G Y_X9_bestWeight 0 0 [vr 30 0, vi p] M1 (fun y M2 => y = x ∧ Good A 0 M2)), some (fun E M1 => E = IAE ∧ zCalI l G Y_X9_bestWeight 0 0 [vr 30 0, vi p] M1 (fun _ M2 => Good A 1 M2)))) 16 [(0, vr 0 0), (1, vi p), (2, vi b), (3, vl f), (5, vi y)] [] M2 1 6 := by
    intro d
    induction d with
    | zero =>
      intro j hj y b f M2 hy hb0 hb1 hB
      have j11 : j = 11 := by omega
      refine zb_X8_bestWeight_16 ⟨fun _ => ?_, fun c => ?_⟩
      · rw [(hb1 (by omega)).1, j11]
        exact ref M2 hB
      · exfalso
        rw [ti_lt, ten] at c
        omega
    | succ d ih =>
      intro j hj y b f M2 hy hb0 hb1 hB
      obtain rfl := nI_ofT hy
      have hj1 := ti_inc hy (by omega)
      have rm : Rel M2 1 w true := hR.other (by omega) (by decide) hB
      refine zb_X8_bestWeight_16 ⟨fun c => ?_, fun _ => C_copy hO rm (by decide) fun M3 f3 r3 => C_behind (e := true) (oS j (by omega)) (r3.set (k := 5) (v := nI j) hn hO.lng hO.q40 (by omega)) hk (by omega) (by omega) (by omega) fun M4 f4 => ?_⟩
      · exfalso
        rw [ti_lt, ten] at c
        omega
      · have f5 : zFr 2 M M4 := (hB.trans f3).trans (((zFr.refl 2 M3).I (inR15 2)).trans f4)
        show (_ ∧ _)
        rw [show (!true) = false from rfl, hT]
        have tj := tb j (by omega)
        refine ⟨fun g0 => zb_X8_bestWeight_65 (zb_X8_bestWeight_71 (ih (j + 1) (by omega) _ _ _ M4 hj1 (fun h => absurd h (by omega)) (fun _ => ?_) f5)), fun g0 => ⟨fun g => zb_X8_bestWeight_71 (ih (j + 1) (by omega) _ _ _ M4 hj1 (fun h => absurd h (by omega)) (fun _ => ?_) f5), fun g => zb_X8_bestWeight_65 (zb_X8_bestWeight_71 (ih (j + 1) (by omega) _ _ _ M4 hj1 (fun h => absurd h (by omega)) (fun _ => ?_) f5))⟩⟩
        · have j0 : j = 0 := Classical.byContradiction fun h => by
            have g1 := lg_eq1 g0
            rw [(hb1 h).2, tl_32] at g1
            have hlt := bst_lt T j (by omega)
            have := tb (bst T j) (by omega)
            omega
          have e9 : bst T (j + 1) = j := by
            unfold bst
            exact if_pos (Or.inl j0)
          rw [e9]
          exact ⟨rfl, rfl⟩
        · have j0 : j ≠ 0 := fun h => lg_ne1 g0 (hb0 h)
          rw [lg_cmp_ge, tl_le, tl_32] at g
          have hlt := bst_lt T j (by omega)
          have e9 : bst T (j + 1) = bst T j := by
            show (if j = 0 ∨ T j < T (bst T j) then j else bst T j) = bst T j
            refine if_neg ?_
            rintro (h | h)
            · exact j0 h
            · rw [(hb1 j0).2, tl_32] at g
              rw [ti_lt] at h
              omega
          rw [e9]
          exact hb1 j0
        · have j0 : j ≠ 0 := fun h => lg_ne1 g0 (hb0 h)
          rw [lg_cmp_ge, tl_le, tl_32] at g
          have e9 : bst T (j + 1) = j := by
            unfold bst
            refine if_pos (Or.inr ?_)
            rw [(hb1 j0).2, tl_32] at g
            rw [ti_lt]
            omega
          rw [e9]
          exact ⟨rfl, rfl⟩
  exact key 11 0 (by omega) 0 0 _ M rfl (fun _ => rfl) (fun h => absurd rfl h) (zFr.refl 2 M)
end
