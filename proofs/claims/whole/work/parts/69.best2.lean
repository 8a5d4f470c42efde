section
variable {l : Launch} {G : zG} {M : zM} {A : Nat} {w : Nat → Int32}
theorem P_bestTop (hl : l.stackTraces = false) {p : Int32} (hI : Inv M A) (hA : A ≤ 299000000) :
    zCalIX l G Y_X8_bestTop 1 6 [vr 0 0, vi p] M (fun x M1 => zCalI l G Y_X9_bestTop 0 0 [vr 30 0, vi p] M1 (fun y M2 => y = x ∧ Good A 0 M2)) (fun E M1 => E = IAE ∧ zCalI l G Y_X9_bestTop 0 0 [vr 30 0, vi p] M1 (fun _ M2 => Good A 1 M2)) := by
  obtain ⟨n, hR, hO⟩ := hI.1
  have ht := hO.tim
  refine zm_X8_bestTop (C_within hl (fun c => ?_) fun c => ⟨rfl, zm_X9_bestTop (R_noTicks (z7_0 M) (by decide) (fun d => absurd d c) fun _ => ⟨fun d => absurd d (by decide), fun _ => Good.thr hI 1⟩)⟩)
  have c2 := c
  rw [ti_le, ti_le, ti_1, show (100 : Int32).toInt = 100 from rfl] at c2
  obtain ⟨k, hk⟩ : ∃ k : Nat, p.toInt = k := ⟨_, (Int.toNat_of_nonneg (by omega)).symm⟩
  obtain ⟨w, hw⟩ : ∃ w, zmI M 31 0 = w := ⟨_, rfl⟩
  rw [hw] at hO hR ht
  have hn := hO.nf
  have oS : ∀ j : Nat, j ≤ 16 → OK (zup w 4 (nI (4096 * j))) n A (9 * (w 7).toInt.toNat) 9999 := fun j hj => hO.sets (fun k hk => zup_ne _ _ (by omega)) (by unfold sp_mm; rw [zup_ne _ _ (by omega), zup_ne _ _ (by omega)]; exact hO.mm) (by rw [zup_self, ti_nI (by omega)]; omega) (by rw [zup_ne _ _ (by omega)]; exact hO.wt) (by rw [zup_ne _ _ (by omega)]; exact hO.gen)
  obtain ⟨T, hT⟩ : ∃ T : Nat → Int32, ∀ j, sp_drp (sp_passes (zup w 4 (nI (4096 * j))) false k) n = T j := ⟨_, fun _ => rfl⟩
  have tb : ∀ j, j ≤ 16 → 0 ≤ (T j).toInt ∧ (T j).toInt ≤ 2000000000 := fun j hj => by
    rw [← hT]
    exact ((oS j hj).passes k (by omega) (by omega) (by omega)).drp0 ⟨by omega, by omega⟩
  have d0 := hO.drp0 ⟨by omega, by omega⟩
  have dT : ∀ j, j ≤ 16 → (T j - sp_drp w n).toInt = (T j).toInt - (sp_drp w n).toInt := fun j hj => ti_sub (by have := tb j hj; omega)
  have ten : (65536 : Int32).toInt = 65536 := rfl
  have step : ∀ {y : Int32} {j : Nat}, y.toInt = (4096 * j : Nat) → j ≤ 17 → (y + 4096).toInt = (4096 * (j + 1) : Nat) := fun {y j} h hj => by rw [ti_add (by rw [show (4096 : Int32).toInt = 4096 from rfl]; omega), show (4096 : Int32).toInt = 4096 from rfl]; omega
  -- the reference's rounds
  have ref : ∀ M1 : zM, zFr 2 M M1 → zCalI l G Y_X9_bestTop 0 0 [vr 30 0, vi p] M1 (fun y M2 => y = nI (4096 * bst T 17) ∧ Good A 0 M2) := by
    intro M1 hF
    have e1 : zmI M1 31 0 = w := (ahead_31 hF).trans hw
    have hI1 := hI.ahead hF
    have key : ∀ d j : Nat, j + d = 17 → ∀ (y b f : Int32) (M2 : zM), y.toInt = (4096 * j : Nat) → 0 < j → b = nI (4096 * bst T j) → f = T (bst T j) - sp_drp w n → Bk0 (zsI M1 30 0 7 0) M2 → zAt l G Y_X9_bestTop (zEI G Y_X9_bestTop (fun y M2 => y = nI (4096 * bst T 17) ∧ Good A 0 M2)) 34 [(0, vr 30 0), (1, vi p), (2, vi b), (3, vi f), (4, vi y)] [] M2 0 0 := by
      intro d
      induction d with
      | zero =>
        intro j hj y b f M2 hy j0 hb hf hB
        have j11 : j = 17 := by omega
        refine zb_X9_bestTop_34 ⟨fun _ => ⟨by rw [hb, j11], Good.bk0 hI1 hB⟩, fun c => ?_⟩
        exfalso
        rw [ti_lt, ten] at c
        omega
      | succ d ih =>
        intro j hj y b f M2 hy j0 hb hf hB
        obtain rfl := nI_ofT hy
        have hlt := bst_lt T j j0
        refine zb_X9_bestTop_34 ⟨fun c => ?_, fun _ => R_droppedBy (w := w) (k := k) (n := n) (S := 9 * (w 7).toInt.toNat) (T := 9999) ?_ ?_ (j := 4) rfl (by omega) (oS j (by omega)) hk (by omega) (by omega) (by omega) fun M3 hB3 => ?_⟩
        · exfalso
          rw [ti_lt, ten] at c
          omega
        · rw [show zmI M2 31 0 = _ from hB.1 31 0 (by omega)]
          exact (z31_thr M1 0).trans e1
        · rw [hB.1 30 0 (by omega)]
          exact z8_0 hI1.2.1
        · rw [hT]
          have hj1 := step hy (by omega)
          refine ⟨fun g2 => zb_X9_bestTop_66 (ih (j + 1) (by omega) _ _ _ M3 hj1 (by omega) ?_ ?_ (hB.trans hB3)), fun g2 => zb_X9_bestTop_66 (ih (j + 1) (by omega) _ _ _ M3 hj1 (by omega) ?_ ?_ (hB.trans hB3))⟩
          · have e9 : bst T (j + 1) = j := by
              unfold bst
              refine if_pos (Or.inr ?_)
              rw [hf, ti_lt, dT j (by omega), dT _ (by omega)] at g2
              rw [ti_lt]
              omega
            rw [e9]
          · have e9 : bst T (j + 1) = j := by
              unfold bst
              refine if_pos (Or.inr ?_)
              rw [hf, ti_lt, dT j (by omega), dT _ (by omega)] at g2
              rw [ti_lt]
              omega
            rw [e9]
          · have e9 : bst T (j + 1) = bst T j := by
              show (if j = 0 ∨ T j < T (bst T j) then j else bst T j) = bst T j
              refine if_neg ?_
              rintro (h | h)
              · omega
              · rw [hf, ti_lt, dT j (by omega), dT _ (by omega)] at g2
                rw [ti_lt] at h
                omega
            rw [e9]
            exact hb
          · have e9 : bst T (j + 1) = bst T j := by
              show (if j = 0 ∨ T j < T (bst T j) then j else bst T j) = bst T j
              refine if_neg ?_
              rintro (h | h)
              · omega
              · rw [hf, ti_lt, dT j (by omega), dT _ (by omega)] at g2
                rw [ti_lt] at h
                omega
            rw [e9]
            exact hf
    refine zm_X9_bestTop (R_noTicks (z7_0 M1) (by decide) (fun _ => ⟨fun _ => R_droppedBy (w := w) (v := 0) (k := k) (n := n) (S := 9 * (w 7).toInt.toNat) (T := 9999) ((z31_thr M1 0).trans e1) (z8_0 hI1.2.1) (j := 4) rfl (by omega) (oS 0 (by omega)) hk (by omega) (by omega) (by omega) fun M3 hB3 => ?_, fun d => absurd rfl d⟩) fun d => absurd c d)
    exact key 16 1 (by omega) 4096 0 _ M3 rfl (by omega) rfl (congrArg (· - sp_drp w n) (hT 0)) hB3
  have key : ∀ d j : Nat, j + d = 17 → ∀ (y b : Int32) (f : Int64) (M2 : zM), y.toInt = (4096 * j : Nat) → (j = 0 → f = -1) → (j ≠ 0 → b = nI (4096 * bst T j) ∧ f = (T (bst T j)).toInt64) → zFr 2 M M2 → zAt l G Y_X8_bestTop (zEM G Y_X8_bestTop 1 6 (zKI (fun x M1 => zCalI l G Y_X9_bestTop 0 0 [vr 30 0, vi p] M1 (fun y M2 => y = x ∧ Good A 0 M2)), some (fun E M1 => E = IAE ∧ zCalI l G Y_X9_bestTop 0 0 [vr 30 0, vi p] M1 (fun _ M2 => Good A 1 M2)))) 16 [(0, vr 0 0), (1, vi p), (2, vi b), (3, vl f), (5, vi y)] [] M2 1 6 := by
    intro d
    induction d with
    | zero =>
      intro j hj y b f M2 hy hb0 hb1 hB
      have j11 : j = 17 := by omega
      refine zb_X8_bestTop_16 ⟨fun _ => ?_, fun c => ?_⟩
      · rw [(hb1 (by omega)).1, j11]
        exact ref M2 hB
      · exfalso
        rw [ti_lt, ten] at c
        omega
    | succ d ih =>
      intro j hj y b f M2 hy hb0 hb1 hB
      obtain rfl := nI_ofT hy
      have hj1 := step hy (by omega)
      have rm : Rel M2 1 w true := hR.other (by omega) (by decide) hB
      refine zb_X8_bestTop_16 ⟨fun c => ?_, fun _ => C_copy hO rm (by decide) fun M3 f3 r3 => C_behind (e := true) (oS j (by omega)) (r3.set (k := 4) (v := nI (4096 * j)) hn hO.lng hO.q40 (by omega)) hk (by omega) (by omega) (by omega) fun M4 f4 => ?_⟩
      · exfalso
        rw [ti_lt, ten] at c
        omega
      · have f5 : zFr 2 M M4 := (hB.trans f3).trans (((zFr.refl 2 M3).I (inR15 2)).trans f4)
        show (_ ∧ _)
        rw [show (!true) = false from rfl, hT]
        have tj := tb j (by omega)
        refine ⟨fun g0 => zb_X8_bestTop_66 (zb_X8_bestTop_72 (ih (j + 1) (by omega) _ _ _ M4 hj1 (fun h => absurd h (by omega)) (fun _ => ?_) f5)), fun g0 => ⟨fun g => zb_X8_bestTop_72 (ih (j + 1) (by omega) _ _ _ M4 hj1 (fun h => absurd h (by omega)) (fun _ => ?_) f5), fun g => zb_X8_bestTop_66 (zb_X8_bestTop_72 (ih (j + 1) (by omega) _ _ _ M4 hj1 (fun h => absurd h (by omega)) (fun _ => ?_) f5))⟩⟩
        · have j0 : j = 0 := Classical.byContradiction fun h => by
            have g1 := lg_eq1 g0
            rw [(hb1 h).2, tl_32] at g1
            have hlt := bst_lt T j (by omega)
            have := tb (bst T j) (by omega)
            omega
          have e9 : bst T (j + 1) = j := by
            unfold bst
            exact if_pos (Or.inl j0)
          rw [e9]
          exact ⟨rfl, rfl⟩
        · have j0 : j ≠ 0 := fun h => lg_ne1 g0 (hb0 h)
          rw [lg_cmp_ge, tl_le, tl_32] at g
          have hlt := bst_lt T j (by omega)
          have e9 : bst T (j + 1) = bst T j := by
            show (if j = 0 ∨ T j < T (bst T j) then j else bst T j) = bst T j
            refine if_neg ?_
            rintro (h | h)
            · exact j0 h
            · rw [(hb1 j0).2, tl_32] at g
              rw [ti_lt] at h
              omega
          rw [e9]
          exact hb1 j0
        · have j0 : j ≠ 0 := fun h => lg_ne1 g0 (hb0 h)
          rw [lg_cmp_ge, tl_le, tl_32] at g
          have e9 : bst T (j + 1) = j := by
            unfold bst
            refine if_pos (Or.inr ?_)
            rw [(hb1 j0).2, tl_32] at g
            rw [ti_lt]
            omega
          rw [e9]
          exact ⟨rfl, rfl⟩
  exact key 17 0 (by omega) 0 0 _ M rfl (fun _ => rfl) (fun h => absurd rfl h) (zFr.refl 2 M)
end
