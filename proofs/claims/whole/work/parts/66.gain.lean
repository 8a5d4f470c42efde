section
variable {l : Launch} {G : zG} {M : zM} {A : Nat} {w : Nat → Int32} {e : Bool}
/-- without early drops -/
theorem Rel.late {M : zM} {r n S T : Nat} {w : Nat → Int32} (h : Rel M r w true) (hO : OK w n A S T) : Rel (zsI M 15 r 11 0) r w false := by
  obtain ⟨a, f, q, L, K, d1, d2, d3, d4, -⟩ := h
  unfold Rel
  (simp only [zmI, zmL, zmN, zmT, zmI_sI, zmI_sL, zmI_sN, zsI2, zsL2, zmL_sL, zmL_sI, zmN_sI, zmN_sL, zmT_sI, zmT_sL, Nat.reduceEqDiff, false_and, and_false, and_self, if_false, if_true])
  refine ⟨⟨fun k hk => by rw [zup_ne _ _ (by omega)]; exact a.1 k hk, by rw [zup_ne _ _ (by omega)]; exact a.2.1, fun he => absurd he (by decide), by rw [zup_ne _ _ (by omega)]; exact a.2.2.2.1, by rw [zup_self]; rfl, by rw [zup_ne _ _ (by omega)]; exact a.2.2.2.2.2⟩, f, q, L, K, d1, d2, d3, d4, fun he => absurd he (by decide)⟩
theorem P_longest (hl : l.stackTraces = false) {p : Int32} (hI : Inv M A) (hA : A ≤ 299000000) :
    zCalIX l G Y_X8_longest 1 6 [vr 0 0, vi p] M (fun x M1 => zCalI l G Y_X9_longest 0 0 [vr 30 0, vi p] M1 (fun y M2 => y = x ∧ Good A 0 M2)) (fun E M1 => E = IAE ∧ zCalI l G Y_X9_longest 0 0 [vr 30 0, vi p] M1 (fun _ M2 => Good A 1 M2)) := by
  obtain ⟨n, hR, hO⟩ := hI.1
  have ht := hO.tim
  refine zm_X8_longest (C_within hl (fun c => C_copy hO hR (by decide) fun M0 f0 r0 => ?_) fun c => ⟨rfl, zm_X9_longest (R_noTicks (z7_0 M) (by decide) (fun d => absurd d c) fun _ => ⟨fun d => absurd d (by decide), fun _ => Good.thr hI 1⟩)⟩)
  have c2 := c
  rw [ti_le, ti_le, ti_1, show (200 : Int32).toInt = 200 from rfl] at c2
  obtain ⟨k, hk⟩ : ∃ k : Nat, p.toInt = k := ⟨_, (Int.toNat_of_nonneg (by omega)).symm⟩
  obtain ⟨w, hw⟩ : ∃ w, zmI M 31 0 = w := ⟨_, rfl⟩
  rw [hw] at hO hR r0 ht
  -- the longest queue of the first ticks
  obtain ⟨lg, hlg0, hlgS⟩ : ∃ lg : Nat → Int32, lg 0 = 0 ∧ ∀ j, lg (j + 1) = if lg j < sp_passes w false (j + 1) 8 then sp_passes w false (j + 1) 8 else lg j :=
    ⟨fun j => Nat.rec 0 (fun j v => if v < sp_passes w false (j + 1) 8 then sp_passes w false (j + 1) 8 else v) j, rfl, fun _ => rfl⟩
  have ref : ∀ M1 : zM, zFr 2 M M1 → zCalI l G Y_X9_longest 0 0 [vr 30 0, vi p] M1 (fun y M2 => y = lg k ∧ Good A 0 M2) := by
    intro M1 hF
    have e1 : zmI M1 31 0 = w := (ahead_31 hF).trans hw
    have hI1 := hI.ahead hF
    refine zm_X9_longest (R_noTicks (z7_0 M1) (by decide) (fun _ => ⟨fun _ => R_aside ?_, fun d => absurd rfl d⟩) fun d => absurd c d)
    have key : ∀ d j : Nat, j + d = k → ∀ y : Int32, y.toInt = j → zAt l G Y_X9_longest (zEI G Y_X9_longest (fun y M2 => y = lg k ∧ Good A 0 M2)) 28 [(0, vr 30 0), (1, vi p), (2, vi (lg j)), (3, vi y)] [] (zsIr (zsIr (zsI M1 30 0 7 0) 32 0 (sp_lay (zmI M1 31 0) (zmI M1 32 0) 0 0)) 31 0 (sp_passes w false j)) 0 0 := by
      intro d
      induction d with
      | zero =>
        intro j hj y hy
        refine zb_X9_longest_28 ⟨fun _ => R_back ⟨by rw [show j = k by omega], Good.bk hI1 (sp_passes w false j)⟩, fun c => ?_⟩
        exfalso
        rw [ti_le] at c
        omega
      | succ d ih =>
        intro j hj y hy
        have op := hO.passes (p := false) j (by omega) (by omega) (by omega)
        have nx := ih (j + 1) (by omega) (y + 1) (ti_inc hy (by omega))
        rw [hlgS] at nx
        refine zb_X9_longest_28 ⟨fun c => ?_, fun _ => R_pass (plain := false) (by (simp only [zsI1, zsI2]); exact op) ?_ (by omega) (by omega) (by omega) ?_⟩
        · exfalso
          rw [ti_le] at c
          omega
        · rw [show zmI (zsIr (zsIr (zsI M1 30 0 7 0) 32 0 (sp_lay (zmI M1 31 0) (zmI M1 32 0) 0 0)) 31 0 (sp_passes w false j)) 30 0 = zmI (zsI M1 30 0 7 0) 30 0 from (zsIo _ _ _ _ _ _ (by omega)).trans (zsIo _ _ _ _ _ _ (by omega))]
          exact z8_0 hI1.2.1
        · (simp only [zsI1, zsI2])
          exact nx
    have k0 := key k 0 (by omega) 0 rfl
    rw [hlg0] at k0
    have e2 : zsIr (zsIr (zsI M1 30 0 7 0) 32 0 (sp_lay (zmI M1 31 0) (zmI M1 32 0) 0 0)) 31 0 (sp_passes w false 0) = zsIr (zsI M1 30 0 7 0) 32 0 (sp_lay (zmI (zsI M1 30 0 7 0) 31 0) (zmI (zsI M1 30 0 7 0) 32 0) 0 0) := by
      have e3 : sp_passes w false 0 = (zsIr (zsI M1 30 0 7 0) 32 0 (sp_lay (zmI M1 31 0) (zmI M1 32 0) 0 0)).1 31 0 := by
        rw [zsIo _ _ _ _ _ _ (by omega)]
        exact (e1.symm).trans (z31_thr M1 0).symm
      rw [e3, zsI0, z31_thr]
      rfl
    rw [e2] at k0
    exact k0
  have key : ∀ d j : Nat, j + d = k → ∀ (y : Int32) (M2 : zM), y.toInt = j → zFr 2 M M2 → Rel M2 2 (sp_passes w false j) true → zAt l G Y_X8_longest (zEM G Y_X8_longest 1 6 (zKI (fun x M1 => zCalI l G Y_X9_longest 0 0 [vr 30 0, vi p] M1 (fun y M2 => y = x ∧ Good A 0 M2)), some (fun E M1 => E = IAE ∧ zCalI l G Y_X9_longest 0 0 [vr 30 0, vi p] M1 (fun _ M2 => Good A 1 M2)))) 23 [(0, vr 0 0), (1, vi p), (2, vi (lg j)), (3, vi y)] [] M2 1 6 := by
    intro d
    induction d with
    | zero =>
      intro j hj y M2 hy hF hR2
      refine zb_X8_longest_23 ⟨fun _ => by rw [show j = k by omega]; exact ref M2 hF, fun c => ?_⟩
      exfalso
      rw [ti_le] at c
      omega
    | succ d ih =>
      intro j hj y M2 hy hF hR2
      refine zb_X8_longest_23 ⟨fun c => ?_, fun _ => C_pass (hO.passes j (by omega) (by omega) (by omega)) hR2 (by omega) (by omega) (by omega) fun M3 hF3 hR3 => ?_⟩
      · exfalso
        rw [ti_le] at c
        omega
      · have nx := ih (j + 1) (by omega) (y + 1) M3 (ti_inc hy (by omega)) (hF.trans hF3) hR3
        rw [hlgS] at nx
        rw [show zmI M3 19 2 1 = sp_passes w false (j + 1) 8 from hR3.2.2.1.1]
        exact nx
  have k0 := key k 0 (by omega) 0 M0 rfl f0 r0
  rw [hlg0] at k0
  exact k0
end
