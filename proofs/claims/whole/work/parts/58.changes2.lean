section
variable {l : Launch} {G : zG} {M : zM} {A : Nat}
theorem P_setLimits (hl : l.stackTraces = false) {p q : Int32} (hI : Inv M A) : zCalIX l G Y_X8_setLimits 2 12 [vr 0 0, vi p, vi q] M (fun x M1 => zCalI l G Y_X9_setLimits 0 0 [vr 30 0, vi p, vi q] M1 (fun y M2 => y = x ∧ Good A 0 M2)) (fun E M1 => E = IAE ∧ zCalI l G Y_X9_setLimits 0 0 [vr 30 0, vi p, vi q] M1 (fun _ M2 => Good A 1 M2)) := by
  obtain ⟨n, hR, hO⟩ := hI.1
  have bad : zAt l G Y_X9_setLimits (zEI G Y_X9_setLimits (fun _ M2 => Good A 1 M2)) 27 [(0, vr 30 0), (1, vi p), (2, vi q)] [vr 30 0] (zsI M 30 0 7 0) 0 0 := zb_X9_setLimits_27 (zb_X9_setLimits_32 (R_f1 (z7_0 M) (by decide) ⟨fun d => absurd d (by decide), fun _ => Good.thr hI 1⟩))
  have c39 : ∀ z : Int32, (0 ≤ z ∧ z ≤ 39) ↔ 0 ≤ z.toInt ∧ z.toInt ≤ 39 := fun z => by rw [ti_le, ti_le, ti_0, show (39 : Int32).toInt = 39 from rfl]
  refine zm_X8_setLimits (C_within hl (fun c => ?_) fun c => ⟨rfl, zm_X9_setLimits (R_in2 (fun d => absurd d c) fun _ => ⟨fun _ => bad, fun d => absurd rfl d⟩)⟩)
  have c2 := (c39 p).mp c
  have p1 : (p + 1).toInt = p.toInt + 1 := by rw [ti_add (by rw [ti_1]; omega), ti_1]
  have dq : (p + 1 ≤ q ∧ q ≤ 40) ↔ p.toInt < q.toInt ∧ q.toInt ≤ 40 := by
    rw [ti_le, ti_le, p1, show (40 : Int32).toInt = 40 from rfl]
    omega
  refine C_within hl (fun d => C_keep' hI fun M1 hk r1 e1 => zm_X5_changeLimits ?_) fun d => ⟨rfl, zm_X9_setLimits (R_in2 (fun _ => ⟨fun f => absurd f (by decide), fun _ => ⟨fun _ => bad, fun f => ⟨fun g => ?_, fun _ => bad⟩⟩⟩) fun f => absurd c f)⟩
  · have d2 := dq.mp d
    have hmm := hO.mm
    have m1 := hmm.1
    have m2 := hmm.2.1
    have m3 := hmm.2.2
    have hO1 : OK (zup (zup (zmI M 31 0) 2 p) 3 q) n A (9 * (zmI M 31 0 7).toInt.toNat) 9999 := hO.sets (fun k hk => by rw [zup_ne _ _ (by omega), zup_ne _ _ (by omega)]) (by unfold sp_mm; rw [zup_self, zup_ne _ _ (by omega), zup_self]; omega) (by rw [zup_ne _ _ (by omega), zup_ne _ _ (by omega)]; exact hO.top) (by rw [zup_ne _ _ (by omega), zup_ne _ _ (by omega)]; exact hO.wt) (by rw [zup_ne _ _ (by omega), zup_ne _ _ (by omega)]; exact hO.gen)
    have f3 : zFr 1 M1 (zsI (zsI M1 15 1 2 p) 15 1 3 q) := ((zFr.refl 1 M1).I (inR15 1)).I (inR15 1)
    have e3 : zmI (zsI (zsI M1 15 1 2 p) 15 1 3 q) 31 0 = zmI M 31 0 := (zsIo _ _ _ _ _ _ (by omega)).trans ((zsIo _ _ _ _ _ _ (by omega)).trans e1)
    have r2 := r1.set (k := 2) (v := p) hO.nf hO.lng hO.q40 (by omega)
    have r3 := r2.set (k := 3) (v := q) (n := n) (by rw [zup_ne _ _ (by omega)]; exact hO.nf) (fun i hi => by have := hO.nf; rw [zup_ne _ _ (by (first | omega | (simp only [sf, sq, sd] at *; omega)))]; exact hO.lng i hi) (by rw [zup_ne _ _ (by omega)]; exact hO.q40) (by omega)
    generalize hM3 : zsI (zsI M1 15 1 2 p) 15 1 3 q = M3 at *
    have hM3' : zsIr (zsIr M1 15 1 (zup (zmI M1 15 1) 2 p)) 15 1 (zup (zmI (zsIr M1 15 1 (zup (zmI M1 15 1) 2 p)) 15 1) 3 q) = M3 := hM3
    rw [hM3'] at r3
    have e : zmI (zsIr (zsI M3 30 0 7 0) 33 0 (sp_lay (zmI M 31 0) (M3.1 33 0) 0 0)) 31 0 = zmI M 31 0 := by rw [z31_33, z31_thr, e3]
    have x1 : (100 * zmI M 31 0 2 + zmI M 31 0 3).toInt = 100 * (zmI M 31 0 2).toInt + (zmI M 31 0 3).toInt := by
      rw [ti_add (by rw [ti_mul (by rw [show (100 : Int32).toInt = 100 from rfl]; omega), show (100 : Int32).toInt = 100 from rfl]; omega), ti_mul (by rw [show (100 : Int32).toInt = 100 from rfl]; omega), show (100 : Int32).toInt = 100 from rfl]
    refine zm_X9_setLimits (R_in2 (fun _ => ⟨fun f => absurd f (by decide), fun _ => ⟨fun f => ?_, fun _ => ⟨fun _ => zb_X9_setLimits_32 (R_f0 (z7_0 M3) (by decide) ⟨fun _ => R_starts3 e3 (zm_X9_limitsNow ?_), fun f => absurd rfl f⟩), fun f => absurd d.2 f⟩⟩⟩) fun f => absurd c f)
    · exfalso
      rw [ti_le] at f
      omega
    · show zCalI l G _ 0 0 [vr 30 0, vi (100 * (zmI (zsIr (zsI M3 30 0 7 0) 33 0 (sp_lay (zmI M 31 0) (M3.1 33 0) 0 0)) 31 0 2) + zmI (zsIr (zsI M3 30 0 7 0) 33 0 (sp_lay (zmI M 31 0) (M3.1 33 0) 0 0)) 31 0 3)] (zsIr (zsIr (zsIr (zsI M3 30 0 7 0) 33 0 (sp_lay (zmI M 31 0) (M3.1 33 0) 0 0)) 31 0 (zup (zmI (zsIr (zsI M3 30 0 7 0) 33 0 (sp_lay (zmI M 31 0) (M3.1 33 0) 0 0)) 31 0) 2 p)) 31 0 (zup (zmI (zsIr (zsIr (zsI M3 30 0 7 0) 33 0 (sp_lay (zmI M 31 0) (M3.1 33 0) 0 0)) 31 0 (zup (zmI (zsIr (zsI M3 30 0 7 0) 33 0 (sp_lay (zmI M 31 0) (M3.1 33 0) 0 0)) 31 0) 2 p)) 31 0) 3 q)) _
      rw [e]
      (simp only [zsI1, zsI2])
      refine R_rec' (A' := A) (by rw [ti_lt, x1, ti_0]; omega) hI hk f3 ⟨n, r3, by rw [zup_ne _ _ (by omega), zup_ne _ _ (by omega)]; exact hO1⟩ (Nat.le_refl _) fun M4 hg => ⟨?_, hg⟩
      rw [r1.1.1 2 (by omega), r1.1.1 3 (by omega)]
  · exfalso
    rw [ti_le] at f
    rw [ti_le, show (40 : Int32).toInt = 40 from rfl] at g
    exact d (dq.mpr (by omega))
/-- many ticks in the class -/
theorem C_passTicks {n S T k r : Nat} {p : Int32} {w : Nat → Int32} {Kf : Int32 → zM → Prop} (hO : OK w n A S T) (hR : Rel M r w true) (hp : p.toInt = k) (hA : A + 54 * k ≤ 300000000) (hS : S + 9 * k + 40 ≤ 200000) (hT : T + k ≤ 10400) (ht : (w 7).toInt + k ≤ 9999)
    (h : ∀ M', zFr r M M' → Rel M' r (sp_passes w false k) true → Kf (sp_passes w false k 7) M') : zCalI l G Y_X5_passTicks 0 0 [vr 15 r, vi p] M Kf := by
  have htm := hO.tim
  have key : ∀ d j : Nat, j + d = k → ∀ (y : Int32) (M2 : zM), y.toInt = j → zFr r M M2 → Rel M2 r (sp_passes w false j) true → zAt l G Y_X5_passTicks (zEI G Y_X5_passTicks Kf) 17 [(0, vr 15 r), (1, vi p), (2, vi y)] [] M2 0 0 := by
    intro d
    induction d with
    | zero =>
      intro j hj y M2 hy hF hR2
      refine zb_X5_passTicks_17 ⟨fun _ => ?_, fun c => ?_⟩
      · have hjk : j = k := by omega
        rw [hjk] at hR2
        rw [show zmI M2 15 r 7 = _ from hR2.1.1 7 (by omega)]
        exact h M2 hF hR2
      · exfalso
        rw [ti_le] at c
        omega
    | succ d ih =>
      intro j hj y M2 hy hF hR2
      refine zb_X5_passTicks_17 ⟨fun c => ?_, fun _ => C_pass (hO.passes j (by omega) (by omega) (by omega)) hR2 (by omega) (by omega) (by omega) fun M3 hF3 hR3 => ih (j + 1) (by omega) (y + 1) M3 (ti_inc hy (by omega)) (hF.trans hF3) hR3⟩
      exfalso
      rw [ti_le] at c
      omega
  refine zm_X5_passTicks ⟨fun _ => key k 0 (by omega) 0 M rfl (zFr.refl r M) hR, fun c => ?_⟩
  exfalso
  rw [ti_le, show zmI M 15 r 7 = w 7 from hR.1.1 7 (by omega), ti_add (by omega), show (9999 : Int32).toInt = 9999 from rfl] at c
  omega
theorem P_tick (hl : l.stackTraces = false) {p : Int32} (hI : Inv M A) (hA : A ≤ 299000000) : zCalIX l G Y_X8_tick 1 6 [vr 0 0, vi p] M (fun x M1 => zCalI l G Y_X9_tick 0 0 [vr 30 0, vi p] M1 (fun y M2 => y = x ∧ Good (A + 2700) 0 M2)) (fun E M1 => E = IAE ∧ zCalI l G Y_X9_tick 0 0 [vr 30 0, vi p] M1 (fun _ M2 => Good (A + 2700) 1 M2)) := by
  obtain ⟨n, hR, hO⟩ := hI.1
  have ht := hO.tim
  have more : ∀ {th : Int32} {M' : zM}, Good A th M' → Good (A + 2700) th M' := fun {th M'} g => ⟨g.1, g.2.keep (Oth.refl _) (by omega) (g.2.1.mono (by omega)) g.2.2.1⟩
  refine zm_X8_tick (C_within hl (fun c => ?_) fun c => ⟨rfl, zm_X9_tick (R_noTicks (z7_0 M) (by decide) (fun d => absurd d c) fun _ => ⟨fun d => absurd d (by decide), fun _ => more (Good.thr hI 1)⟩)⟩)
  have c2 := c
  rw [ti_le, ti_le, ti_1, show (50 : Int32).toInt = 50 from rfl] at c2
  obtain ⟨k, hk⟩ : ∃ k : Nat, p.toInt = k := ⟨_, (Int.toNat_of_nonneg (by omega)).symm⟩
  have e7 : zmI M 15 1 7 = zmI M 31 0 7 := hR.1.1 7 (by omega)
  have es : (zmI M 31 0 7 + p).toInt = (zmI M 31 0 7).toInt + k := by rw [ti_add (by omega), hk]
  have le9 : zmI M 31 0 7 + p ≤ 9999 ↔ (zmI M 31 0 7).toInt + k ≤ 9999 := by rw [ti_le, es, show (9999 : Int32).toInt = 9999 from rfl]
  rw [e7]
  refine ⟨fun d => C_keep' hI fun M1 hkp r1 e1 => C_passTicks hO r1 hk (by omega) (by omega) (by omega) (le9.mp d) fun M3 f3 r3 => ?_, fun d => ?_⟩
  · have e3 : zmI M3 31 0 = zmI M 31 0 := (f3.1 31 0 (by unfold inR; omega)).trans e1
    have e : zmI (zsIr (zsI M3 30 0 7 0) 33 0 (sp_lay (zmI M 31 0) (M3.1 33 0) 0 0)) 31 0 = zmI M 31 0 := by rw [z31_33, z31_thr, e3]
    have op := hO.passes (p := false) k (by omega) (by omega) (by omega)
    have o7 := sp_passes_7 (p := false) hO k (by omega) (by omega) (by omega)
    have d2 := le9.mp d
    have m8 : zmI M3 30 0 8 = 0 := by
      obtain ⟨P, U, M0, -, -, -, -, f1, -, rfl⟩ := hkp
      rw [show zmI M3 30 0 = _ from f3.1 30 0 (by unfold inR; omega), zsIo _ _ _ _ _ _ (by omega), f1.1 30 0 (by unfold inR; omega)]
      exact hI.2.1
    refine zm_X9_tick (R_noTicks (z7_0 M3) (by decide) (fun _ => ⟨fun _ => R_starts3 e3 (zm_X9_tickNow ?_), fun f => absurd rfl f⟩) fun f => absurd c f)
    rw [e]
    refine ⟨fun _ => R_passes (plain := false) (k := k) (by rw [e]; exact hO) (by rw [show zmI (zsIr (zsI M3 30 0 7 0) 33 0 (sp_lay (zmI M 31 0) (M3.1 33 0) 0 0)) 30 0 = zmI (zsI M3 30 0 7 0) 30 0 from zsIo _ _ _ _ _ _ (by omega)]; exact z8_0 m8) hk (by omega) (by omega) (by omega) ?_, fun f => absurd d f⟩
    rw [e]
    (simp only [zsI1, zsI2])
    refine R_rec' (A' := A + 2700) (by rw [ti_lt, o7, ti_0]; omega) hI hkp f3 ⟨n, r3, ?_⟩ (by omega) fun M4 hg => ⟨rfl, hg⟩
    have o1 := op.mono (show A + 54 * k ≤ A + 2700 by omega) (show 9 * (zmI M 31 0 7).toInt.toNat + 9 * k ≤ 9 * (sp_passes (zmI M 31 0) false k 7).toInt.toNat by omega) (Nat.le_refl _)
    have otim := o1.tim
    exact OK.mk o1.lim o1.rate o1.mm o1.top o1.wt o1.gen (by omega) o1.nq o1.nf o1.nd o1.fl o1.qu o1.su
  · refine zm_X9_tick (R_noTicks (z7_0 M) (by decide) (fun _ => ⟨fun _ => R_starts3 rfl (zm_X9_tickNow ⟨fun f => ?_, fun _ => zm_X9_recorded ⟨fun _ => ⟨rfl, ?_⟩, fun f => absurd (by decide) f⟩⟩), fun f => absurd rfl f⟩) fun f => absurd c f)
    · rw [z31_33, z31_thr] at f
      exact absurd f d
    · refine more ⟨?_, ?_⟩
      · rw [zsIo _ _ _ _ _ _ (by omega)]
        exact z7_0 M
      · have h1 := inv_thr hI 0
        refine h1.keep ((Oth.refl _).I (Or.inr (Or.inr rfl))) (Nat.le_refl _) (h1.1.main (fun s i hi => ⟨zsIo _ _ _ _ _ _ (by have := inR_sort hi; omega), rfl, rfl⟩) (fun _ _ h => h) fun k _ => congrFun (zsIo _ _ _ _ _ _ (by omega)) k) ?_
        rw [zsIo _ _ _ _ _ _ (by omega)]
        exact h1.2.1
end
