section
variable {l : Launch} {G : zG} {M : zM} {A : Nat}
theorem R_noSlot {p : Int32} {Kf : Int32 → zM → Prop} (h7 : zmI M 30 0 7 = 0) (h1 : 0 ≤ p ∧ p ≤ 1 → Kf 0 M) (h2 : ¬ (0 ≤ p ∧ p ≤ 1) → Kf 1 (zsI M 30 0 7 1)) : zCalI l G Y_X9_noSlot 0 0 [vr 30 0, vi p] M Kf :=
  zm_X9_noSlot (R_in2 (fun c => ⟨fun _ => zb_X9_noSlot_15 (R_f0 h7 (by decide) ⟨Or.inl rfl, h1 c⟩), fun d => absurd d (by decide)⟩) fun c => ⟨fun d => absurd rfl d, fun _ => zb_X9_noSlot_15 (R_f1 h7 (by decide) ⟨Or.inr rfl, h2 c⟩)⟩)
theorem P_save (hl : l.stackTraces = false) {p : Int32} (hI : Inv M A) : zCalIX l G Y_X8_save 1 6 [vr 0 0, vi p] M (fun x M1 => zCalI l G Y_X9_save 0 0 [vr 30 0, vi p] M1 (fun y M2 => y = x ∧ Good A 0 M2)) (fun E M1 => E = IAE ∧ zCalI l G Y_X9_save 0 0 [vr 30 0, vi p] M1 (fun _ M2 => Good A 1 M2)) := by
  obtain ⟨n, hR, hO⟩ := hI.1
  have hn := hO.nf
  refine zm_X8_save (C_within hl (fun c => ?_) fun c => ⟨rfl, zm_X9_save (R_noSlot (z7_0 M) (fun d => absurd d c) fun _ => ⟨fun d => absurd d (by decide), fun _ => Good.thr hI 1⟩)⟩)
  have c2 := c
  rw [ti_le, ti_le, ti_0, ti_1] at c2
  obtain ⟨s, hs⟩ : ∃ s : Nat, p.toInt = s := ⟨_, (Int.toNat_of_nonneg c2.1).symm⟩
  refine ⟨ti_in (by omega), ?_⟩
  rw [ti_at hs]
  refine C_copy hO hR (by omega) fun M1 f1 r1 => ⟨ti_in (by omega), ?_⟩
  have m13 : M1.1 13 0 = M.1 13 0 := f1.1 13 0 (by unfold inR; omega)
  generalize hM2 : zsI M1 13 0 s 1 = M2
  have hM2' : zsIr M1 13 0 (zup (M.1 13 0) s 1) = M2 := by rw [← hM2, ← m13]
  have t2 : ∀ q i, ¬ (q = 13 ∧ i = 0) → M2.1 q i = M1.1 q i := fun q i h => by rw [← hM2']; exact zsIo _ _ _ _ _ _ h
  have t2' : M2.2 = M1.2 := by rw [← hM2']; rfl
  have far : ∀ q i, (q < 15 ∨ 22 < q) → ¬ inR (11 + s) q i := fun q i hq h => by have := inR_sort h; omega
  have tm : ∀ q i, ¬ (q = 13 ∧ i = 0) → ¬ inR (11 + s) q i → M2.1 q i = M.1 q i := fun q i h1 h2 => (t2 q i h1).trans (f1.1 q i h2)
  have e7 : M2.1 15 1 7 = M.1 31 0 7 := by
    rw [tm 15 1 (by omega) (by unfold inR; omega)]
    exact hR.1.1 7 (by omega)
  have e484 : (484 * p).toInt = (484 * s : Nat) := by
    rw [ti_mul (by rw [show (484 : Int32).toInt = 484 from rfl]; omega), show (484 : Int32).toInt = 484 from rfl]
    omega
  refine zm_X9_save (R_noSlot (z7_0 M2) (fun _ => ⟨fun _ => R_lays (na := 484) (nb := 968) rfl rfl (by decide) (a := 0) (b := 484 * s) rfl e484 (by omega) (by omega) (by omega) ⟨ti_in (by omega), ?_⟩, fun d => absurd rfl d⟩) fun d => absurd c d)
  rw [ti_at hs, z31_thr]
  generalize hg : sp_lay (zmI M2 31 0) (zmI (zsI M2 30 0 7 0) 35 0) 0 (484 * s) = g
  have m31 : M2.1 31 0 = M.1 31 0 := tm 31 0 (by omega) (far _ _ (by omega))
  have m35 : zmI (zsI M2 30 0 7 0) 35 0 = M.1 35 0 := (zsIo _ _ _ _ _ _ (by omega)).trans (tm 35 0 (by omega) (far _ _ (by omega)))
  have m30 : M2.1 30 0 = M.1 30 0 := tm 30 0 (by omega) (far _ _ (by omega))
  have m36 : M2.1 36 0 = M.1 36 0 := tm 36 0 (by omega) (far _ _ (by omega))
  have g1 : ∀ k, k < 484 → g (484 * s + k) = M.1 31 0 k := fun k hk => by
    rw [← hg, ← m31]
    unfold sp_lay
    rw [if_pos (by omega)]
    exact congrArg (M2.1 31 0) (by omega)
  have g2 : ∀ s' k, s' < 2 → s' ≠ s → k < 484 → g (484 * s' + k) = M.1 35 0 (484 * s' + k) := fun s' k h1 h2 hk => by
    rw [← hg, m35]
    exact if_neg (by omega)
  generalize hM4 : zsI (zsIr (zsI M2 30 0 7 0) 35 0 g) 36 0 s 1 = M4
  have v36 : M4.1 36 0 = zup (M.1 36 0) s 1 := by
    rw [← hM4]
    simp only [zmI, zsI1]
    rw [zsIo _ _ _ _ _ _ (by omega), zsIo _ _ _ _ _ _ (by omega), m36]
  have v35 : M4.1 35 0 = g := by
    rw [← hM4]
    exact (zsIo _ _ _ _ _ _ (by omega)).trans (zsI1 _ _ _ _)
  have v30 : M4.1 30 0 = zup (M.1 30 0) 7 0 := by
    rw [← hM4]
    refine (zsIo _ _ _ _ _ _ (by omega)).trans ((zsIo _ _ _ _ _ _ (by omega)).trans ?_)
    rw [zsI1, ← m30]
  have vo : ∀ q i, q ≠ 30 → q ≠ 35 → q ≠ 36 → M4.1 q i = M2.1 q i := fun q i h1 h2 h3 => by
    rw [← hM4]
    exact (zsIo _ _ _ _ _ _ (by omega)).trans ((zsIo _ _ _ _ _ _ (by omega)).trans (zsIo _ _ _ _ _ _ (by omega)))
  have vr' : M4.2 = M1.2 := by rw [← hM4]; exact t2'
  have tT : M4.2.2.2.2 = M.2.2.2.2 := by rw [vr']; exact f1.2.2.2.2
  have v13 : M4.1 13 0 = zup (M.1 13 0) s 1 := by rw [vo 13 0 (by omega) (by omega) (by omega), ← hM2', zsI1]
  have vm : ∀ q i, q ≠ 13 → q ≠ 30 → q ≠ 35 → q ≠ 36 → ¬ inR (11 + s) q i → M4.1 q i = M.1 q i := fun q i h1 h2 h3 h4 h5 => (vo q i h2 h3 h4).trans (tm q i (by omega) h5)
  have keepR : ∀ (r : Nat) (w : Nat → Int32), r ≠ 11 + s → Row M r w A → Row M4 r w A := fun r w hr hrow => by
    obtain ⟨n', q1, q2⟩ := hrow
    have hn' := q2.nf
    refine ⟨n', q1.kept (by omega) (fun q i hi => ?_) (fun q i hi => ?_) (fun q i hi => ?_) (fun a t ht => by rw [tT]; exact ht), q2⟩
    · have := inR_sort hi
      exact vm q i (by omega) (by omega) (by omega) (by omega) (inR_ne hi hr)
    · rw [vr']
      exact f1.2.1 q i (inR_ne hi hr)
    · rw [vr']
      exact f1.2.2.2.1 q i (inR_ne hi hr)
  refine ⟨?_, by rw [v30, zup_self], ?_, by rw [v30, zup_ne _ _ (by omega)]; exact hI.2.1, ?_, fun s' hs' => ?_, ?_, ?_⟩
  · show M4.1 31 0 7 = M2.1 15 1 7
    rw [e7, vm 31 0 (by omega) (by omega) (by omega) (by omega) (far _ _ (by omega))]
  · rw [show zmI M4 31 0 = M.1 31 0 from vm 31 0 (by omega) (by omega) (by omega) (by omega) (far _ _ (by omega))]
    exact keepR 1 _ (by omega) hI.1
  · obtain ⟨P, U, hP, hU, e1, e2, e6, hr⟩ := hI.2.2.1
    have v10 : M4.1 10 0 = M.1 10 0 := vm 10 0 (by omega) (by omega) (by omega) (by omega) (far _ _ (by omega))
    refine ⟨P, U, hP, hU, by rw [v10]; exact e1, by rw [v10]; exact e2, by rw [v30, zup_ne _ _ (by omega)]; exact e6, fun j hj => ?_⟩
    rw [vm 34 0 (by omega) (by omega) (by omega) (by omega) (far _ _ (by omega))]
    exact keepR _ _ (by omega) (hr j hj)
  · rw [v13, v36, v35]
    obtain ⟨h1, h2, h3⟩ := hI.2.2.2.1 s' hs'
    by_cases hss : s' = s
    · rw [hss, zup_self, zup_self]
      refine ⟨Or.inr rfl, rfl, fun _ => ?_⟩
      have q1 : Rel M4 (11 + s) (zmI M 31 0) true := r1.kept (by omega) (fun q i hi => by have := inR_sort hi; rw [vo q i (by omega) (by omega) (by omega)]; exact t2 q i (by omega)) (fun q i hi => by rw [vr']) (fun q i hi => by rw [vr']) (fun a t ht => by rw [vr']; exact ht)
      have q2 : Row M4 (11 + s) (zmI M 31 0) A := ⟨n, q1, hO⟩
      exact q2.cong g1
    · rw [zup_ne _ _ hss, zup_ne _ _ hss]
      exact ⟨h1, h2, fun h => (keepR _ _ (by omega) (h3 h)).cong fun k hk => g2 s' k hs' hss hk⟩
  · obtain ⟨F, h1, h2, h3, h4, h5⟩ := hI.2.2.2.2.1
    refine ⟨F, h1, ?_⟩
    rw [vm 1 0 (by omega) (by omega) (by omega) (by omega) (far _ _ (by omega)), vm 2 0 (by omega) (by omega) (by omega) (by omega) (far _ _ (by omega)), vm 37 0 (by omega) (by omega) (by omega) (by omega) (far _ _ (by omega)), v30, zup_ne _ _ (by omega), zup_ne _ _ (by omega)]
    exact ⟨h2, h3, h4, h5⟩
  · have h := hI.2.2.2.2.2
    unfold Pg zmB at *
    rw [tT, v30, zup_ne _ _ (by omega), vm 44 0 (by omega) (by omega) (by omega) (by omega) (far _ _ (by omega))]
    exact h
end
