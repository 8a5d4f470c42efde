section
variable {l : Launch} {G : zG} {M : zM} {A : Nat}
theorem P_restore (hl : l.stackTraces = false) {p : Int32} (hI : Inv M A) : zCalIX l G Y_X8_restore 1 6 [vr 0 0, vi p] M (fun x M1 => zCalI l G Y_X9_restore 0 0 [vr 30 0, vi p] M1 (fun y M2 => y = x ∧ Good A 0 M2)) (fun E M1 => E = IAE ∧ zCalI l G Y_X9_restore 0 0 [vr 30 0, vi p] M1 (fun _ M2 => Good A 1 M2)) := by
  refine zm_X8_restore (C_within hl (fun c => ?_) fun c => ⟨rfl, zm_X9_restore (R_noSlot (z7_0 M) (fun d => absurd d c) fun _ => ⟨fun d => absurd d (by decide), fun _ => Good.thr hI 1⟩)⟩)
  have c2 := c
  rw [ti_le, ti_le, ti_0, ti_1] at c2
  obtain ⟨s, hs⟩ : ∃ s : Nat, p.toInt = s := ⟨_, (Int.toNat_of_nonneg c2.1).symm⟩
  obtain ⟨h1, h2, h3⟩ := hI.2.2.2.1 s (by omega)
  refine ⟨ti_in (by omega), ?_⟩
  rw [ti_at hs]
  have e36 : ∀ M', M'.1 36 0 = M.1 36 0 → zmI (zsI M' 30 0 7 0) 36 0 s = M.1 13 0 s := fun M' h => by
    rw [← h2, ← h]
    exact congrFun (zsIo _ _ _ _ _ _ (by omega)) s
  refine ⟨fun d => ⟨ti_in (by omega), ?_⟩, fun d => zm_X9_restore (R_noSlot (z7_0 M) (fun _ => ⟨fun _ => ⟨ti_in (by omega), ?_⟩, fun f => absurd rfl f⟩) fun f => absurd c f)⟩
  · have hrow := h3 (h1.resolve_left d)
    obtain ⟨n, g1, g2⟩ := hrow
    have hrow : Row M (11 + s) (fun k => M.1 35 0 (484 * s + k)) A := ⟨n, g1, g2⟩
    refine C_copy g2 g1 (by omega) fun M1 f1 r1 => zm_X2_forget ?_
    generalize hM2 : zsI M1 10 0 2 0 = M2
    have far : ∀ q i, (q < 15 ∨ 22 < q) → ¬ inR 1 q i := fun q i hq h => by have := inR_sort h; omega
    have t2 : ∀ q i, ¬ (q = 10 ∧ i = 0) → M2.1 q i = M1.1 q i := fun q i h => by rw [← hM2]; exact zsIo _ _ _ _ _ _ h
    have t2' : M2.2 = M1.2 := by rw [← hM2]; rfl
    have tm : ∀ q i, ¬ (q = 10 ∧ i = 0) → ¬ inR 1 q i → M2.1 q i = M.1 q i := fun q i h1 h2 => (t2 q i h1).trans (f1.1 q i h2)
    have m10 : M2.1 10 0 = zup (M.1 10 0) 2 0 := by
      rw [← hM2, zsI1, show zmI M1 10 0 = M.1 10 0 from f1.1 10 0 (far _ _ (by omega))]
    have e484 : (484 * p).toInt = (484 * s : Nat) := by
      rw [ti_mul (by rw [show (484 : Int32).toInt = 484 from rfl]; omega), show (484 : Int32).toInt = 484 from rfl]
      omega
    refine zm_X9_restore (R_noSlot (z7_0 M2) (fun _ => ⟨fun _ => ⟨ti_in (by omega), ?_⟩, fun f => absurd rfl f⟩) fun f => absurd c f)
    rw [ti_at hs, e36 M2 (tm 36 0 (by omega) (far _ _ (by omega)))]
    refine ⟨fun _ => R_lays (na := 968) (nb := 484) rfl rfl (by decide) (a := 484 * s) (b := 0) e484 rfl (by omega) (by omega) (by omega) ?_, fun f => absurd f d⟩
    have m30 : M2.1 30 0 = M.1 30 0 := tm 30 0 (by omega) (far _ _ (by omega))
    have m35 : zmI (zsI M2 30 0 7 0) 35 0 = M.1 35 0 := (zsIo _ _ _ _ _ _ (by omega)).trans (tm 35 0 (by omega) (far _ _ (by omega)))
    rw [m35]
    generalize hg : sp_lay (M.1 35 0) (zmI (zsI M2 30 0 7 0) 31 0) (484 * s) 0 = g
    have gk : ∀ k, k < 484 → g k = M.1 35 0 (484 * s + k) := fun k hk => by
      rw [← hg]
      unfold sp_lay
      rw [if_pos (by omega)]
      exact congrArg (M.1 35 0) (by omega)
    generalize hM4 : zsI (zsIr (zsI M2 30 0 7 0) 31 0 g) 30 0 6 0 = M4
    have v31 : M4.1 31 0 = g := by
      rw [← hM4]
      exact (zsIo _ _ _ _ _ _ (by omega)).trans (zsI1 _ _ _ _)
    have v30 : M4.1 30 0 = zup (zup (M.1 30 0) 7 0) 6 0 := by
      rw [← hM4]
      simp only [zmI, zsI1]
      rw [zsIo _ _ _ _ _ _ (by omega), zsI1, show zmI M2 30 0 = M.1 30 0 from m30]
    have vo : ∀ q i, q ≠ 30 → q ≠ 31 → M4.1 q i = M2.1 q i := fun q i h1 h2 => by
      rw [← hM4]
      exact (zsIo _ _ _ _ _ _ (by omega)).trans ((zsIo _ _ _ _ _ _ (by omega)).trans (zsIo _ _ _ _ _ _ (by omega)))
    have vr' : M4.2 = M1.2 := by rw [← hM4]; exact t2'
    have tT : M4.2.2.2.2 = M.2.2.2.2 := by rw [vr']; exact f1.2.2.2.2
    have o2 : Oth2 M M4 := by
      refine ⟨fun r q i h1 h2 h3 => ?_, fun q hq => ?_, fun k hk => ?_, fun a t ha => by rw [tT]; exact ha, by unfold zmB; rw [tT]⟩
      · have q1 := inR_ne h3 (show r ≠ 1 by omega)
        have q4 := inR_sort h3
        rw [vo q i (by omega) (by omega), t2 q i (by omega), vr']
        exact ⟨f1.1 q i q1, f1.2.1 q i q1, f1.2.2.2.1 q i q1⟩
      · rw [vo q 0 (by omega) (by omega)]
        exact tm q 0 (by omega) (far _ _ (by omega))
      · rw [v30, zup_ne _ _ (by omega), zup_ne _ _ (by omega)]
    obtain ⟨P, U, hP, hU, e1, e2, e6, hr⟩ := hI.2.2.1
    refine ⟨?_, by rw [v30, zup_ne _ _ (by omega), zup_self], back_main hrow f1 r1 (fun q i h1 h2 => (vo q i (by omega) (by omega)).trans (t2 q i (by omega))) vr' (fun k hk => by rw [v31, gk k hk]), by rw [v30, zup_ne _ _ (by omega), zup_ne _ _ (by omega)]; exact hI.2.1, ⟨P, 0, hP, by omega, ?_, ?_, by rw [v30, zup_self]; rfl, fun j hj => absurd hj (by omega)⟩, hI.2.2.2.1.oth2 o2 (Nat.le_refl _), hI.2.2.2.2.1.oth2 o2, hI.2.2.2.2.2.oth2 o2⟩
    · show M4.1 31 0 7 = M2.1 15 1 7
      rw [v31, gk 7 (by omega), t2 15 1 (by omega)]
      exact (r1.1.1 7 (by omega)).symm
    · rw [vo 10 0 (by omega) (by omega), m10, zup_ne _ _ (by omega)]
      exact e1
    · rw [vo 10 0 (by omega) (by omega), m10, zup_self]
      rfl
  · rw [ti_at hs, e36 M rfl]
    exact ⟨fun f => absurd d f, fun _ => ⟨rfl, Good.z hI⟩⟩
theorem P_size (hl : l.stackTraces = false) {p : Int32} (hI : Inv M A) : zCalIX l G Y_X8_size 1 6 [vr 0 0, vi p] M (fun x M1 => zCalI l G Y_X9_size 0 0 [vr 30 0, vi p] M1 (fun y M2 => y = x ∧ Good A 0 M2)) (fun E M1 => E = IAE ∧ zCalI l G Y_X9_size 0 0 [vr 30 0, vi p] M1 (fun _ M2 => Good A 1 M2)) := by
  obtain ⟨n, hR, hO⟩ := hI.1
  have hn := hO.nf
  obtain ⟨P, U, -, -, -, u2, u6, -⟩ := hI.2.2.1
  obtain ⟨-, -, -, L, K, -, -, -, hb1, hD⟩ := id hR
  have d1 := (hD rfl).1
  refine zm_X8_size (C_within hl (fun c => ?_) fun c => ⟨rfl, zm_X9_size (R_in2 (fun d => absurd d c) fun _ => ⟨fun d => absurd rfl d, fun _ => zb_X9_size_21 (R_f1 (z7_0 M) (by decide) ⟨fun d => absurd d (by decide), fun _ => Good.thr hI 1⟩)⟩)⟩)
  have c2 := c
  rw [ti_le, ti_le, ti_0, show (14 : Int32).toInt = 14 from rfl] at c2
  -- the reference's answer
  have ref : ∀ v : Int32, (p = 12 → v = sp_on (zmI M 31 0) n) → (p = 13 → v = zmI M 31 0 12) → (p = 14 → v = nI U) → (¬ p = 12 → ¬ p = 13 → ¬ p = 14 → v = zmI M 31 0 p.toInt.toNat) → zCalI l G Y_X9_size 0 0 [vr 30 0, vi p] M (fun y M2 => y = v ∧ Good A 0 M2) := by
    intro v v12 v13 v14 vx
    refine zm_X9_size (R_in2 (fun _ => ⟨fun _ => zb_X9_size_21 (R_f0 (z7_0 M) (by decide) ⟨fun _ => ⟨fun a => ⟨fun b => ⟨fun d => ⟨ti_in (by omega), ?_, Good.z hI⟩, fun d => ⟨?_, Good.z hI⟩⟩, fun b => ⟨?_, Good.z hI⟩⟩, fun a => R_onMany (n := n) (by rw [z31_thr]; exact hn.1) hn.2 ⟨?_, Good.z hI⟩⟩, fun d => absurd rfl d⟩), fun d => absurd d (by decide)⟩) fun d => absurd c d)
    · rw [z31_thr, ti_at (x := p) (n := p.toInt.toNat) (by omega)]
      exact (vx a b d).symm
    · rw [v14 d]
      simp only [zmI, zsI1]
      rw [zup_ne _ _ (by omega)]
      exact u6
    · rw [z31_thr]
      exact (v13 b).symm
    · rw [z31_thr]
      exact (v12 a).symm
  have val : ∀ (j : Nat) (v : Int32), p.toInt = j → j < 12 → v = zmI M 31 0 j → zCalI l G Y_X9_size 0 0 [vr 30 0, vi p] M (fun y M2 => y = v ∧ Good A 0 M2) := fun j v hj h12 hv =>
    ref v (fun d => by rw [d] at hj; have : (12 : Int32).toInt = 12 := rfl; omega) (fun d => by rw [d] at hj; have : (13 : Int32).toInt = 13 := rfl; omega) (fun d => by rw [d] at hj; have : (14 : Int32).toInt = 14 := rfl; omega) fun _ _ _ => by rw [hv, show p.toInt.toNat = j by omega]
  refine ⟨fun d => val 0 _ (by rw [d]; rfl) (by omega) (hR.1.1 0 (by omega)), fun d => val 1 _ (by rw [d]; rfl) (by omega) (hR.1.1 1 (by omega)), fun d => val 2 _ (by rw [d]; rfl) (by omega) (hR.1.1 2 (by omega)), fun d => val 3 _ (by rw [d]; rfl) (by omega) (hR.1.1 3 (by omega)), fun d => val 4 _ (by rw [d]; rfl) (by omega) (hR.1.1 4 (by omega)), fun d => val 5 _ (by rw [d]; rfl) (by omega) (hR.1.1 5 (by omega)), fun d => val 6 _ (by rw [d]; rfl) (by omega) (hR.1.1 6 (by omega)), fun d => val 7 _ (by rw [d]; rfl) (by omega) (hR.1.1 7 (by omega)), fun d => val 8 _ (by rw [d]; rfl) (by omega) hR.2.2.1.1, fun d => val 9 _ (by rw [d]; rfl) (by omega) hR.1.2.1, fun d => val 10 _ (by rw [d]; rfl) (by omega) (hR.1.2.2.1 rfl), fun d => val 11 _ (by rw [d]; rfl) (by omega) hR.1.2.2.2.2.2, fun d => C_flowsOn hO hR (ref _ (fun _ => rfl) (fun f => absurd (d.symm.trans f) (by decide)) (fun f => absurd (d.symm.trans f) (by decide)) fun f => absurd d f), fun d => ref _ (fun f => absurd (d.symm.trans f) (by decide)) (fun _ => hb1.trans d1.symm) (fun f => absurd (d.symm.trans f) (by decide)) fun _ f => absurd d f, fun d => ?_⟩
  obtain ⟨d0, d1', d2, d3, d4, d5, d6, d7, d8, d9, d10, d11, d12, d13⟩ := d
  have d14 : p = 14 := by
    simp only [ti_eq] at *
    have a0 : (0 : Int32).toInt = 0 := rfl
    have a1 : (1 : Int32).toInt = 1 := rfl
    have a2 : (2 : Int32).toInt = 2 := rfl
    have a3 : (3 : Int32).toInt = 3 := rfl
    have a4 : (4 : Int32).toInt = 4 := rfl
    have a5 : (5 : Int32).toInt = 5 := rfl
    have a6 : (6 : Int32).toInt = 6 := rfl
    have a7 : (7 : Int32).toInt = 7 := rfl
    have a8 : (8 : Int32).toInt = 8 := rfl
    have a9 : (9 : Int32).toInt = 9 := rfl
    have a10 : (10 : Int32).toInt = 10 := rfl
    have a11 : (11 : Int32).toInt = 11 := rfl
    have a12 : (12 : Int32).toInt = 12 := rfl
    have a13 : (13 : Int32).toInt = 13 := rfl
    have a14 : (14 : Int32).toInt = 14 := rfl
    omega
  exact ref _ (fun f => absurd f d12) (fun f => absurd f d13) (fun _ => u2) fun _ _ f => absurd d14 f
end
