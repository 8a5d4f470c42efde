section
variable {l : Launch} {G : zG} {M : zM} {A : Nat}
/-- a stored state comes back into the main router and the row -/
theorem back_main {r : Nat} {w : Nat → Int32} {M1 M2 : zM} (hw : Row M r w A) (f1 : zFr 1 M M1) (r1 : Rel M1 1 w true) (e : ∀ s i, 15 ≤ s → s ≤ 22 → M2.1 s i = M1.1 s i) (e2 : M2.2 = M1.2) (e31 : ∀ k, k < 484 → M2.1 31 0 k = w k) : Row M2 1 (zmI M2 31 0) A := by
  obtain ⟨n, g1, g2⟩ := hw
  have hn := g2.nf
  have : Row M2 1 w A := ⟨n, r1.kept (by omega) (fun s i hi => by have := inR_sort hi; exact e s i this.1 this.2) (fun s i hi => by rw [e2]) (fun s i hi => by rw [e2]) (fun a t ht => by rw [e2]; exact ht), g2⟩
  exact this.cong e31
theorem P_undo (hI : Inv M A) : zCalI l G Y_X8_undo 0 0 [vr 0 0] M (fun x M1 => zCalI l G Y_X9_undo 0 0 [vr 30 0] M1 (fun y M2 => y = x ∧ Good A 0 M2)) := by
  obtain ⟨P, U, hP, hU, e1, e2, e6, hr⟩ := hI.2.2.1
  have pI : (nI P).toInt = P := ti_nI (by omega)
  have uI : (nI U).toInt = U := ti_nI (by omega)
  have k6 : ∀ M', M'.1 30 0 = M.1 30 0 → zmI (zsI M' 30 0 7 0) 30 0 6 = nI U := fun M' h => by
    simp only [zmI, zsI1]
    rw [zup_ne _ _ (by omega), h, e6]
  refine zm_X8_undo (zm_X2_takeBack ?_)
  rw [show zmI M 10 0 1 = nI P from e1, show zmI M 10 0 2 = nI U from e2]
  by_cases hU0 : U = 0
  · have bad : zCalI l G Y_X9_undo 0 0 [vr 30 0] M (fun y M2 => y = -1 ∧ Good A 0 M2) := zm_X9_undo ⟨fun c => absurd (by rw [k6 M rfl, hU0]; rfl) c, fun _ => ⟨rfl, Good.z hI⟩⟩
    refine ⟨fun _ => ⟨fun _ => bad, fun c => absurd rfl c⟩, fun c => ?_⟩
    exfalso
    rw [ti_lt, uI, ti_1] at c
    omega
  · have ea : ((nI P + 8) - 1).toInt = (P : Int) + 7 := by rw [ti_sub (by rw [ti_add (by rw [pI, show (8 : Int32).toInt = 8 from rfl]; omega), pI, show (8 : Int32).toInt = 8 from rfl, ti_1]; omega), ti_add (by rw [pI, show (8 : Int32).toInt = 8 from rfl]; omega), pI, show (8 : Int32).toInt = 8 from rfl, ti_1]; omega
    have eb : (((nI P + 8) - 1) - ((nI P + 8) - 1) / 8 * 8) = nI ((P + 7) % 8) := by
      refine nI_ofT ?_
      rw [ti_rem (by rw [ea]; omega) (by decide), ea, show (8 : Int32).toInt = 8 from rfl]
      omega
    have bI : (nI ((P + 7) % 8)).toInt = ((P + 7) % 8 : Nat) := ti_nI (by omega)
    rw [eb]
    refine ⟨fun c => ?_, fun _ => ⟨fun c => ?_, fun _ => ⟨fun _ => ⟨ti_in (by rw [bI]; omega), ?_⟩, fun c => ?_⟩⟩⟩
    · exfalso
      rw [ti_lt, uI, ti_1] at c
      omega
    · exfalso
      rw [ti_lt, bI, ti_0] at c
      omega
    · rw [ti_at bI]
      have hrow := hr (U - 1) (by omega)
      have epl : 3 + (P + 8 - U + (U - 1)) % 8 = 3 + (P + 7) % 8 := by omega
      rw [epl] at hrow
      obtain ⟨n, g1, g2⟩ := hrow
      have hrow : Row M (3 + (P + 7) % 8) (fun k => M.1 34 0 (484 * (U - 1) + k)) A := ⟨n, g1, g2⟩
      refine C_copy g2 g1 (by omega) fun M1 f1 r1 => ⟨fun c => absurd c (by decide), fun _ => ?_⟩
      have m10 : M1.1 10 0 = M.1 10 0 := f1.1 10 0 (by unfold inR; omega)
      simp only [zmI, zsI1, zsI2]
      rw [zup_self, zup_ne (M1.1 10 0) (k := 1) (j := 2) _ (by omega), m10, e2]
      have em : nI U - 1 = nI (U - 1) := nI_ofT (by rw [ti_sub (by rw [uI, ti_1]; omega), uI, ti_1]; omega)
      rw [em]
      generalize hM2 : zsIr M1 10 0 (zup (zup (M.1 10 0) 1 (nI ((P + 7) % 8))) 2 (nI (U - 1))) = M2
      have t2 : ∀ s i, ¬ (s = 10 ∧ i = 0) → M2.1 s i = M1.1 s i := fun s i q => by rw [← hM2]; exact zsIo _ _ _ _ _ _ q
      have t2' : M2.2 = M1.2 := by rw [← hM2]; rfl
      have far : ∀ s i, (s < 15 ∨ 22 < s) → ¬ inR 1 s i := fun s i hs h => by have := inR_sort h; omega
      have m30 : M2.1 30 0 = M.1 30 0 := (t2 30 0 (by omega)).trans (f1.1 30 0 (far _ _ (by omega)))
      have m34 : M2.1 34 0 = M.1 34 0 := (t2 34 0 (by omega)).trans (f1.1 34 0 (far _ _ (by omega)))
      refine zm_X9_undo ⟨fun _ => ?_, fun c => ?_⟩
      · rw [k6 M2 m30, em]
        have es : zsI (zsI M2 30 0 7 0) 30 0 6 (nI (U - 1)) = zsIr M2 30 0 (zup (zup (M2.1 30 0) 7 0) 6 (nI (U - 1))) := by
          simp only [zmI, zsI1, zsI2]
        rw [es]
        have k30 : (zsIr M2 30 0 (zup (zup (M2.1 30 0) 7 0) 6 (nI (U - 1)))).1 30 0 6 = nI (U - 1) := by rw [zsI1, zup_self]
        have e484 : (484 * zmI (zsIr M2 30 0 (zup (zup (M2.1 30 0) 7 0) 6 (nI (U - 1)))) 30 0 6).toInt = (484 * (U - 1) : Nat) := by
          rw [show zmI (zsIr M2 30 0 (zup (zup (M2.1 30 0) 7 0) 6 (nI (U - 1)))) 30 0 6 = nI (U - 1) from k30, ti_mul (by rw [ti_nI (by omega), show (484 : Int32).toInt = 484 from rfl]; omega), ti_nI (by omega), show (484 : Int32).toInt = 484 from rfl]
          omega
        refine R_lays (na := 3872) (nb := 484) rfl rfl (by decide) (a := 484 * (U - 1)) (b := 0) e484 rfl (by omega) (by omega) (by omega) ?_
        generalize hg : sp_lay (zmI (zsIr M2 30 0 (zup (zup (M2.1 30 0) 7 0) 6 (nI (U - 1)))) 34 0) (zmI (zsIr M2 30 0 (zup (zup (M2.1 30 0) 7 0) 6 (nI (U - 1)))) 31 0) (484 * (U - 1)) 0 = g
        have gk : ∀ k, k < 484 → g k = M.1 34 0 (484 * (U - 1) + k) := fun k hk => by
          rw [← hg]
          unfold sp_lay
          rw [if_pos (by omega), show zmI (zsIr M2 30 0 (zup (zup (M2.1 30 0) 7 0) 6 (nI (U - 1)))) 34 0 = M.1 34 0 from (zsIo _ _ _ _ _ _ (by omega)).trans m34]
          exact congrArg (M.1 34 0) (by omega)
        have t3 : ∀ s i, s ≠ 30 → s ≠ 31 → (zsIr (zsIr M2 30 0 (zup (zup (M2.1 30 0) 7 0) 6 (nI (U - 1)))) 31 0 g).1 s i = M2.1 s i := fun s i h1 h2 => (zsIo _ _ _ _ _ _ (by omega)).trans (zsIo _ _ _ _ _ _ (by omega))
        have t30 : (zsIr (zsIr M2 30 0 (zup (zup (M2.1 30 0) 7 0) 6 (nI (U - 1)))) 31 0 g).1 30 0 = zup (zup (M.1 30 0) 7 0) 6 (nI (U - 1)) := by
          rw [zsIo _ _ _ _ _ _ (by omega), zsI1, m30]
        have t31 : (zsIr (zsIr M2 30 0 (zup (zup (M2.1 30 0) 7 0) 6 (nI (U - 1)))) 31 0 g).1 31 0 = g := zsI1 _ _ _ _
        have tr : (zsIr (zsIr M2 30 0 (zup (zup (M2.1 30 0) 7 0) 6 (nI (U - 1)))) 31 0 g).2 = M1.2 := t2'
        generalize zsIr (zsIr M2 30 0 (zup (zup (M2.1 30 0) 7 0) 6 (nI (U - 1)))) 31 0 g = M4 at *
        have tT : M4.2.2.2.2 = M.2.2.2.2 := by rw [tr]; exact f1.2.2.2.2
        refine ⟨by rw [show zmI M4 30 0 = _ from t30, zup_self], by rw [t30, zup_ne _ _ (by omega), zup_self], ?_⟩
        have o2 : Oth2 M M4 := by
          refine ⟨fun r s i h1 h2 h3 => ?_, fun s hs => ?_, fun k hk => ?_, fun a t ha => by rw [tT]; exact ha, by unfold zmB; rw [tT]⟩
          · have q1 := inR_ne h3 (show r ≠ 1 by omega)
            have q4 := inR_sort h3
            rw [t3 s i (by omega) (by omega), t2 s i (by omega), tr]
            exact ⟨f1.1 s i q1, f1.2.1 s i q1, f1.2.2.2.1 s i q1⟩
          · rw [t3 s 0 (by omega) (by omega), t2 s 0 (by omega)]
            exact f1.1 s 0 (far _ _ (by omega))
          · rw [t30, zup_ne _ _ (by omega), zup_ne _ _ (by omega)]
        refine ⟨back_main hrow f1 r1 (fun s i h1 h2 => (t3 s i (by omega) (by omega)).trans (t2 s i (by omega))) tr fun k hk => by rw [t31, gk k hk], by rw [t30, zup_ne _ _ (by omega), zup_ne _ _ (by omega)]; exact hI.2.1, ?_, hI.2.2.2.1.oth2 o2 (Nat.le_refl _), hI.2.2.2.2.1.oth2 o2, hI.2.2.2.2.2.oth2 o2⟩
        refine ⟨(P + 7) % 8, U - 1, by omega, by omega, ?_, ?_, by rw [t30, zup_self], fun j hj => ?_⟩
        · rw [t3 10 0 (by omega) (by omega), ← hM2, zsI1, zup_ne _ _ (by omega), zup_self]
        · rw [t3 10 0 (by omega) (by omega), ← hM2, zsI1, zup_self]
        · rw [t3 34 0 (by omega) (by omega), m34, show ((P + 7) % 8 + 8 - (U - 1) + j) % 8 = (P + 8 - U + j) % 8 by omega]
          obtain ⟨n', q1, q2⟩ := hr j (by omega)
          have hn' := q2.nf
          refine ⟨n', q1.kept (by omega) (fun s i hi => ?_) (fun s i hi => ?_) (fun s i hi => ?_) (fun a t ht => by rw [tT]; exact ht), q2⟩
          · have := inR_sort hi
            rw [t3 s i (by omega) (by omega), t2 s i (by omega)]
            exact f1.1 s i (inR_ne hi (by omega))
          · rw [tr]
            exact f1.2.1 s i (inR_ne hi (by omega))
          · rw [tr]
            exact f1.2.2.2.1 s i (inR_ne hi (by omega))
      · exfalso
        rw [k6 M2 m30, ti_eq, uI, ti_0] at c
        omega
    · exfalso
      rw [ti_lt, bI, show (8 : Int32).toInt = 8 from rfl] at c
      omega
end
