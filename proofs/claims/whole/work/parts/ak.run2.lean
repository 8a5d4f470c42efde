/-! RUN, the pair -/
section
variable {l : Launch} {G : zG} {M M0 Mz M' : zM} {A : Nat} {b : Nat → Int32} {F : Nat} {w w' f Q Q0 : Nat → Int32}
theorem P_run (hI : Inv M A) (hA : A ≤ 299000000) : zCalI l G Y_X8_run 0 0 [vr 0 0] M (fun x M1 => zCalI l G Y_X9_run 0 0 [vr 30 0] M1 (fun y M2 => y = x ∧ Good (A + 108000) 0 M2)) := by
  have hI0 := hI
  obtain ⟨⟨n, hR, hO⟩, hpl, ⟨P, U, hP, hU, p3, p4, p5, p6⟩, hSav, ⟨F, hF, r1, r2, r3, r4⟩, hPg⟩ := hI
  generalize hbb : M.1 37 0 = b at r3
  generalize hw : zmI M 31 0 = w at hR hO
  have hn := hO.nf
  have hTx : Tx b F M := Tx.mk hF r1 (fun j hj => (r3 j hj).1)
  have ebs := eb_all (b := b) (F := F) (w := w)
  have hl9 : ∀ i, i < n → 0 ≤ (w (sf i 9)).toInt ∧ (w (sf i 9)).toInt ≤ 8 := fun i hi => (hO.fl i hi).lng
  refine zm_X8_run (C_readAll hTx hR hO fun M1 c1 ye => zm_X4_empty ?_)
  obtain ⟨k1, k2, k3, k4⟩ := c1
  generalize hYY : y_all b F w = Y at *
  have er1 : zmI M1 1 0 5 = Y.1.2.1 := k2.err
  have era : zmI M1 1 0 6 = Y.1.2.2 := k2.era
  -- behind the reading
  have J2 : ∀ s i, ¬ (s = 1 ∨ s = 4 ∨ s = 5 ∨ s = 6 ∨ s = 7 ∨ s = 9) → (zsI M1 1 0 1 0).1 s i = M.1 s i := fun s i q => (zsIo _ _ _ _ _ _ (by omega)).trans (k3.1 s i q)
  have K2 : (zsI M1 1 0 1 0).2 = M.2 := k3.2
  have e21 : zmI (zsI M1 1 0 1 0) 1 0 = zup (zmI M1 1 0) 1 0 := zmU _ _ _ _
  have y2 : ∀ s, s = 4 ∨ s = 5 ∨ s = 6 ∨ s = 7 ∨ s = 9 → (zsI M1 1 0 1 0).1 s 0 = M1.1 s 0 := fun s hs => zsIo _ _ _ _ _ _ (by omega)
  generalize zsI M1 1 0 1 0 = M2 at J2 K2 e21 y2 ⊢
  have er2 : zmI M2 1 0 5 = Y.1.2.1 := by rw [e21, zup_ne _ _ (by omega)]; exact er1
  have hR2 : Rel M2 1 w true := hR.kept (by omega) (fun s i hi => J2 s i (by unfold inR at hi; omega)) (fun _ _ _ => by rw [K2]) (fun _ _ _ => by rw [K2]) (fun _ _ q => by rw [K2]; exact q)
  refine ⟨fun g => ?_, fun g => ?_⟩
  · -- the script is done
    have h0 : Y.1.2.1 = 0 := by
      refine Classical.byContradiction fun q => g ?_
      rw [if_neg q]
    obtain ⟨hJ, hkd, hsk⟩ := ye h0
    have hYR := k4 h0
    unfold YI at hJ
    rw [hsk] at hJ hYR
    have ea0 : Y.1.2.2 = -1 := by rw [← hYY] at h0 ⊢; exact ea_all h0
    generalize hTT : Y.2.1.1 = told at hJ hYR
    generalize hLL : Y.2.1.2 = L at hJ hYR
    generalize Y.2.2.2.1 = st at hJ
    refine C_keep hO hR2 (by rw [J2 10 0 (by omega)]; exact p3) hP (by rw [J2 10 0 (by omega)]; exact p4) hU fun M3 f3 r3' => ?_
    have J3 : ∀ s i, ¬ inR (3 + P) s i → M3.1 s i = M2.1 s i := f3.1
    have hR3 : Rel M3 1 w true := hR2.other (by omega) (by omega) f3
    have e10 : (zsIr M3 10 0 (ring10 (M3.1 10 0) P U)).1 10 0 = ring10 (M3.1 10 0) P U := zsI1 _ _ _ _
    have J4 : ∀ s i, ¬ s = 10 → (zsIr M3 10 0 (ring10 (M3.1 10 0) P U)).1 s i = M3.1 s i := fun s i q => zsIo _ _ _ _ _ _ (by omega)
    have K4 : (zsIr M3 10 0 (ring10 (M3.1 10 0) P U)).2 = M3.2 := rfl
    generalize zsIr M3 10 0 (ring10 (M3.1 10 0) P U) = M4 at e10 J4 K4 ⊢
    have hR4 : Rel M4 1 w true := hR3.kept (by omega) (fun s i hi => J4 s i (by have := inR_sort hi; omega)) (fun _ _ _ => by rw [K4]) (fun _ _ _ => by rw [K4]) (fun _ _ q => by rw [K4]; exact q)
    have hY4 : YR told L [] Y.2.2.2.2.1 Y.2.2.2.2.2.1 Y.2.2.2.2.2.2 M4 := hYR.of fun s hs => by
      rw [J4 s 0 (by omega), J3 s 0 (by unfold inR; omega), y2 s hs]
    refine C_perform hJ hY4 (by omega) hR4 hO fun M5 A' x5 rel5 ok5 hA' hdn => ?_
    -- what is as it was
    have far : ∀ s i, ¬ (s = 1 ∨ (4 ≤ s ∧ s ≤ 9)) → ¬ s = 10 → ¬ inR 1 s i → ¬ inR (3 + P) s i → M5.1 s i = M.1 s i := fun s i a1 a2 a3 a4 => by
      rw [x5.1 s i a3 (by omega), J4 s i a2, J3 s i a4, J2 s i (by omega)]
    have hi30 : ∀ s, 23 ≤ s → ¬ inR 1 s 0 ∧ ¬ inR (3 + P) s 0 := fun s hs => by unfold inR; omega
    have far30 : ∀ s, 23 ≤ s → M5.1 s 0 = M.1 s 0 := fun s hs => far s 0 (by omega) (by omega) (hi30 s hs).1 (hi30 s hs).2
    -- the reference reads
    have Tz : Ux b F (zsI M5 30 0 7 0) := Ux.mk hF (fun j hj => by
      rw [zmO _ _ _ _ _ _ (by omega), show zmI M5 37 0 = M.1 37 0 from far30 37 (by omega), hbb])
    have z30 : zmI (zsI M5 30 0 7 0) 30 0 = zup (M.1 30 0) 7 0 := by
      rw [zmU, show zmI M5 30 0 = M.1 30 0 from far30 30 (by omega)]
    have z31 : zmI (zsI M5 30 0 7 0) 31 0 = w := by
      rw [zmO _ _ _ _ _ _ (by omega), show zmI M5 31 0 = M.1 31 0 from far30 31 (by omega)]
      exact hw
    have Jz : ∀ s i, ¬ s = 30 → (zsI M5 30 0 7 0).1 s i = M5.1 s i := fun s i q => zsIo _ _ _ _ _ _ (by omega)
    have Kz : (zsI M5 30 0 7 0).2 = M5.2 := rfl
    refine zm_X9_run ?_
    generalize zsI M5 30 0 7 0 = Mz at Tz z30 z31 Jz Kz ⊢
    refine R_script Tz (by rw [z30, zup_ne _ _ (by omega)]; exact r2) z31 hn.1 hn.2 hl9 fun M6 uy _ => ?_
    rw [hYY] at uy
    obtain ⟨u1, u2, u3, u4⟩ := uy
    have hUR := u4 h0
    rw [hsk, hLL, hTT] at hUR
    have er6 : zmI M6 30 0 15 = 0 := by rw [u2.er]; exact h0
    have e6a : zmI (zsI M6 30 0 10 0) 30 0 15 = 0 := by rw [zmU, zup_ne _ _ (by omega)]; exact er6
    have e6b : zmI (zsI (zsI M6 30 0 10 0) 30 0 17 (-1)) 30 0 15 = 0 := by rw [zmU, zup_ne _ _ (by omega)]; exact e6a
    refine zm_X9_ended ⟨fun q => absurd e6a q, fun _ => zb_X9_ended_21 ⟨fun q => absurd e6b q, fun _ => ⟨fun _ => ?_, fun q => absurd (by decide) q⟩⟩⟩
    have m30 : zmI (zsI (zsI M6 30 0 10 0) 30 0 17 (-1)) 30 0 = zup (zup (zmI M6 30 0) 10 0) 17 (-1) := by rw [zmU, zmU]
    have m31 : zmI (zsI (zsI M6 30 0 10 0) 30 0 17 (-1)) 31 0 = w := by
      rw [zmO _ _ _ _ _ _ (by omega), zmO _ _ _ _ _ _ (by omega)]
      exact (u3.1 31 0 (by omega)).trans z31
    have J7 : ∀ s i, ¬ s = 30 → (zsI (zsI M6 30 0 10 0) 30 0 17 (-1)).1 s i = M6.1 s i := fun s i q => (zsIo _ _ _ _ _ _ (by omega)).trans (zsIo _ _ _ _ _ _ (by omega))
    have K7 : (zsI (zsI M6 30 0 10 0) 30 0 17 (-1)).2 = M6.2 := rfl
    generalize zsI (zsI M6 30 0 10 0) 30 0 17 (-1) = M7 at m30 m31 J7 K7 ⊢
    have s7 : ∀ j, ¬ (10 ≤ j ∧ j ≤ 17) → ¬ (25 ≤ j ∧ j ≤ 27) → ¬ j = 7 → M7.1 30 0 j = M.1 30 0 j := fun j a1 a2 a3 => by
      show zmI M7 30 0 j = _
      rw [m30, zup_ne _ _ (by omega), zup_ne _ _ (by omega), u3.2.2 j (by omega) a2, z30, zup_ne _ _ a3]
    refine R_rem (U := U) (Or.inl rfl) (by rw [s7 6 (by omega) (by omega) (by omega)]; exact p5) hU fun gg q1 q2 => ?_
    have e8_34 : (zsIr (zsIr M7 34 0 gg) 30 0 (zup (M7.1 30 0) 6 (nI (up8 U)))).1 34 0 = gg := by rw [zsIo _ _ _ _ _ _ (by omega), zsI1]
    have e8_30 : zmI (zsIr (zsIr M7 34 0 gg) 30 0 (zup (M7.1 30 0) 6 (nI (up8 U)))) 30 0 = zup (M7.1 30 0) 6 (nI (up8 U)) := zmU _ _ _ _
    have J8 : ∀ s i, ¬ s = 30 → ¬ s = 34 → (zsIr (zsIr M7 34 0 gg) 30 0 (zup (M7.1 30 0) 6 (nI (up8 U)))).1 s i = M7.1 s i := fun s i a1 a2 => (zsIo _ _ _ _ _ _ (by omega)).trans (zsIo _ _ _ _ _ _ (by omega))
    have K8 : (zsIr (zsIr M7 34 0 gg) 30 0 (zup (M7.1 30 0) 6 (nI (up8 U)))).2 = M7.2 := rfl
    generalize zsIr (zsIr M7 34 0 gg) 30 0 (zup (M7.1 30 0) 6 (nI (up8 U))) = M8 at e8_34 e8_30 J8 K8 ⊢
    have hUR8 : UR told L [] Y.2.2.2.2.1 Y.2.2.2.2.2.1 Y.2.2.2.2.2.2 M8 := hUR.of (fun s a1 a2 => by rw [J8 s 0 (by omega) (by omega), J7 s 0 (by omega)]) fun k a1 a2 => by
      show zmI M8 30 0 k = zmI M6 30 0 k
      rw [e8_30, zup_ne _ _ (by omega)]
      show zmI M7 30 0 k = _
      rw [m30, zup_ne _ _ (by omega), zup_ne _ _ (by omega)]
    have hJ8 : YJ n told L [] st Y.2.2.2.2.1 Y.2.2.2.2.2.1 Y.2.2.2.2.2.2 := hJ
    refine R_runs hJ8 hUR8 ?_ (by omega) ?_ hO fun M9 v9 w9 => ⟨rfl, ?_⟩
    · rw [e8_30, zup_ne _ _ (by omega), s7 8 (by omega) (by omega) (by omega)]; exact hpl
    · show M8.1 31 0 = w
      rw [J8 31 0 (by omega) (by omega)]; exact m31
    -- the end
    have J9 : ∀ s i, ¬ (s = 30 ∨ s = 31 ∨ s = 34 ∨ (38 ≤ s ∧ s ≤ 43)) → M9.1 s i = M5.1 s i := fun s i a1 => by
      rw [v9.1 s i (by omega), J8 s i (by omega) (by omega), J7 s i (by omega), u3.1 s i (by omega), Jz s i (by omega)]
    have K9 : M9.2 = M5.2 := by rw [v9.2, K8, K7, u3.2.1, Kz]
    have s9 : M9.1 30 0 = zup (M7.1 30 0) 6 (nI (up8 U)) := (v9.1 30 0 (by omega)).trans e8_30
    have g9 : M9.1 34 0 = gg := (v9.1 34 0 (by omega)).trans e8_34
    have t9 : ∀ j, ¬ (10 ≤ j ∧ j ≤ 17) → ¬ (25 ≤ j ∧ j ≤ 27) → ¬ j = 7 → ¬ j = 6 → M9.1 30 0 j = M.1 30 0 j := fun j a1 a2 a3 a4 => by
      rw [s9, zup_ne _ _ a4, s7 j a1 a2 a3]
    have hT : ∀ a t, M.2.2.2.2.1 a = some t → M9.2.2.2.2.1 a = some t := fun a t q => by
      rw [K9, x5.2.2.2.2, K4, f3.2.2.2.2, K2]
      exact q
    have L9 : ∀ s i, ¬ inR 1 s i → ¬ inR (3 + P) s i → M9.2.1 s i = M.2.1 s i := fun s i a1 a2 => by
      rw [K9, x5.2.1 s i a1, K4, f3.2.1 s i a2, K2]
    have N9 : ∀ s i, ¬ inR 1 s i → ¬ inR (3 + P) s i → M9.2.2.2.1 s i = M.2.2.2.1 s i := fun s i a1 a2 => by
      rw [K9, x5.2.2.2.1 s i a1, K4, f3.2.2.2.1 s i a2, K2]
    have I9 : ∀ s i, 11 ≤ s → s ≤ 22 → ¬ inR 1 s i → ¬ inR (3 + P) s i → M9.1 s i = M.1 s i := fun s i a1 a2 a3 a4 => by
      rw [J9 s i (by omega), far s i (by omega) (by omega) a3 a4]
    have o9 : ∀ s, 23 ≤ s → ¬ (s = 30 ∨ s = 31 ∨ s = 34 ∨ (38 ≤ s ∧ s ≤ 43)) → M9.1 s 0 = M.1 s 0 := fun s a1 a2 => by
      rw [J9 s 0 a2, far30 s a1]
    have i3 : ∀ s i, (s < 15 ∨ 22 < s) → ¬ inR 1 s i ∧ ¬ inR (3 + P) s i := fun s i hs => ⟨fun h => by have := inR_sort h; omega, fun h => by have := inR_sort h; omega⟩
    have b9 : zmB M9 = zmB M := by
      unfold zmB
      rw [K9, x5.2.2.2.2, K4, f3.2.2.2.2, K2]
    have oldRow : ∀ {r A0 : Nat} {v : Nat → Int32}, r < 13 → r ≠ 1 → r ≠ 3 + P → Row M r v A0 → Row M9 r v A0 := fun {r A0 v} hr ha hb q => by
      obtain ⟨n', g1, g2⟩ := q
      have hn' := g2.nf
      exact ⟨n', g1.kept (by omega) (fun s i hi => I9 s i (by have := inR_sort hi; omega) (by have := inR_sort hi; omega) (inR_ne hi ha) (inR_ne hi hb)) (fun s i hi => L9 s i (inR_ne hi ha) (inR_ne hi hb)) (fun s i hi => N9 s i (inR_ne hi ha) (inR_ne hi hb)) hT, g2⟩
    have e10' : M9.1 10 0 = ring10 (M3.1 10 0) P U := by
      rw [J9 10 0 (by omega), x5.1 10 0 (i3 10 0 (by omega)).1 (by omega)]
      exact e10
    refine ⟨?_, ?_, ?_, ?_, ?_, ?_, ?_⟩
    · show M9.1 30 0 7 = 0
      rw [s9, zup_ne _ _ (by omega)]
      show zmI M7 30 0 7 = 0
      rw [m30, zup_ne _ _ (by omega), zup_ne _ _ (by omega), u3.2.2 7 (by omega) (by omega), z30, zup_self]
    · rw [w9]
      have nn := ok5.nf
      exact ⟨n, rel5.kept (by omega) (fun s i hi => J9 s i (by have := inR_sort hi; omega)) (fun _ _ _ => by rw [K9]) (fun _ _ _ => by rw [K9]) (fun _ _ q => by rw [K9]; exact q), ok5.mono hA' (Nat.le_refl _) (Nat.le_refl _)⟩
    · rw [t9 8 (by omega) (by omega) (by omega) (by omega)]
      exact hpl
    · refine Ring.push (M := M) (A := A) hP hU p6 (by omega) (fun r s i a1 a2 a3 a4 => ?_) hT ?_ ?_ ?_ (w := w) ?_ (fun k hk => ?_) fun j k hj hk => ?_
      · have q1 := inR_ne a4 (show r ≠ 1 by omega)
        have q3 := inR_ne a4 (show r ≠ 3 + P by omega)
        have q4 := inR_sort a4
        exact ⟨I9 s i (by omega) (by omega) q1 q3, L9 s i q1 q3, N9 s i q1 q3⟩
      · rw [e10']
        exact (zup_ne _ _ (by omega)).trans (zup_self _ _ _)
      · rw [e10']
        exact zup_self _ _ _
      · rw [s9, zup_self]
      · have a1 : ∀ s i, inR (3 + P) s i → ¬ inR 1 s i := fun s i hi => inR_ne hi (by omega)
        exact Row.mono ⟨n, r3'.kept (by omega) (fun s i hi => by
          have := inR_sort hi
          rw [J9 s i (by omega), x5.1 s i (a1 s i hi) (by omega), J4 s i (by omega)]) (fun s i hi => by rw [K9, x5.2.1 s i (a1 s i hi), K4]) (fun s i hi => by rw [K9, x5.2.2.2.1 s i (a1 s i hi), K4]) (fun a t q => by rw [K9, x5.2.2.2.2, K4]; exact q), hO⟩ (by omega)
      · rw [g9, q1 k hk]
        show zmI M7 31 0 k = w k
        rw [m31]
      · rw [g9, q2 j k hj hk, J7 34 0 (by omega), u3.1 34 0 (by omega), Jz 34 0 (by omega), far30 34 (by omega)]
    · intro s hs
      obtain ⟨a1, a2, a3⟩ := hSav s hs
      rw [J9 13 0 (by omega), far 13 0 (by omega) (by omega) (i3 13 0 (by omega)).1 (i3 13 0 (by omega)).2, o9 36 (by omega) (by omega), o9 35 (by omega) (by omega)]
      exact ⟨a1, a2, fun c => (oldRow (by omega) (by omega) (by omega) (a3 c)).mono (by omega)⟩
    · have e1 : M9.1 1 0 = zup (zmI M1 1 0) 1 0 := by
        rw [J9 1 0 (by omega), x5.1 1 0 (i3 1 0 (by omega)).1 (by omega), J4 1 0 (by omega), J3 1 0 (i3 1 0 (by omega)).2]
        exact e21
      refine ⟨0, by omega, by rw [e1, zup_self]; rfl, ?_, fun j hj => absurd hj (by omega), ?_⟩
      · rw [s9, zup_ne _ _ (by omega)]
        show zmI M7 30 0 10 = nI 0
        rw [m30, zup_ne _ _ (by omega), zup_self]
        rfl
      · rw [e1, zup_ne _ _ (by omega), era, ea0, s9, zup_ne _ _ (by omega)]
        show -1 = zmI M7 30 0 17
        rw [m30, zup_self]
    · unfold Pg at hPg ⊢
      rw [b9, o9 44 (by omega) (by omega), t9 29 (by omega) (by omega) (by omega) (by omega)]
      exact hPg
  · -- the script has an error
    have n0 : ¬ Y.1.2.1 = 0 := fun e => by
      rw [if_pos e] at g
      exact absurd g (by decide)
    obtain ⟨b1, b2⟩ := ebs
    have nb : ¬ 0 ≤ (-10 - Y.1.2.1 : Int32) := fun e => by
      rw [ti_le, ti_0, ti_sub (by rw [show (-10 : Int32).toInt = -10 from rfl]; omega), show (-10 : Int32).toInt = -10 from rfl] at e
      omega
    rw [er2]
    have f30 : ∀ s, 10 ≤ s → M2.1 s 0 = M.1 s 0 := fun s hs => J2 s 0 (by omega)
    have Tz : Ux b F (zsI M2 30 0 7 0) := Ux.mk hF (fun j hj => by
      rw [zmO _ _ _ _ _ _ (by omega), show zmI M2 37 0 = M.1 37 0 from f30 37 (by omega), hbb])
    have z30 : zmI (zsI M2 30 0 7 0) 30 0 = zup (M.1 30 0) 7 0 := by
      rw [zmU, show zmI M2 30 0 = M.1 30 0 from f30 30 (by omega)]
    have z31 : zmI (zsI M2 30 0 7 0) 31 0 = w := by
      rw [zmO _ _ _ _ _ _ (by omega), show zmI M2 31 0 = M.1 31 0 from f30 31 (by omega)]
      exact hw
    have Jz : ∀ s i, ¬ s = 30 → (zsI M2 30 0 7 0).1 s i = M2.1 s i := fun s i q => zsIo _ _ _ _ _ _ (by omega)
    have Kz : (zsI M2 30 0 7 0).2 = M2.2 := rfl
    refine zm_X9_run ?_
    generalize zsI M2 30 0 7 0 = Mz at Tz z30 z31 Jz Kz ⊢
    refine R_script Tz (by rw [z30, zup_ne _ _ (by omega)]; exact r2) z31 hn.1 hn.2 hl9 fun M6 uy _ => ?_
    rw [hYY] at uy
    obtain ⟨u1, u2, u3, -⟩ := uy
    have er6 : zmI M6 30 0 15 = Y.1.2.1 := u2.er
    have ea6 : zmI M6 30 0 16 = Y.1.2.2 := u2.ea n0
    have e6a : zmI (zsI M6 30 0 10 0) 30 0 15 = Y.1.2.1 := by rw [zmU, zup_ne _ _ (by omega)]; exact er6
    have e6c : zmI (zsI M6 30 0 10 0) 30 0 16 = Y.1.2.2 := by rw [zmU, zup_ne _ _ (by omega)]; exact ea6
    have e6b : zmI (zsI (zsI M6 30 0 10 0) 30 0 17 Y.1.2.2) 30 0 15 = Y.1.2.1 := by rw [zmU, zup_ne _ _ (by omega)]; exact e6a
    refine zm_X9_ended ⟨fun _ => ?_, fun q => absurd (e6a.symm.trans q) n0⟩
    rw [e6c]
    refine zb_X9_ended_21 ⟨fun _ => ?_, fun q => absurd (e6b.symm.trans q) n0⟩
    rw [e6b]
    refine ⟨fun q => absurd q nb, fun _ => ⟨rfl, ?_⟩⟩
    have m30 : zmI (zsI (zsI M6 30 0 10 0) 30 0 17 Y.1.2.2) 30 0 = zup (zup (zmI M6 30 0) 10 0) 17 Y.1.2.2 := by rw [zmU, zmU]
    have J7 : ∀ s i, ¬ s = 30 → (zsI (zsI M6 30 0 10 0) 30 0 17 Y.1.2.2).1 s i = M6.1 s i := fun s i q => (zsIo _ _ _ _ _ _ (by omega)).trans (zsIo _ _ _ _ _ _ (by omega))
    have K7 : (zsI (zsI M6 30 0 10 0) 30 0 17 Y.1.2.2).2 = M6.2 := rfl
    generalize zsI (zsI M6 30 0 10 0) 30 0 17 Y.1.2.2 = M9 at m30 J7 K7 ⊢
    have s9 : ∀ j, ¬ (10 ≤ j ∧ j ≤ 17) → ¬ (25 ≤ j ∧ j ≤ 27) → ¬ j = 7 → M9.1 30 0 j = M.1 30 0 j := fun j a1 a2 a3 => by
      show zmI M9 30 0 j = _
      rw [m30, zup_ne _ _ (by omega), zup_ne _ _ (by omega), u3.2.2 j (by omega) a2, z30, zup_ne _ _ a3]
    have e1 : M9.1 1 0 = zup (zmI M1 1 0) 1 0 := by
      rw [J7 1 0 (by omega), u3.1 1 0 (by omega), Jz 1 0 (by omega)]
      exact e21
    refine Good.mono (A := A) ⟨?_, hI0.far (fun s i q => ?_) ?_ (fun k hk => s9 k (by omega) (by omega) (by omega)) ?_⟩ (by omega)
    · show zmI M9 30 0 7 = 0
      rw [m30, zup_ne _ _ (by omega), zup_ne _ _ (by omega), u3.2.2 7 (by omega) (by omega), z30, zup_self]
    · rw [J7 s i (by omega), u3.1 s i (by omega), Jz s i (by omega), J2 s i (by omega)]
    · rw [K7, u3.2.1, Kz, K2]
    · refine ⟨0, by omega, by rw [e1, zup_self]; rfl, ?_, fun j hj => absurd hj (by omega), ?_⟩
      · show zmI M9 30 0 10 = nI 0
        rw [m30, zup_ne _ _ (by omega), zup_self]
        rfl
      · rw [e1, zup_ne _ _ (by omega), era]
        show _ = zmI M9 30 0 17
        rw [m30, zup_self]
end
