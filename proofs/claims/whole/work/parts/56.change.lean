def Oth2 (M M' : zM) : Prop := (∀ r s i, 11 ≤ r → r < 13 → inR r s i → M'.1 s i = M.1 s i ∧ M'.2.1 s i = M.2.1 s i ∧ M'.2.2.2.1 s i = M.2.2.2.1 s i) ∧
  (∀ s, s = 1 ∨ s = 2 ∨ s = 13 ∨ s = 35 ∨ s = 36 ∨ s = 37 ∨ s = 44 → M'.1 s 0 = M.1 s 0) ∧ (∀ k, k = 10 ∨ k = 17 ∨ k = 29 → M'.1 30 0 k = M.1 30 0 k) ∧ (∀ a t, M.2.2.2.2.1 a = some t → M'.2.2.2.2.1 a = some t) ∧ zmB M' = zmB M
theorem Sav.oth2 {M M' : zM} {A A' : Nat} (h : Sav M A) (ho : Oth2 M M') (hA : A ≤ A') : Sav M' A' := by
  intro s hs
  obtain ⟨h1, h2, h3⟩ := h s hs
  rw [ho.2.1 13 (by omega), ho.2.1 36 (by omega), ho.2.1 35 (by omega)]
  refine ⟨h1, h2, fun c => ?_⟩
  obtain ⟨n, g1, g2⟩ := h3 c
  have hn := g2.nf
  exact Row.mono ⟨n, g1.kept (by omega) (fun s' i hi => (ho.1 _ s' i (by omega) (by omega) hi).1) (fun s' i hi => (ho.1 _ s' i (by omega) (by omega) hi).2.1) (fun s' i hi => (ho.1 _ s' i (by omega) (by omega) hi).2.2) ho.2.2.2.1, g2⟩ hA
theorem Rd.oth2 {M M' : zM} (h : Rd M) (ho : Oth2 M M') : Rd M' := by
  obtain ⟨F, h1, h2, h3, h4, h5⟩ := h
  refine ⟨F, h1, ?_⟩
  rw [ho.2.1 1 (by omega), ho.2.1 2 (by omega), ho.2.1 37 (by omega), ho.2.2.1 10 (by omega), ho.2.2.1 17 (by omega)]
  exact ⟨h2, h3, h4, h5⟩
theorem Pg.oth2 {M M' : zM} (h : Pg M) (ho : Oth2 M M') : Pg M' := by
  unfold Pg at *
  rw [ho.2.2.2.2, ho.2.1 44 (by omega), ho.2.2.1 29 (by omega)]
  exact h
section
variable {l : Launch} {G : zG} {M : zM} {A : Nat}
abbrev ring10 (f : Nat → Int32) (P U : Nat) : Nat → Int32 := zup (zup f 1 (nI ((P + 1) % 8))) 2 (nI (up8 U))
/-- behind a change that can be undone -/
theorem rec_good {P U A' : Nat} {w w' : Nat → Int32} {M1 M3 M4 : zM} (hI : Inv M A) (hw : zmI M 31 0 = w) (hP : P < 8) (hU : U ≤ 8) (hr : ∀ j, j < U → Row M (3 + (P + 8 - U + j) % 8) (fun k => M.1 34 0 (484 * j + k)) A)
    (f1 : zFr (3 + P) M M1) (r1 : Rel M1 (3 + P) w true) (f3 : zFr 1 (zsIr M1 10 0 (ring10 (M1.1 10 0) P U)) M3) (r3 : Row M3 1 w' A') (hA : A ≤ A')
    (e0 : ∀ s i, s ≠ 30 → s ≠ 31 → s ≠ 33 → s ≠ 34 → M4.1 s i = M3.1 s i) (e2 : M4.2 = M3.2) (e31 : M4.1 31 0 = w') (e30 : ∀ k, k ≠ 6 → k ≠ 7 → M4.1 30 0 k = M3.1 30 0 k) (e6 : M4.1 30 0 6 = nI (up8 U)) (e7 : M4.1 30 0 7 = 0)
    (g1 : ∀ k, k < 484 → M4.1 34 0 (484 * (up8 U - 1) + k) = w k) (g2 : ∀ j k, j < up8 U - 1 → k < 484 → M4.1 34 0 (484 * j + k) = M.1 34 0 (484 * (j + (if U < 8 then 0 else 1)) + k)) : Good A' 0 M4 := by
  obtain ⟨n, hR, hO⟩ := hI.1
  have hn := hO.nf
  rw [hw] at hO hR hn
  -- what was never touched
  have t3 : ∀ s i, ¬ inR 1 s i → ¬ (s = 10 ∧ i = 0) → ¬ inR (3 + P) s i → M3.1 s i = M.1 s i := fun s i q1 q2 q3 => by
    rw [f3.1 s i q1, zsIo _ _ _ _ _ _ q2, f1.1 s i q3]
  have t3L : ∀ s i, ¬ inR 1 s i → ¬ inR (3 + P) s i → M3.2.1 s i = M.2.1 s i := fun s i q1 q3 => by
    rw [f3.2.1 s i q1]
    exact f1.2.1 s i q3
  have t3N : ∀ s i, ¬ inR 1 s i → ¬ inR (3 + P) s i → M3.2.2.2.1 s i = M.2.2.2.1 s i := fun s i q1 q3 => by
    rw [f3.2.2.2.1 s i q1]
    exact f1.2.2.2.1 s i q3
  have tT : M3.2.2.2.2 = M.2.2.2.2 := by
    rw [f3.2.2.2.2]
    exact f1.2.2.2.2
  have far : ∀ s i, (s < 15 ∨ 22 < s) → ¬ inR 1 s i ∧ ¬ inR (3 + P) s i := fun s i hs => ⟨fun h => by have := inR_sort h; omega, fun h => by have := inR_sort h; omega⟩
  have m30 : M3.1 30 0 = M.1 30 0 := t3 30 0 (far _ _ (by omega)).1 (by omega) (far _ _ (by omega)).2
  have o2 : Oth2 M M4 := by
    refine ⟨fun r s i h1 h2 h3 => ?_, fun s hs => ?_, fun k hk => ?_, fun a t ha => ?_, ?_⟩
    · have q1 := inR_ne h3 (show r ≠ 1 by omega)
      have q3 := inR_ne h3 (show r ≠ 3 + P by omega)
      have q4 := inR_sort h3
      rw [e0 s i (by omega) (by omega) (by omega) (by omega), e2]
      exact ⟨t3 s i q1 (by omega) q3, t3L s i q1 q3, t3N s i q1 q3⟩
    · rw [e0 s 0 (by omega) (by omega) (by omega) (by omega)]
      exact t3 s 0 (far _ _ (by omega)).1 (by omega) (far _ _ (by omega)).2
    · rw [e30 k (by omega) (by omega), m30]
    · rw [e2, tT]
      exact ha
    · unfold zmB
      rw [e2, tT]
  refine ⟨e7, ?_, ?_, ?_, hI.2.2.2.1.oth2 o2 hA, hI.2.2.2.2.1.oth2 o2, hI.2.2.2.2.2.oth2 o2⟩
  · obtain ⟨n', q1, q2⟩ := r3
    have hn' := q2.nf
    rw [show zmI M4 31 0 = w' from e31]
    exact ⟨n', q1.kept (by omega) (fun s i hi => by have := inR_sort hi; exact e0 s i (by omega) (by omega) (by omega) (by omega)) (fun s i hi => by rw [e2]) (fun s i hi => by rw [e2]) (fun a t ht => by rw [e2]; exact ht), q2⟩
  · rw [e30 8 (by omega) (by omega), m30]
    exact hI.2.1
  · refine Ring.push (M := M) (A := A) hP hU hr hA (fun r s i h1 h2 h3 h4 => ?_) (fun a t ha => by rw [e2, tT]; exact ha) ?_ ?_ e6 (w := w) ?_ g1 g2
    · have q1 := inR_ne h4 (show r ≠ 1 by omega)
      have q3 := inR_ne h4 (show r ≠ 3 + P by omega)
      have q4 := inR_sort h4
      rw [e0 s i (by omega) (by omega) (by omega) (by omega), e2]
      exact ⟨t3 s i q1 (by omega) q3, t3L s i q1 q3, t3N s i q1 q3⟩
    · rw [e0 10 0 (by omega) (by omega) (by omega) (by omega), f3.1 10 0 (far _ _ (by omega)).1, zsI1]
      exact (zup_ne _ _ (by omega)).trans (zup_self _ _ _)
    · rw [e0 10 0 (by omega) (by omega) (by omega) (by omega), f3.1 10 0 (far _ _ (by omega)).1, zsI1]
      exact zup_self _ _ _
    · have r2 : Rel M3 (3 + P) w true := (r1.kept (M' := zsIr M1 10 0 (ring10 (M1.1 10 0) P U)) (by omega) (fun s i hi => zsIo _ _ _ _ _ _ (by have := inR_sort hi; omega)) (fun _ _ _ => rfl) (fun _ _ _ => rfl) (fun _ _ h => h)).other (by omega) (by omega) f3
      exact Row.mono ⟨n, r2.kept (by omega) (fun s i hi => by have := inR_sort hi; exact e0 s i (by omega) (by omega) (by omega) (by omega)) (fun s i hi => by rw [e2]) (fun s i hi => by rw [e2]) (fun a t ht => by rw [e2]; exact ht), hO⟩ hA
/-- the reference records a change: rows 33, 31, 34 and its count -/
theorem R_rec {P U A' : Nat} {x : Int32} {w w' : Nat → Int32} {M1 M3 : zM} {Kf : Int32 → zM → Prop} (hx : ¬ x < 0) (hI : Inv M A) (hw : zmI M 31 0 = w) (hP : P < 8) (hU : U ≤ 8) (hU6 : M.1 30 0 6 = nI U) (hr : ∀ j, j < U → Row M (3 + (P + 8 - U + j) % 8) (fun k => M.1 34 0 (484 * j + k)) A)
    (f1 : zFr (3 + P) M M1) (r1 : Rel M1 (3 + P) w true) (f3 : zFr 1 (zsIr M1 10 0 (ring10 (M1.1 10 0) P U)) M3) (r3 : Row M3 1 w' A') (hA : A ≤ A')
    (h : ∀ M4, Good A' 0 M4 → Kf x M4) : zCalI l G Y_X9_recorded 0 0 [vr 30 0, vi x] (zsIr (zsIr (zsI M3 30 0 7 0) 33 0 (sp_lay w (M3.1 33 0) 0 0)) 31 0 w') Kf := by
  have far : ∀ s i, (s < 15 ∨ 22 < s) → ¬ inR 1 s i ∧ ¬ inR (3 + P) s i := fun s i hs => ⟨fun h => by have := inR_sort h; omega, fun h => by have := inR_sort h; omega⟩
  have m30 : ∀ s, (s = 30 ∨ s = 34) → M3.1 s 0 = M.1 s 0 := fun s hs => by
    rw [f3.1 s 0 (far _ _ (by omega)).1, zsIo _ _ _ _ _ _ (by omega), f1.1 s 0 (far _ _ (by omega)).2]
  have k30 : (zsIr (zsIr (zsI M3 30 0 7 0) 33 0 (sp_lay w (M3.1 33 0) 0 0)) 31 0 w').1 30 0 = zup (M.1 30 0) 7 0 := by
    rw [zsIo _ _ _ _ _ _ (by omega), zsIo _ _ _ _ _ _ (by omega), zsI1, show zmI M3 30 0 = M.1 30 0 from m30 30 (by omega)]
  have k34 : (zsIr (zsIr (zsI M3 30 0 7 0) 33 0 (sp_lay w (M3.1 33 0) 0 0)) 31 0 w').1 34 0 = M.1 34 0 := by
    rw [zsIo _ _ _ _ _ _ (by omega), zsIo _ _ _ _ _ _ (by omega), zsIo _ _ _ _ _ _ (by omega), m30 34 (by omega)]
  have k33 : (zsIr (zsIr (zsI M3 30 0 7 0) 33 0 (sp_lay w (M3.1 33 0) 0 0)) 31 0 w').1 33 0 = sp_lay w (M3.1 33 0) 0 0 := by
    rw [zsIo _ _ _ _ _ _ (by omega), zsI1]
  refine zm_X9_recorded ⟨fun c => absurd c hx, fun _ => R_rem (U := U) (Or.inr rfl) (by rw [k30, zup_ne _ _ (by omega)]; exact hU6) hU fun g q1 q2 => h _ (rec_good hI hw hP hU hr f1 r1 f3 r3 hA (fun s i h1 h2 h3 h4 => ?_) rfl ?_ (fun k h1 h2 => ?_) ?_ ?_ (fun k hk => ?_) fun j k hj hk => ?_)⟩
  · rw [zsIo _ _ _ _ _ _ (by omega), zsIo _ _ _ _ _ _ (by omega), zsIo _ _ _ _ _ _ (by omega), zsIo _ _ _ _ _ _ (by omega), zsIo _ _ _ _ _ _ (by omega)]
  · rw [zsIo _ _ _ _ _ _ (by omega), zsIo _ _ _ _ _ _ (by omega), zsI1]
  · rw [zsI1, zup_ne _ _ h1, k30, zup_ne _ _ h2, m30 30 (by omega)]
  · rw [zsI1, zup_self]
  · rw [zsI1, zup_ne _ _ (by omega), k30, zup_self]
  · rw [zsIo _ _ _ _ _ _ (by omega), zsI1, q1 k hk, k33, lay_0 _ _ hk]
  · rw [zsIo _ _ _ _ _ _ (by omega), zsI1, q2 j k hj hk, k34]
end
