/-! THE TWO SIDE BY SIDE -/
def Row (M : zM) (r : Nat) (w : Nat → Int32) (A : Nat) : Prop := ∃ n, Rel M r w true ∧ OK w n A (9 * (w 7).toInt.toNat) 9999
def Ring (M : zM) (A : Nat) : Prop := ∃ P U : Nat, P < 8 ∧ U ≤ 8 ∧ M.1 10 0 1 = nI P ∧ M.1 10 0 2 = nI U ∧ M.1 30 0 6 = nI U ∧ ∀ j, j < U → Row M (3 + (P + 8 - U + j) % 8) (fun k => M.1 34 0 (484 * j + k)) A
def Sav (M : zM) (A : Nat) : Prop := ∀ s, s < 2 → (M.1 13 0 s = 0 ∨ M.1 13 0 s = 1) ∧ M.1 36 0 s = M.1 13 0 s ∧ (M.1 13 0 s = 1 → Row M (11 + s) (fun k => M.1 35 0 (484 * s + k)) A)
def Rd (M : zM) : Prop := ∃ F : Nat, F ≤ 500 ∧ M.1 1 0 1 = nI F ∧ M.1 30 0 10 = nI F ∧ (∀ j, j < F → M.1 2 0 j = M.1 37 0 j ∧ 1 ≤ (M.1 37 0 j).toInt ∧ (M.1 37 0 j).toInt ≤ 255) ∧ M.1 1 0 6 = M.1 30 0 17
def Pg (M : zM) : Prop := (zmB M).1.length ≤ 400 ∧ M.1 30 0 29 = nI (zmB M).1.length ∧ ∀ j, j < (zmB M).1.length → M.1 44 0 j = nI ((zmB M).1.getD j 0) ∧ (zmB M).1.getD j 0 < 128
def Inv (M : zM) (A : Nat) : Prop := Row M 1 (zmI M 31 0) A ∧ M.1 30 0 8 = 0 ∧ Ring M A ∧ Sav M A ∧ Rd M ∧ Pg M
/-- what the rest of the invariant looks at is as it was -/
def Oth (M M' : zM) : Prop := (∀ r s i, 3 ≤ r → r < 13 → inR r s i → M'.1 s i = M.1 s i ∧ M'.2.1 s i = M.2.1 s i ∧ M'.2.2.2.1 s i = M.2.2.2.1 s i) ∧
  (∀ s, s = 1 ∨ s = 2 ∨ s = 10 ∨ s = 13 ∨ s = 34 ∨ s = 35 ∨ s = 36 ∨ s = 37 ∨ s = 44 → M'.1 s 0 = M.1 s 0) ∧ (∀ k, k = 6 ∨ k = 10 ∨ k = 17 ∨ k = 29 → M'.1 30 0 k = M.1 30 0 k) ∧ (∀ a t, M.2.2.2.2.1 a = some t → M'.2.2.2.2.1 a = some t) ∧ zmB M' = zmB M
theorem Oth.refl (M : zM) : Oth M M := ⟨fun _ _ _ _ _ _ => ⟨rfl, rfl, rfl⟩, fun _ _ => rfl, fun _ _ => rfl, fun _ _ h => h, rfl⟩
theorem Oth.trans {M M1 M2 : zM} (h : Oth M M1) (g : Oth M1 M2) : Oth M M2 :=
  ⟨fun r s i h1 h2 h3 => ⟨(g.1 r s i h1 h2 h3).1.trans (h.1 r s i h1 h2 h3).1, (g.1 r s i h1 h2 h3).2.1.trans (h.1 r s i h1 h2 h3).2.1, (g.1 r s i h1 h2 h3).2.2.trans (h.1 r s i h1 h2 h3).2.2⟩, fun s hs => (g.2.1 s hs).trans (h.2.1 s hs), fun k hk => (g.2.2.1 k hk).trans (h.2.2.1 k hk), fun a t ha => g.2.2.2.1 a t (h.2.2.2.1 a t ha), g.2.2.2.2.trans h.2.2.2.2⟩
theorem Oth.fr {M M1 M2 : zM} {r : Nat} (h : Oth M M1) (hr : r < 3) (f : zFr r M1 M2) : Oth M M2 := by
  refine h.trans ⟨fun r' s i h1 h2 h3 => ?_, fun s hs => f.1 s 0 ?_, fun k _ => congrFun (f.1 30 0 ?_) k, fun a t ha => by rw [f.2.2.2.2]; exact ha, by unfold zmB; rw [f.2.2.2.2]⟩
  · have := inR_ne h3 (show r' ≠ r by omega)
    exact ⟨f.1 s i this, f.2.1 s i this, f.2.2.2.1 s i this⟩
  · unfold inR
    omega
  · unfold inR
    omega
theorem Oth.I {M M1 : zM} {s0 i0 : Nat} {f : Nat → Int32} (h : Oth M M1) (hs : s0 = 31 ∨ s0 = 32 ∨ s0 = 33) : Oth M (zsIr M1 s0 i0 f) := by
  refine h.trans ⟨fun r' s i h1 h2 h3 => ⟨zsIo _ _ _ _ _ _ ?_, rfl, rfl⟩, fun s h2 => zsIo _ _ _ _ _ _ (by omega), fun k _ => congrFun (zsIo _ _ _ _ 30 0 (by omega)) k, fun _ _ h => h, rfl⟩
  unfold inR at h3
  omega
theorem Oth.thr {M M1 : zM} {k : Nat} {v : Int32} (h : Oth M M1) (hk : k = 7 ∨ k = 8) : Oth M (zsI M1 30 0 k v) := by
  refine h.trans ⟨fun r' s i h1 h2 h3 => ⟨zsIo _ _ _ _ _ _ ?_, rfl, rfl⟩, fun s h2 => zsIo _ _ _ _ _ _ (by omega), fun k' h2 => ?_, fun _ _ h => h, rfl⟩
  · unfold inR at h3
    omega
  · simp only [zsI1]
    exact zup_ne _ _ (by omega)
theorem Row.mono {M : zM} {r A A' : Nat} {w : Nat → Int32} (h : Row M r w A) (hA : A ≤ A') : Row M r w A' := by
  obtain ⟨n, h1, h2⟩ := h
  exact ⟨n, h1, h2.mono hA (Nat.le_refl _) (Nat.le_refl _)⟩
theorem Row.oth {M M' : zM} {r A : Nat} {w : Nat → Int32} (h : Row M r w A) (ho : Oth M M') (h1 : 3 ≤ r) (h2 : r < 13) : Row M' r w A := by
  obtain ⟨n, g1, g2⟩ := h
  have hn := g2.nf
  exact ⟨n, g1.kept (by omega) (fun s i hi => (ho.1 r s i h1 h2 hi).1) (fun s i hi => (ho.1 r s i h1 h2 hi).2.1) (fun s i hi => (ho.1 r s i h1 h2 hi).2.2) ho.2.2.2.1, g2⟩
theorem Ring.oth {M M' : zM} {A A' : Nat} (h : Ring M A) (ho : Oth M M') (hA : A ≤ A') : Ring M' A' := by
  obtain ⟨P, U, h1, h2, h3, h4, h5, h6⟩ := h
  refine ⟨P, U, h1, h2, by rw [ho.2.1 10 (by omega)]; exact h3, by rw [ho.2.1 10 (by omega)]; exact h4, by rw [ho.2.2.1 6 (by omega)]; exact h5, fun j hj => ?_⟩
  rw [ho.2.1 34 (by omega)]
  exact ((h6 j hj).oth ho (by omega) (by omega)).mono hA
theorem Sav.oth {M M' : zM} {A A' : Nat} (h : Sav M A) (ho : Oth M M') (hA : A ≤ A') : Sav M' A' := by
  intro s hs
  obtain ⟨h1, h2, h3⟩ := h s hs
  rw [ho.2.1 13 (by omega), ho.2.1 36 (by omega), ho.2.1 35 (by omega)]
  exact ⟨h1, h2, fun c => ((h3 c).oth ho (by omega) (by omega)).mono hA⟩
theorem Rd.oth {M M' : zM} (h : Rd M) (ho : Oth M M') : Rd M' := by
  obtain ⟨F, h1, h2, h3, h4, h5⟩ := h
  refine ⟨F, h1, ?_⟩
  rw [ho.2.1 1 (by omega), ho.2.1 2 (by omega), ho.2.1 37 (by omega), ho.2.2.1 10 (by omega), ho.2.2.1 17 (by omega)]
  exact ⟨h2, h3, h4, h5⟩
theorem Pg.oth {M M' : zM} (h : Pg M) (ho : Oth M M') : Pg M' := by
  unfold Pg at *
  rw [ho.2.2.2.2, ho.2.1 44 (by omega), ho.2.2.1 29 (by omega)]
  exact h
theorem Inv.keep {M M' : zM} {A A' : Nat} (h : Inv M A) (ho : Oth M M') (hA : A ≤ A') (hr : Row M' 1 (zmI M' 31 0) A') (hp : M'.1 30 0 8 = 0) : Inv M' A' :=
  ⟨hr, hp, h.2.2.1.oth ho hA, h.2.2.2.1.oth ho hA, h.2.2.2.2.1.oth ho, h.2.2.2.2.2.oth ho⟩
/-- a row is looked at only below 484 -/
theorem OK.cong {w w' : Nat → Int32} {n A S T : Nat} (h : OK w n A S T) (e : ∀ k, k < 484 → w' k = w k) : OK w' n A S T := by
  have hn := h.nf.2
  have hq := h.q40
  exact OK.mk
    (lim := by rw [e _ (by omega)]; exact h.lim)
    (rate := by rw [e _ (by omega)]; exact h.rate)
    (mm := by
      have := h.mm
      unfold sp_mm at *
      rw [e _ (by omega), e _ (by omega)]
      exact this)
    (top := by rw [e _ (by omega)]; exact h.top)
    (wt := by rw [e _ (by omega)]; exact h.wt)
    (gen := by rw [e _ (by omega)]; exact h.gen)
    (tim := by rw [e _ (by omega)]; exact h.tim)
    (nq := by rw [e _ (by omega), e _ (by omega)]; exact h.nq)
    (nf := by rw [e _ (by omega)]; exact h.nf)
    (nd := by rw [e _ (by omega)]; exact h.nd)
    (fl := fun j hj => (h.fl j hj).of fun k hk => e _ (by (first | omega | (simp only [sf, sq, sd] at *; omega))))
    (qu := fun k hk => by
      rw [e 8 (by omega)] at hk
      rw [e 7 (by omega), e (sq k 0) (by (first | omega | (simp only [sf, sq, sd] at *; omega))), e (sq k 1) (by (first | omega | (simp only [sf, sq, sd] at *; omega))), e (sq k 2) (by (first | omega | (simp only [sf, sq, sd] at *; omega)))]
      exact h.qu k hk)
    (su := by
      rw [sm_congr (w := w) fun j hj => e _ (by (first | omega | (simp only [sf, sq, sd] at *; omega)))]
      exact h.su)
theorem Rel.cong {M : zM} {r n A S T : Nat} {w w' : Nat → Int32} {b : Bool} (h : Rel M r w b) (hO : OK w n A S T) (e : ∀ k, k < 484 → w' k = w k) : Rel M r w' b := by
  have hn := hO.nf
  refine ⟨h.1.congr fun k _ _ _ => e k (by omega), fun i hi => ?_, h.2.2.1.congr hO.q40 (e 8 (by omega)) fun j _ _ => e j (by omega), h.2.2.2.congr (e 12 (by omega)) fun j _ h2 => e j h2⟩
  rw [e 11 (by omega)] at hi
  exact (h.2.1 i hi).congr (hO.lng i (by omega)) fun k hk => e _ (by (first | omega | (simp only [sf, sq, sd] at *; omega)))
theorem Row.cong {M : zM} {r A : Nat} {w w' : Nat → Int32} (h : Row M r w A) (e : ∀ k, k < 484 → w' k = w k) : Row M r w' A := by
  obtain ⟨n, h1, h2⟩ := h
  exact ⟨n, h1.cong h2 e, by rw [e 7 (by omega)]; exact h2.cong e⟩
/-- the main router's row, where neither it nor the reference's row has changed -/
theorem Row.main {M M' : zM} {A : Nat} (h : Row M 1 (zmI M 31 0) A) (h1 : ∀ s i, inR 1 s i → M'.1 s i = M.1 s i ∧ M'.2.1 s i = M.2.1 s i ∧ M'.2.2.2.1 s i = M.2.2.2.1 s i) (hT : ∀ a t, M.2.2.2.2.1 a = some t → M'.2.2.2.2.1 a = some t) (e : ∀ k, k < 484 → M'.1 31 0 k = M.1 31 0 k) : Row M' 1 (zmI M' 31 0) A := by
  obtain ⟨n, g1, g2⟩ := h
  have hn := g2.nf
  have g3 : Row M' 1 (zmI M 31 0) A := ⟨n, g1.kept (by omega) (fun s i hi => (h1 s i hi).1) (fun s i hi => (h1 s i hi).2.1) (fun s i hi => (h1 s i hi).2.2) hT, g2⟩
  exact g3.cong e
theorem inv_thr {M : zM} {A : Nat} (h : Inv M A) (v : Int32) : Inv (zsI M 30 0 7 v) A := by
  refine h.keep ((Oth.refl M).thr (Or.inl rfl)) (Nat.le_refl _) (h.1.main (fun s i hi => ⟨zsIo _ _ _ _ _ _ ?_, rfl, rfl⟩) (fun _ _ h => h) (fun k _ => congrFun (zsIo _ _ _ _ _ _ (by omega)) k)) ?_
  · unfold inR at hi
    omega
  · simp only [zsI1]
    rw [zup_ne _ _ (by omega)]
    exact h.2.1
