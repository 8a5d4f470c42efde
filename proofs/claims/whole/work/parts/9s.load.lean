/-! LOAD -/
section
variable {l : Launch} {G : zG} {M M0 : zM} {A : Nat} {b : Nat → Int32} {F : Nat} {S S' : Nat × Int32 × Int32} {w w' f : Nat → Int32} {t : Int32} {X : SX}
theorem R_load {Kf : Int32 → zM → Prop} (hT : Ux b F M) (hl : zmI M 30 0 10 = nI F)
    (h1 : (s_setup b F).1.2.1 = 0 → ∀ o f Q, ag484 f (s_setup b F).2.1 → (∀ j, ¬ (11 ≤ j ∧ j ≤ 16) → ¬ j = 6 → ¬ j = 7 → ¬ j = 10 → ¬ j = 17 → ¬ j = 18 → Q j = zmI M 30 0 j) → Q 6 = 0 → Q 7 = 0 → Q 10 = 0 → Q 17 = -1 → Kf (f 11) (zsI (zsI (mk2 (zsIr (zsI M 30 0 7 0) 32 0 o) f Q) 36 0 0 0) 36 0 1 0))
    (h2 : ¬ (s_setup b F).1.2.1 = 0 → ∀ o f Q, ag484 f (zmI M 31 0) → (∀ j, ¬ (11 ≤ j ∧ j ≤ 16) → ¬ j = 7 → ¬ j = 10 → ¬ j = 17 → ¬ j = 18 → Q j = zmI M 30 0 j) → Q 7 = 0 → Q 10 = 0 → Q 17 = (s_setup b F).1.2.2 → Kf (-10 - (s_setup b F).1.2.1) (mk2 (zsIr (zsI M 30 0 7 0) 32 0 o) f Q))
    (h3 : (s_setup b F).1.2.1 = 0 ∨ ¬ 0 ≤ (-10 - (s_setup b F).1.2.1 : Int32)) : zCalI l G Y_X9_load 0 0 [vr 30 0] M Kf := by
  refine zm_X9_load (R_aside ?_)
  have e31 : zmI (zsI M 30 0 7 0) 31 0 = zmI M 31 0 := zmO _ _ _ _ _ _ (by omega)
  generalize ho : sp_lay (zmI (zsI M 30 0 7 0) 31 0) (zmI (zsI M 30 0 7 0) 32 0) 0 0 = o
  have o1 : ∀ k, k < 484 → o k = zmI M 31 0 k := fun k hk => by
    rw [← ho, e31]
    show (if 0 ≤ k ∧ k < 0 + 484 then _ else _) = _
    rw [if_pos ⟨by omega, by omega⟩]
    congr 1
    omega
  have z30 : zmI (zsIr (zsI M 30 0 7 0) 32 0 o) 30 0 = zup (zmI M 30 0) 7 0 := by
    rw [zmO _ _ _ _ _ _ (by omega), zmU]
  have hT2 : Ux b F (zsIr (zsI M 30 0 7 0) 32 0 o) := Ux.mk hT.hF (fun j hj => by rw [zmO _ _ _ _ _ _ (by omega), zmO _ _ _ _ _ _ (by omega)]; exact hT.byt j hj)
  refine V_setup hT2 (by rw [z30, zup_ne _ _ (by omega)]; exact hl) fun f Q v _ => ?_
  rw [z30] at v
  have er := v.uk.er
  have fr : ∀ j, ¬ (11 ≤ j ∧ j ≤ 16) → ¬ j = 18 → ¬ j = 7 → Q j = zmI M 30 0 j := fun j a c d => by rw [v.fr j a c, zup_ne _ _ d]
  have q7 : Q 7 = 0 := by rw [v.fr 7 (by omega) (by omega), zup_self]
  refine zm_X9_ended ?_
  rw [mk_z30, mk_30, zup_ne _ _ (show ¬ 15 = 10 by omega), er, zup_ne _ _ (show ¬ 16 = 10 by omega)]
  refine ⟨fun g => zb_X9_ended_21 ?_, fun g => zb_X9_ended_21 ?_⟩
  · rw [mk_z30, mk_30, zup_ne _ _ (show ¬ 15 = 17 by omega), zup_ne _ _ (show ¬ 15 = 10 by omega), er]
    refine ⟨fun _ => ⟨fun c => ?_, fun _ => R_back ?_⟩, fun d => absurd d g⟩
    · rcases h3 with q | q
      · exact absurd q g
      · exact absurd c q
    · rw [mk_31, mk_s31, mk_o (by omega) (by omega), zmU]
      refine h2 g o _ _ (fun k hk => ?_) (fun j a c d e f => ?_) ?_ ?_ ?_
      · show (if 0 ≤ k ∧ k < 0 + 484 then _ else _) = _
        rw [if_pos ⟨by omega, by omega⟩, ← o1 k hk]
        congr 1
        omega
      · rw [zup_ne _ _ e, zup_ne _ _ d]; exact fr j a f c
      · rw [zup_ne _ _ (by omega), zup_ne _ _ (by omega)]; exact q7
      · rw [zup_ne _ _ (by omega), zup_self]
      · rw [zup_self]; exact v.uk.ea g
  · rw [mk_z30, mk_30, zup_ne _ _ (show ¬ 15 = 17 by omega), zup_ne _ _ (show ¬ 15 = 10 by omega), er]
    refine ⟨fun d => absurd g d, fun _ => ⟨fun _ => ?_, fun d => absurd (by decide) d⟩⟩
    rw [mk_z30]
    have e11 : ∀ Q', zmI (zsI (zsI (mk2 (zsIr (zsI M 30 0 7 0) 32 0 o) f Q') 36 0 0 0) 36 0 1 0) 31 0 11 = f 11 := fun Q' => by
      rw [zmO _ _ _ _ _ _ (by omega), zmO _ _ _ _ _ _ (by omega), mk_31]
    rw [e11]
    refine h1 g o f _ (v.fw g) (fun j a c d e p q => ?_) ?_ ?_ ?_ ?_
    · rw [zup_ne _ _ c, zup_ne _ _ p, zup_ne _ _ e]; exact fr j a q d
    · rw [zup_self]
    · rw [zup_ne _ _ (by omega), zup_ne _ _ (by omega), zup_ne _ _ (by omega)]; exact q7
    · rw [zup_ne _ _ (by omega), zup_ne _ _ (by omega), zup_self]
    · rw [zup_ne _ _ (by omega), zup_self]
/-- what loading leaves alone -/
def LF (M M' : zM) : Prop := (∀ r s i, 3 ≤ r → r < 13 → inR r s i → M'.1 s i = M.1 s i ∧ M'.2.1 s i = M.2.1 s i ∧ M'.2.2.2.1 s i = M.2.2.2.1 s i) ∧ (∀ a t, M.2.2.2.2.1 a = some t → M'.2.2.2.2.1 a = some t) ∧ zmB M' = zmB M ∧ ∀ s, s = 2 ∨ s = 34 ∨ s = 35 ∨ s = 37 ∨ s = 44 → M'.1 s 0 = M.1 s 0
theorem LF.trans {M M1 M2 : zM} (h : LF M M1) (g : LF M1 M2) : LF M M2 :=
  ⟨fun r s i h1 h2 h3 => ⟨(g.1 r s i h1 h2 h3).1.trans (h.1 r s i h1 h2 h3).1, (g.1 r s i h1 h2 h3).2.1.trans (h.1 r s i h1 h2 h3).2.1, (g.1 r s i h1 h2 h3).2.2.trans (h.1 r s i h1 h2 h3).2.2⟩, fun a t q => g.2.1 a t (h.2.1 a t q), g.2.2.1.trans h.2.2.1, fun s hs => (g.2.2.2 s hs).trans (h.2.2.2 s hs)⟩
theorem LF.I {M M1 : zM} {s0 i0 : Nat} {f : Nat → Int32} (h : LF M M1) (hs : s0 = 1 ∨ s0 = 3 ∨ s0 = 10 ∨ s0 = 13 ∨ s0 = 30 ∨ s0 = 31 ∨ s0 = 32 ∨ s0 = 36) : LF M (zsIr M1 s0 i0 f) := by
  refine h.trans ⟨fun r s i h1 h2 h3 => ⟨zsIo _ _ _ _ _ _ ?_, rfl, rfl⟩, fun _ _ q => q, rfl, fun s h2 => zsIo _ _ _ _ _ _ (by omega)⟩
  unfold inR at h3
  omega
theorem LF.p {M M' : zM} (h : pFr M M') : LF M M' := by
  refine ⟨fun r s i h1 h2 h3 => ?_, h.2.2.2.2.1, ?_, fun s hs => h.1 s 0 (by unfold inR; omega) (by omega) (by omega)⟩
  · have n := inR_ne h3 (show r ≠ 0 by omega)
    exact ⟨h.1 s i n (by unfold inR at h3; omega) (by unfold inR at h3; omega), h.2.1 s i n, h.2.2.2.1 s i n⟩
  · unfold zmB
    rw [h.2.2.2.2.2]
theorem LF.z {M M' : zM} {r : Nat} (hr : r < 3) (h : zFr r M M') : LF M M' := by
  refine ⟨fun r' s i h1 h2 h3 => ?_, fun a t q => by rw [h.2.2.2.2]; exact q, ?_, fun s hs => h.1 s 0 (by unfold inR; omega)⟩
  · have n := inR_ne h3 (show r' ≠ r by omega)
    exact ⟨h.1 s i n, h.2.1 s i n, h.2.2.2.1 s i n⟩
  · unfold zmB
    rw [h.2.2.2.2]
theorem LF.row {M M' : zM} {r : Nat} (h : LF M M') (hr : Row M r w A) (h1 : 3 ≤ r) (h2 : r < 13) : Row M' r w A := by
  obtain ⟨n, g1, g2⟩ := hr
  have hn := g2.nf
  exact ⟨n, g1.kept (by omega) (fun s i hi => (h.1 r s i h1 h2 hi).1) (fun s i hi => (h.1 r s i h1 h2 hi).2.1) (fun s i hi => (h.1 r s i h1 h2 hi).2.2) h.2.1, g2⟩
end
