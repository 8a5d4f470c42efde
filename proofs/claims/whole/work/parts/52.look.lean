/-! LOOKING AHEAD -/
abbrev IAE : String := "java/lang/IllegalArgumentException"
abbrev IOE : String := "java/lang/IndexOutOfBoundsException"
def Good (A : Nat) (th : Int32) (M : zM) : Prop := M.1 30 0 7 = th ∧ Inv M A
section
variable {l : Launch} {G : zG} {M : zM} {A : Nat}
theorem C_within (hl : l.stackTraces = false) {p a b : Int32} {Kf : zM → Prop} {KX : String → zM → Prop} (h1 : a ≤ p ∧ p ≤ b → Kf M) (h2 : ¬ (a ≤ p ∧ p ≤ b) → KX IAE M) : zCalVX l G Y_X8_requireWithin 1 6 [vi p, vi a, vi b] M Kf KX := by
  refine zm_X8_requireWithin hl ⟨fun c => h2 fun g => ?_, fun c => ⟨fun d => h1 ⟨?_, d⟩, fun d => h2 fun g => d g.2⟩⟩
  · rw [ti_lt] at c
    rw [ti_le] at g
    omega
  · rw [ti_lt] at c
    rw [ti_le]
    omega
theorem C_index (hl : l.stackTraces = false) {p q : Int32} {n : Nat} {Kf : zM → Prop} {KX : String → zM → Prop} (hq : q.toInt = n) (h1 : 0 ≤ p.toInt ∧ p.toInt < n → Kf M) (h2 : ¬ (0 ≤ p.toInt ∧ p.toInt < n) → KX IOE M) : zCalVX l G Y_X8_requireIndex 1 6 [vi p, vi q] M Kf KX := by
  refine zm_X8_requireIndex hl ⟨fun c => h2 fun g => ?_, fun c => ⟨fun d => h1 ?_, fun d => h2 fun g => d ?_⟩⟩
  · rw [ti_lt, ti_0] at c
    omega
  · rw [ti_lt, ti_0] at c
    rw [ti_lt] at d
    omega
  · rw [ti_lt]
    omega
theorem C_flowOrNone (hl : l.stackTraces = false) {p : Int32} {n : Nat} {Kf : zM → Prop} {KX : String → zM → Prop} (hq : (zmI M 15 1 12).toInt = n) (h1 : p = -1 ∨ (0 ≤ p.toInt ∧ p.toInt < n) → Kf M) (h2 : ¬ (p = -1 ∨ (0 ≤ p.toInt ∧ p.toInt < n)) → KX IOE M) : zCalVX l G Y_X8_requireFlowOrNone 1 6 [vr 0 0, vi p] M Kf KX :=
  zm_X8_requireFlowOrNone ⟨fun c => h1 (Or.inl c), fun c => C_index hl hq (fun g => h1 (Or.inr g)) fun g => h2 fun g2 => g2.elim c g⟩
/-- the class looks ahead -/
theorem C_look {k n S T : Nat} {p : Int32} {w : Nat → Int32} {Kf : zM → Prop} (hO : OK w n A S T) (hR : Rel M 1 w true) (hp : p.toInt = k) (hA : A + 54 * k ≤ 300000000) (hS : S + 9 * k + 40 ≤ 200000) (hT : T + k ≤ 10400)
    (h : ∀ M', zFr 2 M M' → Rel M' 2 (sp_passes w false k) true → Kf M') : zCalV l G Y_X8_lookAhead 0 0 [vr 0 0, vi p] M Kf := by
  refine zm_X8_lookAhead (C_copy hO hR (by decide) fun M1 hF1 hR1 => ?_)
  have key : ∀ d j : Nat, j + d = k → ∀ (y : Int32) (M2 : zM), y.toInt = j → zFr 2 M M2 → Rel M2 2 (sp_passes w false j) true → zAt l G Y_X8_lookAhead (zEV G Y_X8_lookAhead Kf) 13 [(0, vr 0 0), (1, vi p), (2, vi y)] [] M2 0 0 := by
    intro d
    induction d with
    | zero =>
      intro j hj y M2 hy hF hR2
      refine zb_X8_lookAhead_13 ⟨fun _ => ?_, fun c => ?_⟩
      · have hjk : j = k := by omega
        rw [hjk] at hR2
        exact h M2 hF hR2
      · exfalso
        rw [ti_le] at c
        omega
    | succ d ih =>
      intro j hj y M2 hy hF hR2
      refine zb_X8_lookAhead_13 ⟨fun c => ?_, fun _ => C_pass (hO.passes j (by omega) (by omega) (by omega)) hR2 (by omega) (by omega) (by omega) fun M3 hF3 hR3 => ih (j + 1) (by omega) (y + 1) M3 (ti_inc hy (by omega)) (hF.trans hF3) hR3⟩
      exfalso
      rw [ti_le] at c
      omega
  exact key k 0 (by omega) 0 M1 rfl hF1 hR1
/-- behind a look: the row is back below 484, thrown is told -/
def Bk (M M' : zM) : Prop := (∀ s i, s ≠ 30 → s ≠ 31 → s ≠ 32 → s ≠ 33 → M'.1 s i = M.1 s i) ∧ M'.2 = M.2 ∧ (∀ k, k < 484 → M'.1 31 0 k = M.1 31 0 k) ∧ (∀ k, k ≠ 7 → M'.1 30 0 k = M.1 30 0 k)
theorem Inv.bk {M M' : zM} (h : Inv M A) (b : Bk M M') : Inv M' A := by
  refine h.keep ⟨fun r s i h1 h2 h3 => ?_, fun s hs => b.1 s 0 (by omega) (by omega) (by omega) (by omega), fun k hk => b.2.2.2 k (by omega), fun a t ha => by rw [b.2.1]; exact ha, by unfold zmB; rw [b.2.1]⟩ (Nat.le_refl _) (h.1.main (fun s i hi => ?_) (fun a t ha => by rw [b.2.1]; exact ha) b.2.2.1) (by rw [b.2.2.2 8 (by omega)]; exact h.2.1)
  · unfold inR at h3
    rw [b.2.1]
    exact ⟨b.1 s i (by omega) (by omega) (by omega) (by omega), rfl, rfl⟩
  · unfold inR at hi
    rw [b.2.1]
    exact ⟨b.1 s i (by omega) (by omega) (by omega) (by omega), rfl, rfl⟩
/-- what the ahead router was used for leaves the invariant -/
theorem Inv.ahead {M M' : zM} (h : Inv M A) (f : zFr 2 M M') : Inv M' A := by
  have e31 : M'.1 31 0 = M.1 31 0 := f.1 31 0 (by unfold inR; omega)
  refine h.keep ((Oth.refl M).fr (by omega) f) (Nat.le_refl _) (h.1.main (fun s i hi => ?_) (fun a t ha => by rw [f.2.2.2.2]; exact ha) fun k _ => by rw [e31]) (by rw [f.1 30 0 (by unfold inR; omega)]; exact h.2.1)
  have := inR_ne hi (show (1 : Nat) ≠ 2 by omega)
  exact ⟨f.1 s i this, f.2.1 s i this, f.2.2.2.1 s i this⟩
theorem ahead_31 {M M' : zM} (f : zFr 2 M M') : zmI M' 31 0 = zmI M 31 0 := f.1 31 0 (by unfold inR; omega)
/-- the memory behind 'thrown = 0; aside; .. ; back' -/
def sp_bk (M : zM) (w' : Nat → Int32) : zM :=
  zsIr (zsIr (zsIr (zsI M 30 0 7 0) 32 0 (sp_lay (zmI M 31 0) (zmI M 32 0) 0 0)) 31 0 w') 31 0 (sp_lay (sp_lay (zmI M 31 0) (zmI M 32 0) 0 0) w' 0 0)
theorem Bk.of (M : zM) (w' : Nat → Int32) : Bk M (sp_bk M w') ∧ (sp_bk M w').1 30 0 7 = 0 := by
  refine ⟨⟨fun s i h0 h1 h2 h3 => ?_, rfl, fun k hk => ?_, fun k hk => ?_⟩, ?_⟩
  · show ((zsIr _ 31 0 _).1 s i) = _
    rw [zsIo _ _ _ _ _ _ (by omega), zsIo _ _ _ _ _ _ (by omega), zsIo _ _ _ _ _ _ (by omega), zsIo _ _ _ _ _ _ (by omega)]
  · show ((zsIr _ 31 0 _).1 31 0 k) = _
    rw [zsI1, lay_0 _ _ hk, lay_0 _ _ hk]
  · show ((zsIr _ 31 0 _).1 30 0 k) = _
    rw [zsIo _ _ _ _ _ _ (by omega), zsIo _ _ _ _ _ _ (by omega), zsIo _ _ _ _ _ _ (by omega), zsI1, zup_ne _ _ hk]
  · show ((zsIr _ 31 0 _).1 30 0 7) = _
    rw [zsIo _ _ _ _ _ _ (by omega), zsIo _ _ _ _ _ _ (by omega), zsIo _ _ _ _ _ _ (by omega), zsI1, zup_self]
theorem Good.bk {M : zM} (h : Inv M A) (w' : Nat → Int32) : Good A 0 (sp_bk M w') := ⟨(Bk.of M w').2, h.bk (Bk.of M w').1⟩
theorem Good.thr {M : zM} (h : Inv M A) (v : Int32) : Good A v (zsI (zsI M 30 0 7 0) 30 0 7 v) := by
  refine ⟨?_, ?_⟩
  · simp only [zsI1, zup_self]
  · exact inv_thr (inv_thr h 0) v
theorem z7_0 (M : zM) : zmI (zsI M 30 0 7 0) 30 0 7 = 0 := by
  simp only [zmI, zsI1, zup_self]
theorem z31_thr (M : zM) (v : Int32) : zmI (zsI M 30 0 7 v) 31 0 = zmI M 31 0 := zsIo _ _ _ _ _ _ (by omega)
theorem P_queueIn (hl : l.stackTraces = false) {p : Int32} (hI : Inv M A) (hA : A ≤ 299000000) :
    zCalIX l G Y_X8_queueIn 1 6 [vr 0 0, vi p] M (fun x M1 => zCalI l G Y_X9_queueIn 0 0 [vr 30 0, vi p] M1 (fun y M2 => y = x ∧ Good A 0 M2)) (fun E M1 => E = IAE ∧ zCalI l G Y_X9_queueIn 0 0 [vr 30 0, vi p] M1 (fun _ M2 => Good A 1 M2)) := by
  obtain ⟨n, hR, hO⟩ := hI.1
  have ht := hO.tim
  refine zm_X8_queueIn (C_within hl (fun c => ?_) fun c => ⟨rfl, zm_X9_queueIn (R_noTicks (z7_0 M) (by decide) (fun d => absurd d c) fun _ => ⟨fun d => absurd d (by decide), fun _ => Good.thr hI 1⟩)⟩)
  have c2 := c
  rw [ti_le, ti_le, ti_0, show (200 : Int32).toInt = 200 from rfl] at c2
  obtain ⟨k, hk⟩ : ∃ k : Nat, p.toInt = k := ⟨_, (Int.toNat_of_nonneg c2.1).symm⟩
  refine C_look hO hR hk (by omega) (by omega) (by omega) fun M1 hF hR2 => zm_X9_queueIn (R_noTicks (z7_0 M1) (by decide) (fun _ => ⟨fun _ => R_aside ?_, fun d => absurd rfl d⟩) fun d => absurd c d)
  have hI1 := hI.ahead hF
  have e31 : zmI M1 31 0 = zmI M 31 0 := ahead_31 hF
  have e31' : zmI (zsIr (zsI M1 30 0 7 0) 32 0 (sp_lay (zmI (zsI M1 30 0 7 0) 31 0) (zmI (zsI M1 30 0 7 0) 32 0) 0 0)) 31 0 = zmI M 31 0 := by
    rw [← e31]
    exact (zsIo _ _ _ _ _ _ (by omega)).trans (zsIo _ _ _ _ _ _ (by omega))
  refine R_passes (plain := false) (k := k) (by rw [e31']; exact hO) ?_ hk (by omega) (by omega) (by omega) ?_
  · show (zsIr _ 32 0 _).1 30 0 8 = 0
    rw [zsIo _ _ _ _ _ _ (by omega), zsI1, zup_ne _ _ (by omega)]
    exact hI1.2.1
  · rw [e31']
    refine R_back ⟨?_, Good.bk hI1 (sp_passes (zmI M 31 0) false k)⟩
    rw [show zmI M1 19 2 1 = sp_passes (zmI M 31 0) false k 8 from hR2.2.2.1.1]
    simp only [zmI, zsI1]
end
