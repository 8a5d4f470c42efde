theorem OK.sets {w w' : Nat → Int32} {n A S T : Nat} (h : OK w n A S T) (e : ∀ k, (k < 2 ∨ 6 < k) → w' k = w k) (mm : sp_mm w') (top : 0 ≤ (w' 4).toInt ∧ (w' 4).toInt ≤ 65536) (wt : 0 ≤ (w' 5).toInt ∧ (w' 5).toInt ≤ 10) (gen : w' 6 = 0 ∨ w' 6 = 1) : OK w' n A S T := by
  have hn := h.nf.2
  have hq := h.q40
  exact OK.mk
    (lim := by rw [e _ (by omega)]; exact h.lim)
    (rate := by rw [e _ (by omega)]; exact h.rate)
    (mm := mm)
    (top := top)
    (wt := wt)
    (gen := gen)
    (tim := by rw [e _ (by omega)]; exact h.tim)
    (nq := by rw [e _ (by omega), e _ (by omega)]; exact h.nq)
    (nf := by rw [e _ (by omega)]; exact h.nf)
    (nd := by rw [e _ (by omega)]; exact h.nd)
    (fl := fun j hj => (h.fl j hj).of fun k hk => e _ (by (first | omega | (simp only [sf, sq, sd] at *; omega))))
    (qu := fun k hk => by
      rw [e 8 (by omega)] at hk
      rw [e 7 (by omega), e (sq k 0) (by (first | omega | (simp only [sf, sq, sd] at *; omega))), e (sq k 1) (by (first | omega | (simp only [sf, sq, sd] at *; omega))), e (sq k 2) (by (first | omega | (simp only [sf, sq, sd] at *; omega)))]
      exact h.qu k hk)
    (su := by
      rw [sm_congr (w := w) fun j hj => e _ (by (first | omega | (simp only [sf, sq, sd] at *; omega)))]
      exact h.su)
theorem sp_flows_7 {w : Nat → Int32} {n A S T : Nat} {p : Bool} (h : OK w n A S T) : ∀ k, k ≤ n → A + 9 * k ≤ 300000000 → sp_flows w p k 7 = w 7
  | 0, _, _ => rfl
  | k + 1, hk, hA => by
    have ih := sp_flows_7 (p := p) h k (by omega) (by omega)
    have o := h.flows (p := p) k (by omega) (by omega)
    have hn := h.nf.2
    unfold sp_flows
    split
    · unfold sp_sends
      obtain ⟨oa, a1, a2⟩ := o.adapt (i := k) (by omega)
      rw [sp_many_ne oa (by omega) (by omega) (by omega) (by intros; (first | omega | (simp only [sf, sq, sd] at *; omega))) (by (first | omega | (simp only [sf, sq, sd] at *; omega))) _ (by omega), sp_adapt_ne (by (first | omega | (simp only [sf, sq, sd] at *; omega))) (by (first | omega | (simp only [sf, sq, sd] at *; omega))) (by (first | omega | (simp only [sf, sq, sd] at *; omega))), ih]
    · exact ih
theorem sp_pass_7 {w : Nat → Int32} {n A S T : Nat} {p : Bool} (h : OK w n A S T) (hA : A + 54 ≤ 300000000) (hS : S + 40 ≤ 200000) (hT : T < 10400) : sp_pass w p 7 = w 7 + 1 := by
  have hn := h.nf
  unfold sp_pass
  rw [show (w 11).toInt.toNat = n by omega]
  have h1 := h.tick (by omega)
  have h2 := (h1.flows (p := p) n (Nat.le_refl _) (by omega)).mono (show A + 9 * n ≤ A + 54 by omega) (Nat.le_refl S) (Nat.le_refl (T + 1))
  have e7 := sp_flows_7 (p := p) h1 n (Nat.le_refl _) (by omega)
  rw [zup_self] at e7
  generalize sp_flows (zup w 7 (w 7 + 1)) p n = w2 at *
  have hm := sp_nl_q h2
  have q := (sp_leaves_q h2 hS (by omega) (sp_nl w2).toInt.toNat (by omega)).2 7 (by omega)
  have e1 : ∀ m j, sp_slide (sp_out w2) m j 7 = sp_out w2 7 := fun m j => if_neg (by omega)
  have e2 : sp_out w2 7 = w2 7 := by
    unfold sp_out
    rw [zup_ne _ _ (by omega), q]
  unfold sp_rest
  split
  · rw [zup_ne _ _ (by omega), e1, e2, e7]
  · rw [e1, e2, e7]
theorem sp_passes_7 {w : Nat → Int32} {n A S T : Nat} {p : Bool} (h : OK w n A S T) : ∀ k, A + 54 * k ≤ 300000000 → S + 9 * k + 40 ≤ 200000 → T + k ≤ 10400 → (sp_passes w p k 7).toInt = (w 7).toInt + k
  | 0, _, _, _ => by show (w 7).toInt = _; omega
  | k + 1, hA, hS, hT => by
    have ih := sp_passes_7 (p := p) h k (by omega) (by omega) (by omega)
    have o := h.passes (p := p) k (by omega) (by omega) (by omega)
    have ot := o.tim
    show (sp_pass (sp_passes w p k) p 7).toInt = _
    rw [sp_pass_7 o (by omega) (by omega) (by omega), ti_add (by rw [ti_1]; omega), ti_1, ih]
    omega
section
variable {l : Launch} {G : zG} {M : zM} {A : Nat}
/-- the class has kept the state of before -/
def Kept (M : zM) (A : Nat) (w : Nat → Int32) (M1' : zM) : Prop := ∃ (P U : Nat) (M1 : zM), P < 8 ∧ U ≤ 8 ∧ M.1 30 0 6 = nI U ∧ (∀ j, j < U → Row M (3 + (P + 8 - U + j) % 8) (fun k => M.1 34 0 (484 * j + k)) A) ∧ zFr (3 + P) M M1 ∧ Rel M1 (3 + P) w true ∧ M1' = zsIr M1 10 0 (ring10 (M1.1 10 0) P U)
theorem C_keep' {Kf : zM → Prop} (hI : Inv M A) (h : ∀ M1', Kept M A (zmI M 31 0) M1' → Rel M1' 1 (zmI M 31 0) true → zmI M1' 31 0 = zmI M 31 0 → Kf M1') : zCalV l G Y_X2_keep 0 0 [vr 10 0, vr 15 1] M Kf := by
  obtain ⟨n, hR, hO⟩ := hI.1
  have hn := hO.nf
  obtain ⟨P, U, hP, hU, e1, e2, e6, hr⟩ := hI.2.2.1
  refine C_keep hO hR e1 hP e2 hU fun M1 f1 r1 => h _ ⟨P, U, M1, hP, hU, e6, hr, f1, r1, rfl⟩ ?_ ?_
  · exact (hR.other (by omega) (by omega) f1).kept (by omega) (fun s i hi => zsIo _ _ _ _ _ _ (by have := inR_sort hi; omega)) (fun _ _ _ => rfl) (fun _ _ _ => rfl) (fun _ _ h => h)
  · exact (zsIo _ _ _ _ _ _ (by omega)).trans (f1.1 31 0 (by unfold inR; omega))
theorem R_rec' {A' : Nat} {x : Int32} {w' : Nat → Int32} {M1 M3 : zM} {Kf : Int32 → zM → Prop} (hx : ¬ x < 0) (hI : Inv M A) (hk : Kept M A (zmI M 31 0) M1) (f3 : zFr 1 M1 M3) (r3 : Row M3 1 w' A') (hA : A ≤ A')
    (h : ∀ M4, Good A' 0 M4 → Kf x M4) : zCalI l G Y_X9_recorded 0 0 [vr 30 0, vi x] (zsIr (zsIr (zsI M3 30 0 7 0) 33 0 (sp_lay (zmI M 31 0) (M3.1 33 0) 0 0)) 31 0 w') Kf := by
  obtain ⟨P, U, M0, hP, hU, e6, hr, f1, r1, rfl⟩ := hk
  exact R_rec hx hI rfl hP hU e6 hr f1 r1 f3 r3 hA h
theorem R_starts3 {M3 : zM} {w : Nat → Int32} {Kf : zM → Prop} (hw : zmI M3 31 0 = w) (h : Kf (zsIr (zsI M3 30 0 7 0) 33 0 (sp_lay w (M3.1 33 0) 0 0))) : zCalV l G Y_X9_starts 0 0 [vr 30 0] (zsI M3 30 0 7 0) Kf := by
  refine R_starts ?_
  rw [z31_thr, hw, show zmI (zsI M3 30 0 7 0) 33 0 = M3.1 33 0 from zsIo _ _ _ _ _ _ (by omega)]
  exact h
theorem z31_33 (M : zM) (f : Nat → Int32) : zmI (zsIr M 33 0 f) 31 0 = zmI M 31 0 := zsIo _ _ _ _ _ _ (by omega)
/-- a setting changes -/
theorem R_sets {j : Nat} {p q m : Int32} {M1 M3 : zM} {Kf : Int32 → zM → Prop} (hI : Inv M A) (hk : Kept M A (zmI M 31 0) M1) (f3 : zFr 1 M1 M3) (e31 : zmI M3 31 0 = zmI M 31 0) (hq : q.toInt = j) (hj : j < 484) (hp : 0 ≤ p ∧ p ≤ m) (r3 : Row M3 1 (zup (zmI M 31 0) j p) A) (hx : ¬ zmI M 31 0 j < 0)
    (h : ∀ M4, Good A 0 M4 → Kf (zmI M 31 0 j) M4) : zCalI l G Y_X9_sets 0 0 [vr 30 0, vi q, vi p, vi m] M3 Kf := by
  have e : zmI (zsIr (zsI M3 30 0 7 0) 33 0 (sp_lay (zmI M 31 0) (M3.1 33 0) 0 0)) 31 0 = zmI M 31 0 := by rw [z31_33, z31_thr, e31]
  refine zm_X9_sets (R_in2 (fun _ => ⟨fun _ => zb_X9_sets_20 (R_f0 (z7_0 M3) (by decide) ⟨fun _ => R_starts3 e31 (zm_X9_setNow ⟨ti_in (by omega), ti_in (by omega), ?_⟩), fun d => absurd rfl d⟩), fun d => absurd d (by decide)⟩) fun d => absurd hp d)
  rw [ti_at hq]
  show zCalI l G _ 0 0 [vr 30 0, vi (zmI (zsIr (zsI M3 30 0 7 0) 33 0 (sp_lay (zmI M 31 0) (M3.1 33 0) 0 0)) 31 0 j)] (zsIr (zsIr (zsI M3 30 0 7 0) 33 0 (sp_lay (zmI M 31 0) (M3.1 33 0) 0 0)) 31 0 (zup (zmI (zsIr (zsI M3 30 0 7 0) 33 0 (sp_lay (zmI M 31 0) (M3.1 33 0) 0 0)) 31 0) j p)) Kf
  rw [e]
  exact R_rec' hx hI hk f3 r3 (Nat.le_refl _) h
theorem sets_bad {p q m : Int32} {A : Nat} (hI : Inv M A) (hp : ¬ (0 ≤ p ∧ p ≤ m)) : zCalI l G Y_X9_sets 0 0 [vr 30 0, vi q, vi p, vi m] M (fun _ M2 => Good A 1 M2) :=
  zm_X9_sets (R_in2 (fun d => absurd d hp) fun _ => ⟨fun d => absurd rfl d, fun _ => zb_X9_sets_20 (R_f1 (z7_0 M) (by decide) ⟨fun d => absurd d (by decide), fun _ => Good.thr hI 1⟩)⟩)
/-- a router's setting, in the class -/
theorem set_row {j : Nat} {v : Int32} {M1 : zM} {n : Nat} (hR : Rel M1 1 (zmI M 31 0) true) (hO : OK (zmI M 31 0) n A (9 * (zmI M 31 0 7).toInt.toNat) 9999) (hj : j < 7) (hO2 : OK (zup (zmI M 31 0) j v) n A (9 * (zmI M 31 0 7).toInt.toNat) 9999) : Row (zsI M1 15 1 j v) 1 (zup (zmI M 31 0) j v) A :=
  ⟨n, hR.set hO.nf hO.lng hO.q40 (by omega), by rw [zup_ne _ _ (by omega)]; exact hO2⟩
theorem P_setTop (hl : l.stackTraces = false) {p : Int32} (hI : Inv M A) : zCalIX l G Y_X8_setTop 1 6 [vr 0 0, vi p] M (fun x M1 => zCalI l G Y_X9_setTop 0 0 [vr 30 0, vi p] M1 (fun y M2 => y = x ∧ Good A 0 M2)) (fun E M1 => E = IAE ∧ zCalI l G Y_X9_setTop 0 0 [vr 30 0, vi p] M1 (fun _ M2 => Good A 1 M2)) := by
  obtain ⟨n, hR, hO⟩ := hI.1
  refine zm_X8_setTop (C_within hl (fun c => C_keep' hI fun M1 hk r1 e1 => zm_X5_changeTop (zm_X9_setTop ?_)) fun c => ⟨rfl, zm_X9_setTop (sets_bad hI c)⟩)
  have c2 := c
  rw [ti_le, ti_le, ti_0, show (65536 : Int32).toInt = 65536 from rfl] at c2
  have hO2 : OK (zup (zmI M 31 0) 4 p) n A (9 * (zmI M 31 0 7).toInt.toNat) 9999 := hO.sets (fun k hk => zup_ne _ _ (by omega)) (by unfold sp_mm; rw [zup_ne _ _ (by omega), zup_ne _ _ (by omega)]; exact hO.mm) (by rw [zup_self]; omega) (by rw [zup_ne _ _ (by omega)]; exact hO.wt) (by rw [zup_ne _ _ (by omega)]; exact hO.gen)
  have ht := hO.top
  refine R_sets hI hk ((zFr.refl 1 M1).I (inR15 1)) ((zsIo _ _ _ _ _ _ (by omega)).trans e1) (j := 4) rfl (by omega) c (set_row r1 hO (by omega) hO2) (by rw [ti_lt, ti_0]; omega) fun M4 hg => ⟨?_, hg⟩
  rw [r1.1.1 4 (by omega)]
theorem P_setWeight (hl : l.stackTraces = false) {p : Int32} (hI : Inv M A) : zCalIX l G Y_X8_setWeight 1 6 [vr 0 0, vi p] M (fun x M1 => zCalI l G Y_X9_setWeight 0 0 [vr 30 0, vi p] M1 (fun y M2 => y = x ∧ Good A 0 M2)) (fun E M1 => E = IAE ∧ zCalI l G Y_X9_setWeight 0 0 [vr 30 0, vi p] M1 (fun _ M2 => Good A 1 M2)) := by
  obtain ⟨n, hR, hO⟩ := hI.1
  refine zm_X8_setWeight (C_within hl (fun c => C_keep' hI fun M1 hk r1 e1 => zm_X5_changeWeight (zm_X9_setWeight ?_)) fun c => ⟨rfl, zm_X9_setWeight (sets_bad hI c)⟩)
  have c2 := c
  rw [ti_le, ti_le, ti_0, show (10 : Int32).toInt = 10 from rfl] at c2
  have hO2 : OK (zup (zmI M 31 0) 5 p) n A (9 * (zmI M 31 0 7).toInt.toNat) 9999 := hO.sets (fun k hk => zup_ne _ _ (by omega)) (by unfold sp_mm; rw [zup_ne _ _ (by omega), zup_ne _ _ (by omega)]; exact hO.mm) (by rw [zup_ne _ _ (by omega)]; exact hO.top) (by rw [zup_self]; omega) (by rw [zup_ne _ _ (by omega)]; exact hO.gen)
  have ht := hO.wt
  refine R_sets hI hk ((zFr.refl 1 M1).I (inR15 1)) ((zsIo _ _ _ _ _ _ (by omega)).trans e1) (j := 5) rfl (by omega) c (set_row r1 hO (by omega) hO2) (by rw [ti_lt, ti_0]; omega) fun M4 hg => ⟨?_, hg⟩
  rw [r1.1.1 5 (by omega)]
theorem P_setGentle (hl : l.stackTraces = false) {p : Int32} (hI : Inv M A) : zCalIX l G Y_X8_setGentle 1 6 [vr 0 0, vi p] M (fun x M1 => zCalI l G Y_X9_setGentle 0 0 [vr 30 0, vi p] M1 (fun y M2 => y = x ∧ Good A 0 M2)) (fun E M1 => E = IAE ∧ zCalI l G Y_X9_setGentle 0 0 [vr 30 0, vi p] M1 (fun _ M2 => Good A 1 M2)) := by
  obtain ⟨n, hR, hO⟩ := hI.1
  refine zm_X8_setGentle (C_within hl (fun c => C_keep' hI fun M1 hk r1 e1 => zm_X5_changeGentle (zm_X9_setGentle ?_)) fun c => ⟨rfl, zm_X9_setGentle (sets_bad hI c)⟩)
  have c2 := c
  rw [ti_le, ti_le, ti_0, ti_1] at c2
  have hO2 : OK (zup (zmI M 31 0) 6 p) n A (9 * (zmI M 31 0 7).toInt.toNat) 9999 := hO.sets (fun k hk => zup_ne _ _ (by omega)) (by unfold sp_mm; rw [zup_ne _ _ (by omega), zup_ne _ _ (by omega)]; exact hO.mm) (by rw [zup_ne _ _ (by omega)]; exact hO.top) (by rw [zup_ne _ _ (by omega)]; exact hO.wt) (by rw [zup_self, ti_eq, ti_eq, ti_0, ti_1]; omega)
  have ht := ti_bit hO.gen
  refine R_sets hI hk ((zFr.refl 1 M1).I (inR15 1)) ((zsIo _ _ _ _ _ _ (by omega)).trans e1) (j := 6) rfl (by omega) c (set_row r1 hO (by omega) hO2) (by rw [ti_lt, ti_0]; omega) fun M4 hg => ⟨?_, hg⟩
  rw [r1.1.1 6 (by omega)]
end
