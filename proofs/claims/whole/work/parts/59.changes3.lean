section
variable {l : Launch} {G : zG} {M : zM} {A : Nat}
theorem Good.mono {M : zM} {A A' : Nat} {th : Int32} (g : Good A th M) (h : A ≤ A') : Good A' th M := ⟨g.1, g.2.keep (Oth.refl _) h (g.2.1.mono h) g.2.2.1⟩
theorem kept_8 {M1 M3 : zM} {w : Nat → Int32} (hI : Inv M A) (hk : Kept M A w M1) (f3 : zFr 1 M1 M3) : zmI M3 30 0 8 = 0 := by
  obtain ⟨P, U, M0, -, -, -, -, f1, -, rfl⟩ := hk
  rw [show zmI M3 30 0 = _ from f3.1 30 0 (by unfold inR; omega), zsIo _ _ _ _ _ _ (by omega), f1.1 30 0 (by unfold inR; omega)]
  exact hI.2.1
theorem sp_many_7 {w : Nat → Int32} {n S T i : Nat} {p : Bool} (h : OK w n A S T) (hi : i < n) (k : Nat) (hA : A + k ≤ 300000000) : (sp_many w p i k).2 7 = w 7 := by
  have hn := h.nf.2
  exact sp_many_ne h hi (by omega) (by omega) (by intros; (first | omega | (simp only [sf, sq, sd] at *; omega))) (by (first | omega | (simp only [sf, sq, sd] at *; omega))) k hA
theorem sp_many_1 {w : Nat → Int32} {p : Bool} {i : Nat} : ∀ k, k < 1000 → 0 ≤ (sp_many w p i k).1.toInt ∧ (sp_many w p i k).1.toInt ≤ k
  | 0, _ => ⟨Int.le_refl _, Int.le_refl _⟩
  | k + 1, hk => by
    have ih := sp_many_1 (w := w) (p := p) (i := i) k (by omega)
    show 0 ≤ ((sp_many w p i k).1 + _).toInt ∧ ((sp_many w p i k).1 + _).toInt ≤ _
    split
    · rw [ti_add (by rw [ti_0]; omega), ti_0]
      omega
    · rw [ti_add (by rw [ti_1]; omega), ti_1]
      omega
theorem P_send (hl : l.stackTraces = false) {f p : Int32} (hI : Inv M A) (hA : A ≤ 299000000) :
    zCalIX l G Y_X8_send 2 12 [vr 0 0, vi f, vi p] M (fun x M1 => zCalI l G Y_X9_send 0 0 [vr 30 0, vi f, vi p] M1 (fun y M2 => y = x ∧ Good (A + 40) 0 M2)) (fun E M1 => (E = IOE ∧ zCalI l G Y_X9_send 0 0 [vr 30 0, vi f, vi p] M1 (fun _ M2 => Good (A + 40) 1 M2)) ∨ (E = IAE ∧ zCalI l G Y_X9_send 0 0 [vr 30 0, vi f, vi p] M1 (fun _ M2 => Good (A + 40) 2 M2))) := by
  obtain ⟨n, hR, hO⟩ := hI.1
  have hn := hO.nf
  have en : (zmI (zsI M 30 0 7 0) 31 0 11).toInt = n := by rw [z31_thr]; exact hn.1
  refine zm_X8_send (C_index hl (hR.n hO) (fun b => C_within hl (fun c => C_keep' hI fun M1 hk r1 e1 => ?_) fun c => Or.inr ⟨rfl, zm_X9_send (R_noFlow en (z7_0 M) (fun _ => ⟨fun d => absurd rfl d, fun _ => R_in2 (fun d => absurd d c) fun _ => ⟨fun d => absurd rfl d, fun _ => zb_X9_send_29 (R_f1 (z7_0 M) (by decide) ⟨fun d => absurd d (by decide), fun _ => (Good.thr hI 2).mono (by omega)⟩)⟩⟩) fun d => absurd b d)⟩) fun b => Or.inl ⟨rfl, zm_X9_send (R_noFlow en (z7_0 M) (fun d => absurd d b) fun _ => ⟨fun _ => (Good.thr hI 1).mono (by omega), fun d => absurd d (by decide)⟩)⟩)
  have c2 := c
  rw [ti_le, ti_le, ti_1, show (40 : Int32).toInt = 40 from rfl] at c2
  obtain ⟨k, hkk⟩ : ∃ k : Nat, p.toInt = k := ⟨_, (Int.toNat_of_nonneg (by omega)).symm⟩
  obtain ⟨i, hi⟩ : ∃ i : Nat, f.toInt = i := ⟨_, (Int.toNat_of_nonneg b.1).symm⟩
  obtain rfl := nI_ofT hi
  have hin : i < n := by omega
  refine C_many hO r1 hin hkk (by omega) fun M3 f3 r3 => ?_
  have e3 : zmI M3 31 0 = zmI M 31 0 := (f3.1 31 0 (by unfold inR; omega)).trans e1
  have e : zmI (zsIr (zsI M3 30 0 7 0) 33 0 (sp_lay (zmI M 31 0) (M3.1 33 0) 0 0)) 31 0 = zmI M 31 0 := by rw [z31_33, z31_thr, e3]
  have om1 := hO.many (p := false) hin k (by omega)
  have o1 := sp_many_1 (w := zmI M 31 0) (p := false) (i := i) k (by omega)
  refine zm_X9_send (R_noFlow (by rw [z31_thr, e3]; exact hn.1) (z7_0 M3) (fun _ => ⟨fun d => absurd rfl d, fun _ => R_in2 (fun _ => ⟨fun _ => zb_X9_send_29 (R_f0 (z7_0 M3) (by decide) ⟨fun _ => R_starts3 e3 (R_many (n := n) (A := A) (S := 9 * (zmI M 31 0 7).toInt.toNat) (T := 9999) (k := k) (plain := false) (by rw [e]; exact hO) hin (by rw [show zmI (zsIr (zsI M3 30 0 7 0) 33 0 (sp_lay (zmI M 31 0) (M3.1 33 0) 0 0)) 30 0 = zmI (zsI M3 30 0 7 0) 30 0 from zsIo _ _ _ _ _ _ (by omega)]; exact z8_0 (kept_8 hI hk f3)) hkk (by omega) ?_), fun d => absurd rfl d⟩), fun d => absurd d (by decide)⟩) fun d => absurd c d⟩) fun d => absurd b d)
  rw [e]
  refine R_rec' (A' := A + 40) (by rw [ti_lt, ti_0]; omega) hI hk f3 ⟨n, r3, ?_⟩ (by omega) fun M4 hg => ⟨rfl, hg⟩
  show OK (sp_many (zmI M 31 0) false i k).2 n (A + 40) (9 * ((sp_many (zmI M 31 0) false i k).2 7).toInt.toNat) 9999
  rw [sp_many_7 hO hin k (by omega)]
  exact om1.mono (by omega) (Nat.le_refl _) (Nat.le_refl _)
theorem sp_on_b {w : Nat → Int32} {n S T : Nat} (h : OK w n A S T) : ∀ k, k ≤ n → 0 ≤ (sp_on w k).toInt ∧ (sp_on w k).toInt ≤ k
  | 0, _ => ⟨Int.le_refl _, Int.le_refl _⟩
  | k + 1, hk => by
    have ih := sp_on_b h k (by omega)
    have hn := h.nf.2
    have b := ti_bit (h.fl k (by omega)).on
    show 0 ≤ (sp_on w k + w (sf k 5)).toInt ∧ (sp_on w k + w (sf k 5)).toInt ≤ _
    rw [ti_add (by omega)]
    omega
/-- a flow is turned on or off -/
theorem OK.turn {w : Nat → Int32} {n S T i : Nat} {v : Int32} (h : OK w n A S T) (hi : i < n) (hv : v = 0 ∨ v = 1) : OK (zup w (sf i 5) v) n A S T := by
  have hn := h.nf.2
  have f := h.fl i hi
  have e : ∀ k, k < 26 → k ≠ 5 → zup w (sf i 5) v (sf i k) = w (sf i k) := fun k _ h1 => zup_ne _ _ (by (first | omega | (simp only [sf, sq, sd] at *; omega)))
  refine h.upd hi (Nat.le_refl _) (fun j h1 h2 => zup_ne _ _ (by (first | omega | (simp only [sf, sq, sd] at *; omega)))) (by rw [zup_ne _ _ (by (first | omega | (simp only [sf, sq, sd] at *; omega)))]; exact h.nd) ?_ (zup_ne _ _ (by (first | omega | (simp only [sf, sq, sd] at *; omega))))
  exact FOK.mk
    (fst := by rw [e _ (by omega) (by omega)]; exact f.fst)
    (per := by rw [e _ (by omega) (by omega)]; exact f.per)
    (cap := by rw [e _ (by omega) (by omega)]; exact f.cap)
    (mrk := by rw [e _ (by omega) (by omega)]; exact f.mrk)
    (on := by rw [zup_self]; exact hv)
    (win := by rw [e _ (by omega) (by omega)]; exact f.win)
    (tld := by rw [e _ (by omega) (by omega)]; exact f.tld)
    (lng := by rw [e _ (by omega) (by omega)]; exact f.lng)
    (let_ := fun j hj => by
      have h9 := f.lng
      rw [e _ (by omega) (by omega)] at hj
      rw [e _ (by omega) (by omega)]
      exact f.let_ j hj)
    (a0 := by rw [e _ (by omega) (by omega)]; exact f.a0)
    (ar := by rw [e _ (by omega) (by omega), e _ (by omega) (by omega), e _ (by omega) (by omega), e _ (by omega) (by omega), e _ (by omega) (by omega)]; exact f.ar)
    (a5 := by rw [e _ (by omega) (by omega)]; exact f.a5)
    (a6 := by rw [e _ (by omega) (by omega), e _ (by omega) (by omega)]; exact f.a6)
    (a7 := by rw [e _ (by omega) (by omega), e _ (by omega) (by omega)]; exact f.a7)
theorem zsL0 (M : zM) (s i : Nat) : zsLr M s i (M.2.1 s i) = M := by
  unfold zsLr zrw
  refine Prod.ext rfl (Prod.ext ?_ rfl)
  funext s' i'
  show (if _ then _ else _) = _
  by_cases h : s' = s ∧ i' = i
  · rw [if_pos h, h.1, h.2]
  · rw [if_neg h]
theorem Rel.turn {w : Nat → Int32} {n S T i r : Nat} {v : Int32} {e : Bool} (hR : Rel M r w e) (h : OK w n A S T) (hi : i < n) : Rel (zsI M 17 (6 * r + i) 6 v) r (zup w (sf i 5) v) e := by
  have hn := h.nf
  have f := hR.2.1 i (by omega)
  have hz := hR.flow (g := zup (zmI M 17 (6 * r + i)) 6 v) (w' := zup w (sf i 5) v) (L := M.2.1 18 (6 * r + i)) (A := A) (S := S) hn h.lng h.q40 hi (fun j h1 h2 => zup_ne _ _ (by (first | omega | (simp only [sf, sq, sd] at *; omega)))) ⟨fun k hk => ?_, fun k hk => ?_, f.2.2.congr (h.lng i hi) fun k h1 h2 => zup_ne _ _ (by (first | omega | (simp only [sf, sq, sd] at *; omega)))⟩
  · rw [zsL0] at hz
    exact hz
  · by_cases k5 : k = 5
    · rw [k5, zup_self]
      exact (zup_self _ _ _).symm
    · rw [zup_ne _ _ (by omega), zup_ne _ _ (by (first | omega | (simp only [sf, sq, sd] at *; omega)))]
      exact f.1 k hk
  · rw [zup_ne _ _ (by (first | omega | (simp only [sf, sq, sd] at *; omega)))]
    exact f.2.1 k hk
theorem P_setOn (hl : l.stackTraces = false) {f p : Int32} (hp : p = 0 ∨ p = 1) (hI : Inv M A) : zCalIX l G Y_X8_setOn 1 6 [vr 0 0, vi f, vi p] M (fun x M1 => zCalI l G Y_X9_setOn 0 0 [vr 30 0, vi f, vi p] M1 (fun y M2 => y = x ∧ Good A 0 M2)) (fun E M1 => E = IOE ∧ zCalI l G Y_X9_setOn 0 0 [vr 30 0, vi f, vi p] M1 (fun _ M2 => Good A 1 M2)) := by
  obtain ⟨n, hR, hO⟩ := hI.1
  have hn := hO.nf
  have en : (zmI (zsI M 30 0 7 0) 31 0 11).toInt = n := by rw [z31_thr]; exact hn.1
  have ep : (if p = 0 then (0 : Int32) else 1) = p := by rcases hp with rfl | rfl <;> rfl
  refine zm_X8_setOn (zm_X8_flowAt (C_index hl (hR.n hO) (fun b => ⟨ti_in (by omega), rfl, ?_⟩) fun b => ⟨rfl, zm_X9_setOn (R_noFlow en (z7_0 M) (fun d => absurd d b) fun _ => ⟨fun d => absurd d (by decide), fun _ => Good.thr hI 1⟩)⟩))
  obtain ⟨i, hi⟩ : ∃ i : Nat, f.toInt = i := ⟨_, (Int.toNat_of_nonneg b.1).symm⟩
  have hin : i < n := by omega
  have hfi : zmI M 17 (6 * 1 + i) 6 = zmI M 31 0 (sf i 5) := (hR.2.1 i (by omega)).1 5 (by omega)
  rw [ti_at hi, hfi]
  refine ⟨fun c => C_keep' hI fun M1 hk r1 e1 => zm_X5_changeOn (C_hasFlow (r1.n hO) hn.2 ?_), fun c => ?_⟩
  · rw [if_pos b]
    have hfi1 : zmI M1 17 (6 * 1 + i) 6 = zmI M 31 0 (sf i 5) := (r1.2.1 i (by omega)).1 5 (by omega)
    have oT := hO.turn (i := i) hin hp
    have r3 := r1.turn (v := p) hO hin
    refine ⟨fun d => absurd d (by decide), fun _ => ⟨ti_in (by omega), ?_⟩⟩
    rw [ti_at hi, hfi1]
    refine ⟨fun _ => ⟨ti_in (by omega), hp, C_flowsOn oT r3 ?_⟩, fun d => absurd d c⟩
    have f3 : zFr 1 M1 (zsI M1 17 (6 * 1 + i) 6 p) := (zFr.refl 1 M1).I (inR17 (by omega))
    have e3 : zmI (zsI M1 17 (6 * 1 + i) 6 p) 31 0 = zmI M 31 0 := (zsIo _ _ _ _ _ _ (by omega)).trans e1
    generalize zsI M1 17 (6 * 1 + i) 6 p = M3 at *
    have e : zmI (zsIr (zsI M3 30 0 7 0) 33 0 (sp_lay (zmI M 31 0) (M3.1 33 0) 0 0)) 31 0 = zmI M 31 0 := by rw [z31_33, z31_thr, e3]
    have ob := sp_on_b oT n (Nat.le_refl _)
    refine zm_X9_setOn (R_noFlow (by rw [z31_thr, e3]; exact hn.1) (z7_0 M3) (fun _ => ⟨fun _ => R_starts3 e3 (R_one ?_), fun d => absurd rfl d⟩) fun d => absurd b d)
    rw [ep]
    refine zm_X9_turnNow (R_ofFlow hi (k := 5) rfl (by (first | omega | (simp only [sf, sq, sd] at *; omega))) ?_)
    rw [e]
    refine ⟨fun _ => R_putsFlow hi (k := 5) rfl (by (first | omega | (simp only [sf, sq, sd] at *; omega))) ?_, fun d => absurd d c⟩
    rw [e]
    refine R_onMany (n := n) (by (simp only [zsI1, zsI2]); rw [zup_ne _ _ (by (first | omega | (simp only [sf, sq, sd] at *; omega)))]; exact hn.1) hn.2 ?_
    (simp only [zsI1, zsI2])
    refine R_rec' (A' := A) (by rw [ti_lt, ti_0]; omega) hI hk f3 ⟨n, r3, ?_⟩ (Nat.le_refl _) fun M4 hg => ⟨rfl, hg⟩
    rw [zup_ne _ _ (by (first | omega | (simp only [sf, sq, sd] at *; omega)))]
    exact oT
  · refine zm_X9_setOn (R_noFlow en (z7_0 M) (fun _ => ⟨fun _ => R_starts3 rfl (R_one ?_), fun d => absurd rfl d⟩) fun d => absurd b d)
    rw [ep]
    refine zm_X9_turnNow (R_ofFlow hi (k := 5) rfl (by (first | omega | (simp only [sf, sq, sd] at *; omega))) ?_)
    rw [show zmI (zsIr (zsI M 30 0 7 0) 33 0 (sp_lay (zmI M 31 0) (M.1 33 0) 0 0)) 31 0 = zmI M 31 0 by rw [z31_33, z31_thr]]
    refine ⟨fun d => absurd c d, fun _ => zm_X9_recorded ⟨fun _ => ⟨rfl, ?_, ?_⟩, fun g => absurd (by decide) g⟩⟩
    · rw [zsIo _ _ _ _ _ _ (by omega)]
      exact z7_0 M
    · have h1 := inv_thr hI 0
      refine h1.keep ((Oth.refl _).I (Or.inr (Or.inr rfl))) (Nat.le_refl _) (h1.1.main (fun s i hi => ⟨zsIo _ _ _ _ _ _ (by have := inR_sort hi; omega), rfl, rfl⟩) (fun _ _ h => h) fun k _ => congrFun (zsIo _ _ _ _ _ _ (by omega)) k) ?_
      rw [zsIo _ _ _ _ _ _ (by omega)]
      exact h1.2.1
end
