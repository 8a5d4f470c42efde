section
variable {l : Launch} {G : zG} {M : zM} {A : Nat}
/-- the reference lives the ticks in its own row -/
theorem z31_32 (M : zM) (f : Nat → Int32) : zmI (zsIr M 32 0 f) 31 0 = zmI M 31 0 := zsIo _ _ _ _ _ _ (by omega)
theorem z30_32 (M : zM) (f : Nat → Int32) : zmI (zsIr M 32 0 f) 30 0 = zmI M 30 0 := zsIo _ _ _ _ _ _ (by omega)
theorem z8_0 {M : zM} (h : M.1 30 0 8 = 0) : zmI (zsI M 30 0 7 0) 30 0 8 = 0 := by
  simp only [zmI, zsI1]
  rw [zup_ne _ _ (by omega)]
  exact h
theorem R_live {n S T k : Nat} {p : Int32} {w : Nat → Int32} {Kf : zM → Prop} (hw : zmI M 31 0 = w) (h8 : M.1 30 0 8 = 0) (hO : OK w n A S T) (hp : p.toInt = k) (hA : A + 54 * k ≤ 300000000) (hS : S + 9 * k + 40 ≤ 200000) (hT : T + k ≤ 10400)
    (h : Kf (zsIr (zsIr (zsI M 30 0 7 0) 32 0 (sp_lay (zmI M 31 0) (zmI M 32 0) 0 0)) 31 0 (sp_passes w false k))) : zCalV l G Y_X9_passesMany 0 0 [vr 30 0, vi p] (zsIr (zsI M 30 0 7 0) 32 0 (sp_lay (zmI (zsI M 30 0 7 0) 31 0) (zmI (zsI M 30 0 7 0) 32 0) 0 0)) Kf := by
  have e31 : zmI (zsIr (zsI M 30 0 7 0) 32 0 (sp_lay (zmI (zsI M 30 0 7 0) 31 0) (zmI (zsI M 30 0 7 0) 32 0) 0 0)) 31 0 = w := by rw [z31_32, z31_thr, hw]
  refine R_passes (plain := false) (k := k) (by rw [e31]; exact hO) (by rw [z30_32]; exact z8_0 h8) hp hA hS hT ?_
  rw [e31]
  exact h
theorem P_averageIn (hl : l.stackTraces = false) {p : Int32} (hI : Inv M A) (hA : A ≤ 299000000) :
    zCalIX l G Y_X8_averageIn 1 6 [vr 0 0, vi p] M (fun x M1 => zCalI l G Y_X9_averageIn 0 0 [vr 30 0, vi p] M1 (fun y M2 => y = x ∧ Good A 0 M2)) (fun E M1 => E = IAE ∧ zCalI l G Y_X9_averageIn 0 0 [vr 30 0, vi p] M1 (fun _ M2 => Good A 1 M2)) := by
  obtain ⟨n, hR, hO⟩ := hI.1
  have ht := hO.tim
  refine zm_X8_averageIn (C_within hl (fun c => ?_) fun c => ⟨rfl, zm_X9_averageIn (R_noTicks (z7_0 M) (by decide) (fun d => absurd d c) fun _ => ⟨fun d => absurd d (by decide), fun _ => Good.thr hI 1⟩)⟩)
  have c2 := c
  rw [ti_le, ti_le, ti_0, show (200 : Int32).toInt = 200 from rfl] at c2
  obtain ⟨k, hk⟩ : ∃ k : Nat, p.toInt = k := ⟨_, (Int.toNat_of_nonneg c2.1).symm⟩
  refine C_look hO hR hk (by omega) (by omega) (by omega) fun M1 hF hR2 => zm_X9_averageIn (R_noTicks (z7_0 M1) (by decide) (fun _ => ⟨fun _ => R_aside (R_live (ahead_31 hF) (hI.ahead hF).2.1 hO hk (by omega) (by omega) (by omega) (R_back ⟨?_, Good.bk (hI.ahead hF) (sp_passes (zmI M 31 0) false k)⟩)), fun d => absurd rfl d⟩) fun d => absurd c d)
  rw [show zmI M1 15 2 8 = sp_passes (zmI M 31 0) false k 9 from hR2.1.2.1]
  simp only [zmI, zsI1]
theorem P_windowIn (hl : l.stackTraces = false) {f p : Int32} (hI : Inv M A) (hA : A ≤ 299000000) :
    zCalIX l G Y_X8_windowIn 2 12 [vr 0 0, vi f, vi p] M (fun x M1 => zCalI l G Y_X9_windowIn 0 0 [vr 30 0, vi f, vi p] M1 (fun y M2 => y = x ∧ Good A 0 M2)) (fun E M1 => (E = IOE ∧ zCalI l G Y_X9_windowIn 0 0 [vr 30 0, vi f, vi p] M1 (fun _ M2 => Good A 1 M2)) ∨ (E = IAE ∧ zCalI l G Y_X9_windowIn 0 0 [vr 30 0, vi f, vi p] M1 (fun _ M2 => Good A 2 M2))) := by
  obtain ⟨n, hR, hO⟩ := hI.1
  have ht := hO.tim
  have hn := hO.nf
  have en : (zmI (zsI M 30 0 7 0) 31 0 11).toInt = n := by rw [z31_thr]; exact hn.1
  refine zm_X8_windowIn (C_index hl (hR.n hO) (fun b => C_within hl (fun c => ?_) fun c => Or.inr ⟨rfl, zm_X9_windowIn (R_noFlow en (z7_0 M) (fun _ => ⟨fun d => absurd rfl d, fun _ => R_noTicks (z7_0 M) (by decide) (fun d => absurd d c) fun _ => ⟨fun d => absurd d (by decide), fun _ => Good.thr hI 2⟩⟩) fun d => absurd b d)⟩) fun b => Or.inl ⟨rfl, zm_X9_windowIn (R_noFlow en (z7_0 M) (fun d => absurd d b) fun _ => ⟨fun _ => Good.thr hI 1, fun d => absurd d (by decide)⟩)⟩)
  have c2 := c
  rw [ti_le, ti_le, ti_0, show (200 : Int32).toInt = 200 from rfl] at c2
  obtain ⟨k, hk⟩ : ∃ k : Nat, p.toInt = k := ⟨_, (Int.toNat_of_nonneg c2.1).symm⟩
  obtain ⟨i, hi⟩ : ∃ i : Nat, f.toInt = i := ⟨_, (Int.toNat_of_nonneg b.1).symm⟩
  refine C_look hO hR hk (by omega) (by omega) (by omega) fun M1 hF hR2 => ⟨ti_in (by omega), ?_⟩
  have hI1 := hI.ahead hF
  have e1 : zmI (zsI M1 30 0 7 0) 31 0 = zmI M 31 0 := (z31_thr M1 0).trans (ahead_31 hF)
  have op := hO.passes (p := false) k (by omega) (by omega) (by omega)
  refine zm_X9_windowIn (R_noFlow (by rw [e1]; exact hn.1) (z7_0 M1) (fun _ => ⟨fun d => absurd rfl d, fun _ => R_noTicks (z7_0 M1) (by decide) (fun _ => ⟨fun _ => R_aside (R_live (ahead_31 hF) hI1.2.1 hO hk (by omega) (by omega) (by omega) (R_ofFlow hi (k := 6) rfl (by (first | omega | (simp only [sf, sq, sd] at *; omega))) (R_back ⟨?_, Good.bk hI1 (sp_passes (zmI M 31 0) false k)⟩))), fun d => absurd rfl d⟩) fun d => absurd c d⟩) fun d => absurd b d)
  rw [ti_at hi, show zmI M1 17 (6 * 2 + i) 7 = sp_passes (zmI M 31 0) false k (sf i 6) from (hR2.2.1 i (by rw [op.nf.1]; omega)).1 6 (by omega)]
  simp only [zmI, zsI1]
/-- a total of the row: one flow's, or all flows' -/
def sp_acc (w : Nat → Int32) (n a : Nat) (p : Int32) : Int32 := if 0 ≤ p.toInt ∧ p.toInt < n then w (sf p.toInt.toNat (18 + a)) else sp_tot w a n
theorem R_acc {n a : Nat} {p q : Int32} {w : Nat → Int32} {Kf : Int32 → zM → Prop} (hw : zmI M 31 0 = w) (hn : (w 11).toInt = n) (h6 : n ≤ 6) (hp : p = -1 ∨ (0 ≤ p.toInt ∧ p.toInt < n)) (hq : q.toInt = a) (ha : a < 8) (h : Kf (sp_acc w n a p) M) : zCalI l G Y_X9_accountOf 0 0 [vr 30 0, vi p, vi q] M Kf := by
  unfold sp_acc at h
  rcases hp with g | g
  · rw [if_neg (by rw [g, ti_n1]; omega)] at h
    rw [g]
    exact R_total (by rw [hw]; exact hn) h6 hq ha (by rw [hw]; exact h)
  · rw [if_pos g] at h
    exact R_account (i := p.toInt.toNat) (by omega) (by omega) hq ha (by rw [hw]; exact h)
theorem sp_acc_b {w : Nat → Int32} {n A S T a : Nat} {p : Int32} (h : OK w n A S T) (hb : sBnd A S) (ha : a < 8) : 0 ≤ (sp_acc w n a p).toInt ∧ (sp_acc w n a p).toInt ≤ 2000000000 := by
  have hn := h.nf
  unfold sp_acc
  split
  · next c =>
    have h1 := h.sm_le hb ha (p.toInt.toNat + 1) (by omega)
    have h2 := h.sm_le hb ha p.toInt.toNat (by omega)
    have h3 : sm w a (p.toInt.toNat + 1) = sm w a p.toInt.toNat + (w (sf p.toInt.toNat (18 + a))).toInt := rfl
    have h4 := (h.acc (i := p.toInt.toNat) (a := a) (by omega) ha).1
    omega
  · rw [h.tot hb ha n (Nat.le_refl _)]
    exact h.sm_le hb ha n (Nat.le_refl _)
theorem P_accountIn (hl : l.stackTraces = false) {f q p : Int32} (hI : Inv M A) (hA : A ≤ 299000000) :
    zCalLX l G Y_X8_accountIn 3 18 [vr 0 0, vi f, vi q, vi p] M (fun x M1 => zCalL l G Y_X9_accountIn 0 0 [vr 30 0, vi f, vi q, vi p] M1 (fun y M2 => y = x ∧ Good A 0 M2)) (fun E M1 => (E = IOE ∧ zCalL l G Y_X9_accountIn 0 0 [vr 30 0, vi f, vi q, vi p] M1 (fun _ M2 => Good A 1 M2)) ∨ (E = IAE ∧ zCalL l G Y_X9_accountIn 0 0 [vr 30 0, vi f, vi q, vi p] M1 (fun _ M2 => Good A 2 M2))) := by
  obtain ⟨n, hR, hO⟩ := hI.1
  have ht := hO.tim
  have hn := hO.nf
  have en : (zmI (zsI M 30 0 7 0) 31 0 11).toInt = n := by rw [z31_thr]; exact hn.1
  refine zm_X8_accountIn (C_flowOrNone hl (hR.n hO) (fun b => C_within hl (fun c => C_within hl (fun d => ?_) fun d => Or.inr ⟨rfl, ?_⟩) fun c => Or.inr ⟨rfl, ?_⟩) fun b => Or.inl ⟨rfl, zm_X9_accountIn (R_noFlows en (z7_0 M) (fun d => absurd d b) fun _ => ⟨fun _ => Good.thr hI 1, fun d => absurd d (by decide)⟩)⟩)
  · have c2 := c
    rw [ti_le, ti_le, ti_0, show (7 : Int32).toInt = 7 from rfl] at c2
    have d2 := d
    rw [ti_le, ti_le, ti_0, show (200 : Int32).toInt = 200 from rfl] at d2
    obtain ⟨k, hk⟩ : ∃ k : Nat, p.toInt = k := ⟨_, (Int.toNat_of_nonneg d2.1).symm⟩
    obtain ⟨a, ha⟩ : ∃ a : Nat, q.toInt = a := ⟨_, (Int.toNat_of_nonneg c2.1).symm⟩
    refine C_look hO hR hk (by omega) (by omega) (by omega) fun M1 hF hR2 => ?_
    have hI1 := hI.ahead hF
    have hR1 : Rel M1 1 (zmI M 31 0) true := hR.other (by omega) (by decide) hF
    have op := hO.passes (p := false) k (by omega) (by omega) (by omega)
    have b1 := sp_acc_b (a := a) (p := f) op ⟨by omega, by omega⟩ (by omega)
    have b2 := sp_acc_b (a := a) (p := f) hO ⟨by omega, by omega⟩ (by omega)
    have e1 : zmI (zsI M1 30 0 7 0) 31 0 = zmI M 31 0 := (z31_thr M1 0).trans (ahead_31 hF)
    refine C_total op ⟨by omega, by omega⟩ hR2 ha (by omega) (C_total hO ⟨by omega, by omega⟩ hR1 ha (by omega) ?_)
    refine zm_X9_accountIn (R_noFlows (by rw [e1]; exact hn.1) (z7_0 M1) (fun _ => ⟨fun g => absurd rfl g, fun _ => R_noAccount (z7_0 M1) (fun _ => ⟨fun g => absurd rfl g, fun _ => R_noTicks (z7_0 M1) (by decide) (fun _ => ⟨fun _ => R_aside ?_, fun g => absurd rfl g⟩) fun g => absurd d g⟩) fun g => absurd (show 0 ≤ q.toInt ∧ q.toInt < 8 by omega) g⟩) fun g => absurd b g)
    refine R_acc (w := zmI M 31 0) (by rw [z31_32, e1]) hn.1 hn.2 b ha (by omega) (R_live (ahead_31 hF) hI1.2.1 hO hk (by omega) (by omega) (by omega) (R_acc (w := sp_passes (zmI M 31 0) false k) (zsI1 _ _ _ _) op.nf.1 hn.2 b ha (by omega) (R_back ⟨?_, Good.bk hI1 (sp_passes (zmI M 31 0) false k)⟩)))
    exact (t64_sub (a := sp_acc (sp_passes (zmI M 31 0) false k) n a f) (b := sp_acc (zmI M 31 0) n a f) (by omega)).symm
  · have c2 := c
    rw [ti_le, ti_le, ti_0, show (7 : Int32).toInt = 7 from rfl] at c2
    exact zm_X9_accountIn (R_noFlows en (z7_0 M) (fun _ => ⟨fun g => absurd rfl g, fun _ => R_noAccount (z7_0 M) (fun _ => ⟨fun g => absurd rfl g, fun _ => R_noTicks (z7_0 M) (by decide) (fun g => absurd g d) fun _ => ⟨fun g => absurd g (by decide), fun _ => Good.thr hI 2⟩⟩) fun g => absurd (show 0 ≤ q.toInt ∧ q.toInt < 8 by omega) g⟩) fun g => absurd b g)
  · have c2 := c
    rw [ti_le, ti_le, ti_0, show (7 : Int32).toInt = 7 from rfl] at c2
    exact zm_X9_accountIn (R_noFlows en (z7_0 M) (fun _ => ⟨fun g => absurd rfl g, fun _ => R_noAccount (z7_0 M) (fun g => absurd (show 0 ≤ q.toInt ∧ q.toInt ≤ 7 by omega) c2) fun _ => ⟨fun _ => Good.thr hI 2, fun g => absurd g (by decide)⟩⟩) fun g => absurd b g)
end
