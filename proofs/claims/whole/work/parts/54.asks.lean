/-! QUESTIONS ABOUT THINGS AS THEY ARE -/
section
variable {l : Launch} {G : zG} {M : zM} {A : Nat}
theorem R_in2 {p a b : Int32} {Kf : Int32 → zM → Prop} (h1 : a ≤ p ∧ p ≤ b → Kf 1 M) (h2 : ¬ (a ≤ p ∧ p ≤ b) → Kf 0 M) : zCalI l G Y_X9_in 0 0 [vi p, vi a, vi b] M Kf := by
  refine R_in ?_
  rcases Classical.em (a ≤ p ∧ p ≤ b) with c | c
  · rw [if_pos c]; exact h1 c
  · rw [if_neg c]; exact h2 c
theorem R_f0 {q : Int32} {Kf : Int32 → zM → Prop} (h7 : zmI M 30 0 7 = 0) (hq : ¬ q = 0) (h : Kf 0 M) : zCalI l G Y_X9_fails 0 0 [vr 30 0, vi 0, vi q] M Kf :=
  R_fails hq (fun _ _ => h) (fun _ d => absurd rfl d) (fun d => absurd h7 d)
theorem R_f1 {q : Int32} {Kf : Int32 → zM → Prop} (h7 : zmI M 30 0 7 = 0) (hq : ¬ q = 0) (h : Kf 1 (zsI M 30 0 7 q)) : zCalI l G Y_X9_fails 0 0 [vr 30 0, vi 1, vi q] M Kf :=
  R_fails hq (fun _ d => absurd d (by decide)) (fun _ _ => h) (fun d => absurd h7 d)
theorem Good.z (h : Inv M A) : Good A 0 (zsI M 30 0 7 0) := ⟨z7_0 M, inv_thr h 0⟩
/-- the row of a main router -/
theorem P_errorPosition (hI : Inv M A) : zCalI l G Y_X8_errorPosition 0 0 [vr 0 0] M (fun x M1 => zCalI l G Y_X9_errorPosition 0 0 [vr 30 0] M1 (fun y M2 => y = x ∧ Good A 0 M2)) := by
  obtain ⟨F, -, -, -, -, h5⟩ := hI.2.2.2.2.1
  refine zm_X8_errorPosition (zm_X9_errorPosition ⟨?_, Good.z hI⟩)
  simp only [zmI, zsI1]
  rw [zup_ne _ _ (by omega)]
  exact h5.symm
theorem P_next (hI : Inv M A) : zCalI l G Y_X8_next 0 0 [vr 0 0] M (fun x M1 => zCalI l G Y_X9_next 0 0 [vr 30 0] M1 (fun y M2 => y = x ∧ Good A 0 M2)) := by
  obtain ⟨n, hR, hO⟩ := hI.1
  have hq := hO.nq
  have q8 : zmI M 19 1 1 = zmI M 31 0 8 := hR.2.2.1.1
  have q9 : zmI M 15 1 8 = zmI M 31 0 9 := hR.1.2.1
  refine zm_X8_next (C_avg hR.1 (C_way hR.1 hO.gen (by rw [q8]; exact hq.2) (zm_X9_next (R_moved (R_how ⟨?_, Good.z hI⟩)))))
  rw [z31_thr, q8, q9]
theorem C_bc (hR : Rel M 1 (zmI M 31 0) true) {n S T : Nat} (hO : OK (zmI M 31 0) n A S T) {way a c : Int32} {Kf : Int32 → zM → Prop} (h : Kf (if way = 3 then sp_chance (sp_base (zmI M 31 0) a) c else if way = 1 then 0 else 65536) M) :
    zCalI l G Y_X5_baseAt 0 0 [vr 15 1, vi a] M (fun x6 M5 => zCalI l G Y_X5_chanceAt 0 0 [vi way, vi x6, vi c] M5 Kf) := by
  have hb := sp_base_bnd (a := a) hO.mm hO.top
  refine C_base hR.1 hO.mm hO.gen (C_chance ?_)
  rw [t3264 (by omega)]
  exact h
theorem R_chanceBy {a q c : Int32} {w : Nat → Int32} {Kf : Int32 → zM → Prop} (hw : zmI M 31 0 = w) (hm : sp_mm w) (h : Kf (if sp_how w a q = 3 then sp_chance (sp_base w a) c else if sp_how w a q = 1 then 0 else 65536) M) : zCalI l G Y_X9_chanceBy 0 0 [vr 30 0, vi a, vi q, vi c] M Kf := by
  refine zm_X9_chanceBy (R_how ?_)
  rw [hw]
  refine ⟨fun d => ⟨fun f => ?_, fun f => R_base (by rw [hw]; exact hm) (R_chance ?_)⟩, fun d => ?_⟩
  · rw [if_neg f, if_neg d] at h
    exact h
  · rw [if_pos f] at h
    rw [hw]
    exact h
  · rw [if_neg (by rw [d]; decide), if_pos d] at h
    exact h
theorem P_nextChance (hI : Inv M A) : zCalI l G Y_X8_nextChance 0 0 [vr 0 0] M (fun x M1 => zCalI l G Y_X9_nextChance 0 0 [vr 30 0] M1 (fun y M2 => y = x ∧ Good A 0 M2)) := by
  obtain ⟨n, hR, hO⟩ := hI.1
  have hq := hO.nq
  have q8 : zmI M 19 1 1 = zmI M 31 0 8 := hR.2.2.1.1
  have q9 : zmI M 15 1 8 = zmI M 31 0 9 := hR.1.2.1
  have q10 : zmI M 15 1 9 = zmI M 31 0 10 := hR.1.2.2.1 rfl
  refine zm_X8_nextChance (C_avg hR.1 (C_way hR.1 hO.gen (by rw [q8]; exact hq.2) ?_))
  have hb := sp_base_bnd (a := sp_moved (zmI M 31 0) (zmI M 15 1 8) (zmI M 19 1 1)) hO.mm hO.top
  refine C_base hR.1 hO.mm hO.gen (C_chance (zm_X9_nextChance (R_moved (R_chanceBy (w := zmI M 31 0) (z31_thr M 0) hO.mm ⟨?_, Good.z hI⟩))))
  rw [t3264 (by omega), z31_thr, q8, q9, q10]
theorem P_base (hl : l.stackTraces = false) {p : Int32} (hI : Inv M A) : zCalIX l G Y_X8_base 1 6 [vr 0 0, vi p] M (fun x M1 => zCalI l G Y_X9_base 0 0 [vr 30 0, vi p] M1 (fun y M2 => y = x ∧ Good A 0 M2)) (fun E M1 => E = IAE ∧ zCalI l G Y_X9_base 0 0 [vr 30 0, vi p] M1 (fun _ M2 => Good A 1 M2)) := by
  obtain ⟨n, hR, hO⟩ := hI.1
  have e31 : zmI (zsI M 30 0 7 0) 31 0 = zmI M 31 0 := z31_thr M 0
  refine zm_X8_base (C_within hl (fun c => C_base hR.1 hO.mm hO.gen (zm_X9_base (R_in2 (fun _ => ⟨fun _ => zb_X9_base_22 (R_f0 (z7_0 M) (by decide) ⟨fun _ => R_base (by rw [e31]; exact hO.mm) ⟨by rw [e31], Good.z hI⟩, fun d => absurd rfl d⟩), fun d => absurd d (by decide)⟩) fun d => absurd c d))) fun c => ⟨rfl, zm_X9_base (R_in2 (fun d => absurd d c) fun _ => ⟨fun d => absurd rfl d, fun _ => zb_X9_base_22 (R_f1 (z7_0 M) (by decide) ⟨fun d => absurd d (by decide), fun _ => Good.thr hI 1⟩)⟩)⟩)
theorem P_chance (hl : l.stackTraces = false) {p q : Int32} (hI : Inv M A) : zCalIX l G Y_X8_chance 2 12 [vr 0 0, vi p, vi q] M (fun x M1 => zCalI l G Y_X9_chance 0 0 [vr 30 0, vi p, vi q] M1 (fun y M2 => y = x ∧ Good A 0 M2)) (fun E M1 => E = IAE ∧ zCalI l G Y_X9_chance 0 0 [vr 30 0, vi p, vi q] M1 (fun _ M2 => Good A 1 M2)) := by
  obtain ⟨n, hR, hO⟩ := hI.1
  have e31 : zmI (zsI M 30 0 7 0) 31 0 = zmI M 31 0 := z31_thr M 0
  have bad : zAt l G Y_X9_chance (zEI G Y_X9_chance (fun _ M2 => Good A 1 M2)) 33 [(0, vr 30 0), (1, vi p), (2, vi q)] [vi 1, vr 30 0] (zsI M 30 0 7 0) 0 0 := zb_X9_chance_33 (R_f1 (z7_0 M) (by decide) ⟨fun d => absurd d (by decide), fun _ => Good.thr hI 1⟩)
  refine zm_X8_chance (C_within hl (fun c => C_within hl (fun d => C_bc hR hO (zm_X9_chance (R_in2 (fun _ => ⟨fun f => absurd f (by decide), fun _ => R_in2 (fun _ => ⟨fun _ => zb_X9_chance_33 (R_f0 (z7_0 M) (by decide) ⟨fun _ => R_base (by rw [e31]; exact hO.mm) (R_chance ⟨by rw [e31, if_pos rfl], Good.z hI⟩), fun f => absurd rfl f⟩), fun f => absurd f (by decide)⟩) fun f => absurd d f⟩) fun f => absurd c f))) fun d => ⟨rfl, zm_X9_chance (R_in2 (fun _ => ⟨fun f => absurd f (by decide), fun _ => R_in2 (fun f => absurd f d) fun _ => ⟨fun f => absurd rfl f, fun _ => zb_X9_chance_28 bad⟩⟩) fun f => absurd c f)⟩) fun c => ⟨rfl, zm_X9_chance (R_in2 (fun f => absurd f c) fun _ => ⟨fun _ => zb_X9_chance_28 bad, fun f => absurd rfl f⟩)⟩)
theorem P_account (hl : l.stackTraces = false) {f q : Int32} (hI : Inv M A) (hA : A ≤ 299000000) :
    zCalLX l G Y_X8_account 2 12 [vr 0 0, vi f, vi q] M (fun x M1 => zCalL l G Y_X9_account 0 0 [vr 30 0, vi f, vi q] M1 (fun y M2 => y = x ∧ Good A 0 M2)) (fun E M1 => (E = IOE ∧ zCalL l G Y_X9_account 0 0 [vr 30 0, vi f, vi q] M1 (fun _ M2 => Good A 1 M2)) ∨ (E = IAE ∧ zCalL l G Y_X9_account 0 0 [vr 30 0, vi f, vi q] M1 (fun _ M2 => Good A 2 M2))) := by
  obtain ⟨n, hR, hO⟩ := hI.1
  have ht := hO.tim
  have hn := hO.nf
  have e31 : zmI (zsI M 30 0 7 0) 31 0 = zmI M 31 0 := z31_thr M 0
  have en : (zmI (zsI M 30 0 7 0) 31 0 11).toInt = n := by rw [z31_thr]; exact hn.1
  refine zm_X8_account (C_flowOrNone hl (hR.n hO) (fun b => C_within hl (fun c => ?_) fun c => Or.inr ⟨rfl, ?_⟩) fun b => Or.inl ⟨rfl, zm_X9_account (R_noFlows en (z7_0 M) (fun d => absurd d b) fun _ => ⟨fun _ => Good.thr hI 1, fun d => absurd d (by decide)⟩)⟩)
  · have c2 := c
    rw [ti_le, ti_le, ti_0, show (7 : Int32).toInt = 7 from rfl] at c2
    obtain ⟨a, ha⟩ : ∃ a : Nat, q.toInt = a := ⟨_, (Int.toNat_of_nonneg c2.1).symm⟩
    exact C_total hO ⟨by omega, by omega⟩ hR ha (by omega) (zm_X9_account (R_noFlows en (z7_0 M) (fun _ => ⟨fun d => absurd rfl d, fun _ => R_noAccount (z7_0 M) (fun _ => ⟨fun _ => R_acc (w := zmI M 31 0) e31 hn.1 hn.2 b ha (by omega) ⟨rfl, Good.z hI⟩, fun d => absurd rfl d⟩) fun d => absurd (show 0 ≤ q.toInt ∧ q.toInt < 8 by omega) d⟩) fun d => absurd b d))
  · have c2 := c
    rw [ti_le, ti_le, ti_0, show (7 : Int32).toInt = 7 from rfl] at c2
    exact zm_X9_account (R_noFlows en (z7_0 M) (fun _ => ⟨fun d => absurd rfl d, fun _ => R_noAccount (z7_0 M) (fun g => absurd (show 0 ≤ q.toInt ∧ q.toInt ≤ 7 by omega) c2) fun _ => ⟨fun g => absurd g (by decide), fun _ => Good.thr hI 2⟩⟩) fun d => absurd b d)
theorem P_packet (hl : l.stackTraces = false) {p q : Int32} (hI : Inv M A) :
    zCalIX l G Y_X8_packet 2 12 [vr 0 0, vi p, vi q] M (fun x M1 => zCalI l G Y_X9_packet 0 0 [vr 30 0, vi p, vi q] M1 (fun y M2 => y = x ∧ Good A 0 M2)) (fun E M1 => (E = IOE ∧ zCalI l G Y_X9_packet 0 0 [vr 30 0, vi p, vi q] M1 (fun _ M2 => Good A 1 M2)) ∨ (E = IAE ∧ zCalI l G Y_X9_packet 0 0 [vr 30 0, vi p, vi q] M1 (fun _ M2 => Good A 2 M2))) := by
  obtain ⟨n, hR, hO⟩ := hI.1
  have hq := hO.nq
  have h40 := hO.q40
  have e31 : zmI (zsI M 30 0 7 0) 31 0 = zmI M 31 0 := z31_thr M 0
  have q8 : zmI M 19 1 1 = zmI M 31 0 8 := hR.2.2.1.1
  obtain ⟨N, hN⟩ : ∃ N : Nat, (zmI M 31 0 8).toInt = N := ⟨_, (Int.toNat_of_nonneg hq.1).symm⟩
  have gi : (0 ≤ p ∧ p ≤ zmI (zsI M 30 0 7 0) 31 0 8 - 1) ↔ 0 ≤ p.toInt ∧ p.toInt < N := by
    rw [e31, ti_le, ti_le, ti_0, ti_sub (by rw [ti_1]; omega), ti_1, hN]
    omega
  refine zm_X8_packet (C_index hl (n := N) (by rw [q8]; exact hN) (fun b => C_within hl (fun c => ?_) fun c => Or.inr ⟨rfl, zm_X9_packet (R_in2 (fun _ => ⟨fun _ => zb_X9_packet_28 (R_f0 (z7_0 M) (by decide) ⟨fun d => absurd rfl d, fun _ => R_in2 (fun d => absurd d c) fun _ => ⟨fun d => absurd rfl d, fun _ => zb_X9_packet_50 (R_f1 (z7_0 M) (by decide) ⟨fun d => absurd d (by decide), fun _ => Good.thr hI 2⟩)⟩⟩), fun d => absurd d (by decide)⟩) fun d => absurd (gi.mpr b) d)⟩)
    fun b => Or.inl ⟨rfl, zm_X9_packet (R_in2 (fun d => absurd (gi.mp d) b) fun _ => ⟨fun d => absurd rfl d, fun _ => zb_X9_packet_28 (R_f1 (z7_0 M) (by decide) ⟨fun _ => Good.thr hI 1, fun d => absurd d (by decide)⟩)⟩)⟩)
  have c2 := c
  rw [ti_le, ti_le, ti_0, show (2 : Int32).toInt = 2 from rfl] at c2
  obtain ⟨k, hk⟩ : ∃ k : Nat, p.toInt = k := ⟨_, (Int.toNat_of_nonneg b.1).symm⟩
  obtain ⟨a, ha⟩ : ∃ a : Nat, q.toInt = a := ⟨_, (Int.toNat_of_nonneg c2.1).symm⟩
  refine C_qcell hk ha (by omega) (zm_X9_packet (R_in2 (fun _ => ⟨fun _ => zb_X9_packet_28 (R_f0 (z7_0 M) (by decide) ⟨fun d => absurd rfl d, fun _ => R_in2 (fun _ => ⟨fun _ => zb_X9_packet_50 (R_f0 (z7_0 M) (by decide) ⟨fun _ => R_ofPacket hk ha (by (first | omega | (simp only [sf, sq, sd] at *; omega))) ⟨?_, Good.z hI⟩, fun d => absurd rfl d⟩), fun d => absurd d (by decide)⟩) fun d => absurd c d⟩), fun d => absurd d (by decide)⟩) fun d => absurd (gi.mpr b) d))
  rw [e31, show zmI M 20 1 (3 * k + a) = _ from hR.2.2.1.2 (3 * k + a) (by omega)]
  exact congrArg (zmI M 31 0) (by (first | omega | (simp only [sf, sq, sd] at *; omega)))
theorem R_ofDec {k a K : Nat} {p q : Int32} {w : Nat → Int32} {Kf : Int32 → zM → Prop} (hw : zmI M 31 0 = w) (hK : w 12 = nI K) (hK2 : K ≤ 24) (hp : p.toInt = k) (hk : k < K) (hq : q.toInt = a) (ha : a < 8) (h : Kf (w (sd (K - 1 - k) a)) M) : zCalI l G Y_X9_ofDecision 0 0 [vr 30 0, vi p, vi q] M Kf := by
  have hKi : (zmI M 31 0 12).toInt = K := by rw [hw, hK]; exact ti_nI (by omega)
  have e1 : ((zmI M 31 0 12 - 1) - p).toInt = (K - 1 - k : Nat) := by rw [ti_sub (by rw [ti_sub (by rw [ti_1]; omega), ti_1]; omega), ti_sub (by rw [ti_1]; omega), ti_1]; omega
  have e2 : ((292 + (8 * ((zmI M 31 0 12 - 1) - p))) + q).toInt = (sd (K - 1 - k) a : Nat) := by
    generalize (zmI M 31 0 12 - 1) - p = z at *
    unfold sd
    (first | omega | ((simp (disch := (first | omega | (simp (disch := (first | omega | (simp (disch := (first | omega | (simp (disch := omega) only [ti_add, ti_sub, ti_mul, Int32.reduceToInt, ti_n1, ti_n2, ti_n3, and_self] <;> omega))) only [ti_add, ti_sub, ti_mul, Int32.reduceToInt, ti_n1, ti_n2, ti_n3, and_self] <;> omega))) only [ti_add, ti_sub, ti_mul, Int32.reduceToInt, ti_n1, ti_n2, ti_n3, and_self] <;> omega))) only [ti_le, ti_lt, ti_eq, ti_add, ti_sub, ti_mul, Int32.reduceToInt, ti_n1, ti_n2, ti_n3, ti_cl] at *) <;> omega))
  refine zm_X9_ofDecision ⟨ti_in (by rw [e2]; (first | omega | (simp only [sf, sq, sd] at *; omega))), ?_⟩
  rw [ti_at e2, hw]
  exact h
theorem C_dcell {L K k a r : Nat} {p q : Int32} {w : Nat → Int32} {Kf : Int32 → zM → Prop} (hL : L < 24) (hb : zmI M 21 r 2 = nI L) (hp : p.toInt = k) (hk : k < 24) (hq : q.toInt = a) (ha : a < 8) (h : Kf (zmI M 22 r ((L + 24 - k) % 24 * 8 + a)) M) : zCalI l G Y_X0_cell 0 0 [vr 21 r, vi p, vi q] M Kf := by
  have e1 : ((nI L + 24) - p).toInt = (L + 24 - k : Nat) := by rw [ti_sub (by rw [ti_add (by rw [ti_nI (by omega), show (24 : Int32).toInt = 24 from rfl]; omega), ti_nI (by omega), show (24 : Int32).toInt = 24 from rfl]; omega), ti_add (by rw [ti_nI (by omega), show (24 : Int32).toInt = 24 from rfl]; omega), ti_nI (by omega), show (24 : Int32).toInt = 24 from rfl]; omega
  have e2 : (((nI L + 24) - p) - ((nI L + 24) - p) / 24 * 24).toInt = ((L + 24 - k) % 24 : Nat) := by
    rw [ti_rem (by rw [e1]; omega) (by decide), e1, show (24 : Int32).toInt = 24 from rfl]
    omega
  have e3 : ((((nI L + 24) - p) - ((nI L + 24) - p) / 24 * 24) * 8 + q).toInt = ((L + 24 - k) % 24 * 8 + a : Nat) := by
    generalize ((nI L + 24) - p) - ((nI L + 24) - p) / 24 * 24 = z at *
    rw [ti_add (by rw [ti_mul (by rw [e2, show (8 : Int32).toInt = 8 from rfl]; omega), e2, show (8 : Int32).toInt = 8 from rfl]; omega), ti_mul (by rw [e2, show (8 : Int32).toInt = 8 from rfl]; omega), e2, hq, show (8 : Int32).toInt = 8 from rfl]
    omega
  refine zm_X0_cell ?_
  rw [hb]
  refine ⟨fun c => ?_, fun _ => ⟨fun c => ?_, fun _ => ⟨ti_in (by rw [e3]; omega), ?_⟩⟩⟩
  · exfalso
    rw [ti_lt, e3, ti_0] at c
    omega
  · exfalso
    rw [ti_le, e3, show (192 : Int32).toInt = 192 from rfl] at c
    omega
  · rw [ti_at e3]
    exact h
theorem P_decision (hl : l.stackTraces = false) {p q : Int32} (hI : Inv M A) :
    zCalIX l G Y_X8_decision 2 12 [vr 0 0, vi p, vi q] M (fun x M1 => zCalI l G Y_X9_decision 0 0 [vr 30 0, vi p, vi q] M1 (fun y M2 => y = x ∧ Good A 0 M2)) (fun E M1 => (E = IOE ∧ zCalI l G Y_X9_decision 0 0 [vr 30 0, vi p, vi q] M1 (fun _ M2 => Good A 1 M2)) ∨ (E = IAE ∧ zCalI l G Y_X9_decision 0 0 [vr 30 0, vi p, vi q] M1 (fun _ M2 => Good A 2 M2))) := by
  obtain ⟨n, hR, hO⟩ := hI.1
  obtain ⟨-, -, -, L, K, hL, hK, hb2, hb1, hD⟩ := hR
  obtain ⟨d1, d2⟩ := hD rfl
  have e31 : zmI (zsI M 30 0 7 0) 31 0 = zmI M 31 0 := z31_thr M 0
  have kI : (nI K).toInt = K := ti_nI (by omega)
  have gi : (0 ≤ p ∧ p ≤ zmI (zsI M 30 0 7 0) 31 0 12 - 1) ↔ 0 ≤ p.toInt ∧ p.toInt < K := by
    rw [e31, ti_le, ti_le, ti_0, d1, ti_sub (by rw [ti_1]; omega), ti_1, kI]
    omega
  refine zm_X8_decision (C_index hl (n := K) (by rw [hb1]; exact kI) (fun b => C_within hl (fun c => ?_) fun c => Or.inr ⟨rfl, zm_X9_decision (R_in2 (fun _ => ⟨fun _ => zb_X9_decision_28 (R_f0 (z7_0 M) (by decide) ⟨fun d => absurd rfl d, fun _ => R_in2 (fun d => absurd d c) fun _ => ⟨fun d => absurd rfl d, fun _ => zb_X9_decision_51 (R_f1 (z7_0 M) (by decide) ⟨fun d => absurd d (by decide), fun _ => Good.thr hI 2⟩)⟩⟩), fun d => absurd d (by decide)⟩) fun d => absurd (gi.mpr b) d)⟩)
    fun b => Or.inl ⟨rfl, zm_X9_decision (R_in2 (fun d => absurd (gi.mp d) b) fun _ => ⟨fun d => absurd rfl d, fun _ => zb_X9_decision_28 (R_f1 (z7_0 M) (by decide) ⟨fun _ => Good.thr hI 1, fun d => absurd d (by decide)⟩)⟩)⟩)
  have c2 := c
  rw [ti_le, ti_le, ti_0, show (7 : Int32).toInt = 7 from rfl] at c2
  obtain ⟨k, hk⟩ : ∃ k : Nat, p.toInt = k := ⟨_, (Int.toNat_of_nonneg b.1).symm⟩
  obtain ⟨a, ha⟩ : ∃ a : Nat, q.toInt = a := ⟨_, (Int.toNat_of_nonneg c2.1).symm⟩
  refine C_dcell (w := zmI M 31 0) (K := K) hL hb2 hk (by omega) ha (by omega) (zm_X9_decision (R_in2 (fun _ => ⟨fun _ => zb_X9_decision_28 (R_f0 (z7_0 M) (by decide) ⟨fun d => absurd rfl d, fun _ => R_in2 (fun _ => ⟨fun _ => zb_X9_decision_51 (R_f0 (z7_0 M) (by decide) ⟨fun _ => R_ofDec (w := zmI M 31 0) (K := K) e31 d1 hK hk (by omega) ha (by omega) ⟨?_, Good.z hI⟩, fun d => absurd rfl d⟩), fun d => absurd d (by decide)⟩) fun d => absurd c d⟩), fun d => absurd d (by decide)⟩) fun d => absurd (gi.mpr b) d))
  exact (d2 k a (by omega) (by omega)).symm
end
