section
variable {l : Launch} {G : zG} {M : zM} {A : Nat}
theorem ti_negE {x : Int32} (h : -2147483648 < x.toInt) : (-x).toInt = -x.toInt := ti_neg h
theorem P_flow (hl : l.stackTraces = false) {f p : Int32} (hI : Inv M A) :
    zCalIX l G Y_X8_flow 2 12 [vr 0 0, vi f, vi p] M (fun x M1 => zCalI l G Y_X9_flow 0 0 [vr 30 0, vi f, vi p] M1 (fun y M2 => y = x ∧ Good A 0 M2)) (fun E M1 => (E = IOE ∧ zCalI l G Y_X9_flow 0 0 [vr 30 0, vi f, vi p] M1 (fun _ M2 => Good A 1 M2)) ∨ (E = IAE ∧ zCalI l G Y_X9_flow 0 0 [vr 30 0, vi f, vi p] M1 (fun _ M2 => Good A 2 M2))) := by
  obtain ⟨n, hR, hO⟩ := hI.1
  have hn := hO.nf
  have hq := hO.nq
  have h40 := hO.q40
  have ht := hO.tim
  have e31 : zmI (zsI M 30 0 7 0) 31 0 = zmI M 31 0 := z31_thr M 0
  have en : (zmI (zsI M 30 0 7 0) 31 0 11).toInt = n := by rw [z31_thr]; exact hn.1
  refine zm_X8_flow (zm_X8_flowAt (C_index hl (hR.n hO) (fun b => ⟨ti_in (by omega), rfl, C_within hl (fun c => ?_) fun c => Or.inr ⟨rfl, zm_X9_flow (R_noFlow en (z7_0 M) (fun _ => ⟨fun d => absurd rfl d, fun _ => R_in2 (fun d => absurd d c) fun _ => ⟨fun d => absurd rfl d, fun _ => zb_X9_flow_29 (R_f1 (z7_0 M) (by decide) ⟨fun d => absurd d (by decide), fun _ => Good.thr hI 2⟩)⟩⟩) fun d => absurd b d)⟩⟩) fun b => Or.inl ⟨rfl, zm_X9_flow (R_noFlow en (z7_0 M) (fun d => absurd d b) fun _ => ⟨fun _ => Good.thr hI 1, fun d => absurd d (by decide)⟩)⟩))
  have c2 := c
  rw [ti_le, ti_le, ti_0, show (10 : Int32).toInt = 10 from rfl] at c2
  obtain ⟨i, hi⟩ : ∃ i : Nat, f.toInt = i := ⟨_, (Int.toNat_of_nonneg b.1).symm⟩
  have hin : i < n := by omega
  obtain ⟨N, hN⟩ : ∃ N : Nat, (zmI M 31 0 8).toInt = N := ⟨_, (Int.toNat_of_nonneg hq.1).symm⟩
  have ff := hR.2.1 i (by omega)
  have fo := hO.fl i hin
  have f1 : 1 ≤ (zmI M 31 0 (sf i 0)).toInt ∧ (zmI M 31 0 (sf i 0)).toInt ≤ 99 := fo.fst
  have f2 : 1 ≤ (zmI M 31 0 (sf i 1)).toInt ∧ (zmI M 31 0 (sf i 1)).toInt ≤ 50 := fo.per
  -- the reference
  have gate : ∀ v : Int32, (¬ p = 8 → ¬ p = 9 → ¬ p = 10 → v = zmI M 31 0 (sf i p.toInt.toNat)) → (p = 10 → v = zmI M 31 0 (sf i 8)) → (p = 9 → v = (if 0 ≤ zmI M 31 0 7 - zmI M 31 0 (sf i 0) then zmI M 31 0 (sf i 1) - ((zmI M 31 0 7 - zmI M 31 0 (sf i 0)) - (zmI M 31 0 7 - zmI M 31 0 (sf i 0)) / zmI M 31 0 (sf i 1) * zmI M 31 0 (sf i 1)) else -(zmI M 31 0 7 - zmI M 31 0 (sf i 0)))) → (p = 8 → v = sp_qo (zmI M 31 0) f N) → zCalI l G Y_X9_flow 0 0 [vr 30 0, vi f, vi p] M (fun y M2 => y = v ∧ Good A 0 M2) := by
    intro v vx v10 v9 v8
    refine zm_X9_flow (R_noFlow en (z7_0 M) (fun _ => ⟨fun d => absurd rfl d, fun _ => R_in2 (fun _ => ⟨fun _ => zb_X9_flow_29 (R_f0 (z7_0 M) (by decide) ⟨fun _ => ⟨fun a8 => ⟨fun a9 => ⟨fun a10 => R_ofFlow (k := p.toInt.toNat) hi (by omega) (by (first | omega | (simp only [sf, sq, sd] at *; omega))) ⟨?_, Good.z hI⟩, fun a10 => R_ofFlow (k := 8) hi rfl (by (first | omega | (simp only [sf, sq, sd] at *; omega))) ⟨?_, Good.z hI⟩⟩, fun a9 => zm_X9_untilSending (R_ofFlow (k := 0) hi rfl (by (first | omega | (simp only [sf, sq, sd] at *; omega))) ⟨fun g => R_ofFlow (k := 1) hi rfl (by (first | omega | (simp only [sf, sq, sd] at *; omega))) (R_ofFlow (k := 1) hi rfl (by (first | omega | (simp only [sf, sq, sd] at *; omega))) ⟨?_, ?_, Good.z hI⟩), fun g => ⟨?_, Good.z hI⟩⟩)⟩, fun a8 => R_queuedOf (w := zmI M 31 0) e31 hN (by omega) ⟨(v8 a8).symm, Good.z hI⟩⟩, fun d => absurd rfl d⟩), fun d => absurd d (by decide)⟩) fun d => absurd c d⟩) fun d => absurd b d)
    · rw [e31]; exact (vx a8 a9 a10).symm
    · rw [e31]; exact (v10 a10).symm
    · rw [e31]
      intro g9
      rw [g9] at f2
      exact absurd f2.1 (by decide)
    · rw [e31] at g ⊢
      rw [v9 a9, if_pos g]
    · rw [e31] at g ⊢
      rw [v9 a9, if_neg g]
  have pj : ∀ j : Int32, p = j → p.toInt = j.toInt := fun j h => by rw [h]
  have val : ∀ (j : Nat) (v : Int32), p.toInt = j → j < 8 → v = zmI M 31 0 (sf i j) → zCalI l G Y_X9_flow 0 0 [vr 30 0, vi f, vi p] M (fun y M2 => y = v ∧ Good A 0 M2) := fun j v hj h8 hv =>
    gate v (fun _ _ _ => by rw [hv, show p.toInt.toNat = j by omega]) (fun d => by have := pj 10 d; have : (10 : Int32).toInt = 10 := rfl; omega) (fun d => by have := pj 9 d; have : (9 : Int32).toInt = 9 := rfl; omega) (fun d => by have := pj 8 d; have : (8 : Int32).toInt = 8 := rfl; omega)
  have bitv : ∀ (j : Nat) {x : Int32}, p.toInt = j → j < 8 → x = zmI M 31 0 (sf i j) → (x = 0 ∨ x = 1) → ((x = 0 → zCalI l G Y_X9_flow 0 0 [vr 30 0, vi f, vi p] M (fun y M2 => y = 0 ∧ Good A 0 M2)) ∧ (¬ x = 0 → zCalI l G Y_X9_flow 0 0 [vr 30 0, vi f, vi p] M (fun y M2 => y = 1 ∧ Good A 0 M2))) := fun j x hj h8 hx hb =>
    ⟨fun d => val j 0 hj h8 (d ▸ hx), fun d => val j 1 hj h8 ((hb.resolve_left d) ▸ hx)⟩
  rw [ti_at hi]
  refine ⟨fun d => val 0 _ (by rw [d]; rfl) (by omega) (ff.1 0 (by omega)), fun d => val 1 _ (by rw [d]; rfl) (by omega) (ff.1 1 (by omega)), fun d => val 2 _ (by rw [d]; rfl) (by omega) (ff.1 2 (by omega)), fun d => val 3 _ (by rw [d]; rfl) (by omega) (ff.1 3 (by omega)),
    fun d => bitv 4 (by rw [d]; rfl) (by omega) (ff.1 4 (by omega)) (by rw [ff.1 4 (by omega)]; exact fo.mrk), fun d => bitv 5 (by rw [d]; rfl) (by omega) (ff.1 5 (by omega)) (by rw [ff.1 5 (by omega)]; exact fo.on), fun d => val 6 _ (by rw [d]; rfl) (by omega) (ff.1 6 (by omega)), fun d => bitv 7 (by rw [d]; rfl) (by omega) (ff.1 7 (by omega)) (by rw [ff.1 7 (by omega)]; exact fo.tld),
    fun d => C_packetsOf hR.2.2.1 hN (by omega) (gate _ (fun g _ _ => absurd d g) (fun g => absurd (d.symm.trans g) (by decide)) (fun g => absurd (d.symm.trans g) (by decide)) fun _ => rfl), fun d => zm_X1_ticksToSending ?_, fun d => ?_⟩
  · have e1 : zmI M 17 (6 * 1 + i) 1 = zmI M 31 0 (sf i 0) := ff.1 0 (by omega)
    have e2 : zmI M 17 (6 * 1 + i) 2 = zmI M 31 0 (sf i 1) := ff.1 1 (by omega)
    have e7 : zmI M 15 1 7 = zmI M 31 0 7 := hR.1.1 7 (by omega)
    rw [e1, e2, e7]
    have es : (zmI M 31 0 7 - zmI M 31 0 (sf i 0)).toInt = (zmI M 31 0 7).toInt - (zmI M 31 0 (sf i 0)).toInt := ti_sub (by omega)
    refine ⟨fun g => gate _ (fun _ g9 _ => absurd d g9) (fun g => absurd (d.symm.trans g) (by decide)) (fun _ => ?_) (fun g => absurd (d.symm.trans g) (by decide)), fun g => ⟨fun _ => ⟨?_, gate _ (fun _ g9 _ => absurd d g9) (fun g => absurd (d.symm.trans g) (by decide)) (fun _ => ?_) (fun g => absurd (d.symm.trans g) (by decide))⟩, fun g2 => ?_⟩⟩
    · rw [ti_lt] at g
      rw [if_neg (by rw [ti_le, es, ti_0]; omega), ti_eq, ti_neg (by omega), es, ti_sub (by omega)]
      omega
    · intro g9
      rw [g9] at f2
      exact absurd f2.1 (by decide)
    · rw [ti_lt] at g
      rw [if_pos (by rw [ti_le, es, ti_0]; omega)]
    · exfalso
      rw [ti_le, ti_1] at g2
      omega
  · obtain ⟨d0, d1, d2, d3, d4, d5, d6, d7, d8, d9⟩ := d
    have d10 : p = 10 := by
      simp only [ti_eq] at *
      have a0 : (0 : Int32).toInt = 0 := rfl
      have a1 : (1 : Int32).toInt = 1 := rfl
      have a2 : (2 : Int32).toInt = 2 := rfl
      have a3 : (3 : Int32).toInt = 3 := rfl
      have a4 : (4 : Int32).toInt = 4 := rfl
      have a5 : (5 : Int32).toInt = 5 := rfl
      have a6 : (6 : Int32).toInt = 6 := rfl
      have a7 : (7 : Int32).toInt = 7 := rfl
      have a8 : (8 : Int32).toInt = 8 := rfl
      have a9 : (9 : Int32).toInt = 9 := rfl
      have a10 : (10 : Int32).toInt = 10 := rfl
      omega
    exact gate _ (fun _ _ g => absurd d10 g) (fun _ => ff.1 8 (by omega)) (fun g => absurd g d9) (fun g => absurd g d8)
end
