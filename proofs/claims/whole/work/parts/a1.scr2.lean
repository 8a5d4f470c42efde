/-! SCRIPTS: a flow is named, on both sides -/
section
variable {l : Launch} {G : zG} {M M0 Mz : zM} {A : Nat} {b : Nat → Int32} {F : Nat} {S S' : Nat × Int32 × Int32} {w f Q Q0 : Nat → Int32} {t : Int32}
theorem RN.is2 {tt : List Nat} {s i : Nat} (h : RN (some tt) w i) (hl : 0 ≤ (w (sf i 9)).toInt ∧ (w (sf i 9)).toInt ≤ 8 ∧ ∀ j : Nat, (j : Int) < (w (sf i 9)).toInt → 97 ≤ (w (sf i (10 + j))).toInt ∧ (w (sf i (10 + j))).toInt ≤ 122) (hk : rd_kd b F s = 1) : (rd_is b F s tt ↔ rd_nm b F w s i) ∧ tt.length ≤ 8 := by
  obtain ⟨s1, h1, h2, h3⟩ := h
  have e1 : tt = s1 := by injection h1
  obtain ⟨l1, l2, l3⟩ := hl
  subst e1
  have el : ∀ j : Nat, j < tt.length → nI (tt.getD j 0) = w (sf i (10 + j)) := fun j hj => by
    rw [h3 j hj]
    have := l3 j (by omega)
    exact (nI_ofT (Int.toNat_of_nonneg (by omega)).symm).symm
  refine ⟨⟨fun g => ?_, fun g => ?_⟩, by omega⟩
  · refine ⟨by rw [g.2.1, h2]; omega, fun k hk2 => ?_⟩
    rw [← el k (by rw [← g.2.1]; exact hk2)]
    exact (g.2.2 k (by rw [← g.2.1]; exact hk2)).symm
  · have e2 : rd_e b F s - s = tt.length := by rw [h2, g.1]; rfl
    exact ⟨hk, e2, fun k hk2 => by rw [el k hk2]; exact (g.2 k (by omega)).symm⟩
theorem C_g {n S0 T : Nat} {Kf : Int32 → zM → Prop} (hT : Tx b F M) (hk : TK b F S (zmI M 1 0)) (hR : Rel M 1 w true) (hO : OK w n A S0 T) (h : ∀ P x, TK b F (g_f b F w S) P → ((g_f b F w S).2.1 = 0 → x = g_ix b F w S.1 ∧ rd_kd b F S.1 = 1 ∧ rd_has b F w S.1) → Kf x (zsIr M 1 0 P)) : zCalI l G Y_X6_readFlow 0 0 [vr 4 0] M Kf := by
  have hn := hO.nf
  have hlt : ∀ i : Nat, i < n → 0 ≤ (w (sf i 9)).toInt ∧ (w (sf i 9)).toInt ≤ 8 ∧ ∀ j : Nat, (j : Int) < (w (sf i 9)).toInt → 97 ≤ (w (sf i (10 + j))).toInt ∧ (w (sf i (10 + j))).toInt ≤ 122 := fun i hi => ⟨(hO.fl i hi).lng.1, (hO.fl i hi).lng.2, (hO.fl i hi).let_⟩
  have hnm : ∀ i, i < n → ∃ tt : List Nat, zmT M (zmN M 17 (6 * 1 + i) 0) = some tt ∧ RN (some tt) w i := fun i hi => by
    have q := (hR.2.1 i (by omega)).2.2
    have q' := q
    obtain ⟨tt, h1, -⟩ := q'
    exact ⟨tt, h1, by rw [← h1]; exact q⟩
  have hx : ∃ nm : Nat → List Nat, ∀ i : Nat, i < n → zmT M (zmN M 17 (6 * 1 + i) 0) = some (nm i) ∧ RN (some (nm i)) w i ∧ (nm i).length ≤ 8 := by
    refine ⟨fun i => (zmT M (zmN M 17 (6 * 1 + i) 0)).getD [], fun i hi => ?_⟩
    obtain ⟨tt, q1, q2⟩ := hnm i hi
    have l8 : tt.length ≤ 8 := by
      obtain ⟨s1, e1, e2, -⟩ := q2
      injection e1 with e1
      have := hlt i hi
      rw [e1]
      omega
    show zmT M (zmN M 17 (6 * 1 + i) 0) = some ((zmT M (zmN M 17 (6 * 1 + i) 0)).getD []) ∧ RN (some ((zmT M (zmN M 17 (6 * 1 + i) 0)).getD [])) w i ∧ ((zmT M (zmN M 17 (6 * 1 + i) 0)).getD []).length ≤ 8
    rw [q1]
    exact ⟨rfl, q2, l8⟩
  obtain ⟨nm, hnm⟩ := hx
  -- the word is gone past
  have l46 : ∀ (S2 : Nat × Int32 × Int32) (P x), TK b F S2 P → S2 = pif (rd_kd b F S.1 = 1 ∧ rd_e b F S.1 - S.1 ≤ 8) (pif (rd_has b F w S.1) S (t_fail 4 S)) (t_fail 1 S) → ((g_f b F w S).2.1 = 0 → x = g_ix b F w S.1 ∧ rd_kd b F S.1 = 1 ∧ rd_has b F w S.1) → zAt l G Y_X6_readFlow (zEI G Y_X6_readFlow Kf) 46 [(0, vr 4 0), (1, vi x)] [] (zsIr M 1 0 P) 0 0 := fun S2 P x kP e hx => by
    refine zb_X6_readFlow_46 (C_expT (S := S2) (k := 1) (hT.set kP.len) (by rw [zmU]; exact kP) rfl (by decide) fun P2 k2 => ?_)
    rw [zsI2]
    refine h P2 x ?_ hx
    rw [e] at k2
    exact k2
  have self : zsIr M 1 0 (zmI M 1 0) = M := zsI0 M 1 0
  have g0 : (g_f b F w S).2.1 = 0 → rd_kd b F S.1 = 1 ∧ rd_has b F w S.1 := fun e => by
    have e1 := t_exp_0 e
    rcases Classical.em (rd_kd b F S.1 = 1 ∧ rd_e b F S.1 - S.1 ≤ 8) with c | c
    · rw [pif_pos c] at e1
      rcases Classical.em (rd_has b F w S.1) with d | d
      · exact ⟨c.1, d⟩
      · rw [pif_neg d] at e1
        have e2 := t_fail_0 (by decide) e1
        unfold t_fail at e1
        rw [if_pos e2] at e1
        exact absurd (show (4 : Int32) = 0 from e1) (by decide)
    · rw [pif_neg c] at e1
      have e2 := t_fail_0 (by decide) e1
      unfold t_fail at e1
      rw [if_pos e2] at e1
      exact absurd (show (1 : Int32) = 0 from e1) (by decide)
  refine zm_X6_readFlow (C_named hT hk (hR.n hO) hn.2 (fun i hi => ⟨(hnm i hi).1, (hnm i hi).2.2⟩) (fun i x hx hi g hall => ?_) (fun hall => ?_))
  · have hf := (RN.is2 (hnm i hi).2.1 (hlt i hi) g.1).1.mp g
    have hix : x = g_ix b F w S.1 := by
      rw [nI_ofT hx]
      refine (g_ixd_at hf _ 0 (Nat.zero_le _) (by rw [hn.1]; omega) fun k _ hk2 q => hall k hk2 ?_).symm
      exact (RN.is2 (hnm k (by omega)).2.1 (hlt k (by omega)) g.1).1.mpr q
    refine C_isN hT hk (fun k1 k8 => ⟨fun _ => ⟨fun _ => ?_, fun d => ?_⟩, fun d => absurd d (by decide)⟩) (fun nk => ⟨fun d => absurd rfl d, fun _ => C_failT hk fun P kP => l46 _ P x kP (by rw [pif_neg nk]) fun e => ⟨hix, g0 e⟩⟩)
    · have := l46 S (zmI M 1 0) x hk (by rw [pif_pos ⟨k1, k8⟩, pif_pos ⟨i, by omega, hf⟩]) fun e => ⟨hix, g0 e⟩
      rw [self] at this
      exact this
    · exfalso
      rw [ti_eq, hx, ti_n1] at d
      omega
  · refine C_isN hT hk (fun k1 k8 => ⟨fun _ => ⟨fun d => absurd rfl d, fun _ => ?_⟩, fun d => absurd d (by decide)⟩) (fun nk => ⟨fun d => absurd rfl d, fun _ => C_failT hk fun P kP => l46 _ P (-1) kP (by rw [pif_neg nk]) fun e => ?_⟩)
    · have nh : ¬ rd_has b F w S.1 := fun ⟨i, hi, q⟩ => hall i (by omega) ((RN.is2 (hnm i (by omega)).2.1 (hlt i (by omega)) k1).1.mpr q)
      exact C_failT hk fun P kP => l46 _ P (-1) kP (by rw [pif_pos ⟨k1, k8⟩, pif_neg nh]) fun e => absurd (g0 e).2 nh
    · obtain ⟨k1, i, hi, q⟩ := g0 e
      exact absurd ((RN.is2 (hnm i (by omega)).2.1 (hlt i (by omega)) k1).1.mpr q) (hall i (by omega))
end
