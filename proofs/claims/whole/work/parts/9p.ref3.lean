/-! SETUPS: statements, the reference -/
section
variable {l : Launch} {G : zG} {M Mz : zM} {A : Nat} {b : Nat → Int32} {F : Nat} {S S' : Nat × Int32 × Int32} {w w' f f' Qz Q Q0 : Nat → Int32} {t : Int32} {X : SX}
/-- a row that is another's below 484 -/
def ag484 (f w : Nat → Int32) : Prop := ∀ k, k < 484 → f k = w k
theorem ag484.up {j : Nat} {x : Int32} (h : ag484 f w) : ag484 (zup f j x) (zup w j x) := fun k hk => by
  by_cases c : k = j
  · rw [c, zup_self, zup_self]
  · rw [zup_ne _ _ c, zup_ne _ _ c]; exact h k hk
theorem UV.row {S2 : Nat × Int32 × Int32} {v v2 : Nat → Int32} {t2 : Int32} (h : UV b F Qz (S2, v, t2) f Q) (g : S2.2.1 = 0 → ag484 f' v2) : UV b F Qz (S2, v2, t2) f' Q := UV.mk h.uk h.fr h.tl h.tb g
theorem t_num_lo {lo hi : Int32} : lo.toInt ≤ (t_num b F lo hi S).1.toInt := by
  unfold t_num
  split
  · split
    · split
      · next c => exact ti_le.mp c.1
      · exact Int.le_refl _
    · exact Int.le_refl _
  · exact Int.le_refl _
theorem f_s_lo : 1 ≤ (f_s b F S).1.toInt := by
  have := t_num_lo (b := b) (F := F) (S := (f_p b F S).2) (lo := 1) (hi := 9)
  rw [ti_1] at this
  exact this
theorem V_flow {Kf : zM → Prop} (hT : Ux b F Mz) (hV : UV b F Qz (S, w, t) f Q) (h0 : S.2.1 = 0) (hk1 : rd_kd b F S.1 = 1) (hW : WS w) (h : ∀ f' Q', UV b F Qz (s_flow b F (S, w, t)) f' Q' → Kf (mk2 Mz f' Q')) : zCalV l G Y_X9_newFlow 0 0 [vr 30 0] (mk2 Mz f Q) Kf := by
  have hF := hT.hF
  have hn := hW.n
  have fw : ag484 f w := hV.fw h0
  have f11 : f 11 = w 11 := fw 11 (by omega)
  refine zm_X9_newFlow ⟨fun c => ?_, fun c => ?_⟩
  · rw [mk_31] at c
    rw [mk_31]
    have hne : ¬ w 11 = 6 := by rw [← f11]; exact c
    have h6 : (w 11).toInt.toNat < 6 := by
      rw [ti_eq, show (6 : Int32).toInt = 6 from rfl] at hne
      omega
    have es : s_flow b F (S, w, t) = (f_8 b F (t_exp b F 1 (f_2 b F w S)), f_w b F w (w 11).toInt.toNat (f_2 b F w S).1 (t_exp b F 1 (f_2 b F w S)), t) := if_neg hne
    rw [es] at h
    have iN : (f 11).toInt = (((w 11).toInt.toNat : Nat) : Int) := by rw [f11]; omega
    generalize hN : (w 11).toInt.toNat = n at h h6 iN
    have e1 : t_exp b F 1 S = t_adv b F S := by unfold t_exp; rw [if_pos h0, if_pos hk1]
    have err : ∀ (S2 : Nat × Int32 × Int32) Q', UV b F Qz (S2, w, t) f Q' → ¬ S2.2.1 = 0 → f_2 b F w S = S2 → Kf (mk2 Mz f Q') := fun S2 Q' v g e => by
      rw [e, t_exp_e g, f_8_e g] at h
      exact h f Q' (v.any (Y := (f_w b F w n S2.1 S2, t)) g)
    refine zb_X9_newFlow_20 (V_wr hV (by decide) (fun _ _ => ⟨fun _ => V_adv hT hV h0 fun Q1 v1 => R_noNm hT v1 h0 (fun k1 k8 => ⟨fun d => absurd rfl d, fun _ => ?_⟩) (fun nk Q2 v2 => ⟨fun _ => err _ Q2 v2 (show ¬ (1 : Int32) = 0 by decide) ?_, fun d => absurd d (by decide)⟩), fun d => absurd rfl d⟩) (fun _ d => absurd rfl d) fun d => absurd h0 d)
    · have k1 : rd_kd b F (t_adv b F S).1 = 1 := k1
      have k8 : rd_e b F (t_adv b F S).1 - (t_adv b F S).1 ≤ 8 := k8
      have fl9 : ∀ i, i < n → 0 ≤ (f (sf i 9)).toInt ∧ (f (sf i 9)).toInt ≤ 8 := fun i hi => by
        rw [fw (sf i 9) (by unfold sf; omega)]
        have := hW.lt i (by omega)
        exact ⟨this.1, this.2.1⟩
      have hasE : (∃ i, i < n ∧ rd_nm b F f (t_adv b F S).1 i) ↔ rd_has b F w (t_adv b F S).1 := by
        constructor
        · intro ⟨i, hi, g⟩
          exact ⟨i, by omega, (rd_nm_congr fw (by omega) (hW.lt i (by omega)).2.1).mp g⟩
        · intro ⟨i, hi, g⟩
          exact ⟨i, by omega, (rd_nm_congr fw (by omega) (hW.lt i hi).2.1).mpr g⟩
      refine R_fnd hT v1 h0 iN (by omega) fl9 (fun i x hx hi g _ => ⟨fun d => ?_, fun _ => zb_X9_newFlow_53 (V_wr v1 (by decide) (fun _ d => absurd d (by decide)) (fun _ _ Q2 v2 => ⟨fun d => absurd d (by decide), fun _ => err _ Q2 v2 (show ¬ (3 : Int32) = 0 by decide) ?_⟩) fun d => absurd h0 d)⟩) (fun hno => ⟨fun _ => zb_X9_newFlow_53 (V_wr v1 (by decide) (fun _ _ => ⟨fun _ => ?_, fun d => absurd rfl d⟩) (fun _ d => absurd rfl d) fun d => absurd h0 d), fun d => absurd rfl d⟩)
      · exfalso
        rw [ti_eq, hx, ti_n1] at d
        omega
      · show s_name b F w (t_exp b F 1 S) = _
        rw [e1]
        unfold s_name
        rw [pif_pos ⟨k1, k8⟩, pif_pos (hasE.mp ⟨i, hi, g⟩)]
        exact if_pos h0
      · -- the name is laid, letter by letter
        have e2 : f_2 b F w S = t_adv b F S := by
          show s_name b F w (t_exp b F 1 S) = _
          rw [e1]
          unfold s_name
          rw [pif_pos ⟨k1, k8⟩, pif_neg (fun g => by obtain ⟨i, hi, q⟩ := hasE.mpr g; exact hno i hi q)]
        rw [e2] at h
        have hs1 := v1.uk.hs
        have he := rd_e_le (b := b) hs1
        have tk1 := v1.uk.tk h0
        generalize hS1 : t_adv b F S = S1 at h k1 k8 v1 hs1 he tk1
        have h01 : S1.2.1 = 0 := by rw [← hS1]; exact h0
        have hs2 : S1.1 ≤ F := hs1
        have tk2 : Uk b F S1.1 Q1 := tk1
        have he2 : S1.1 ≤ rd_e b F S1.1 ∧ rd_e b F S1.1 ≤ F := ⟨he.1, he.2.1⟩
        have y9 : ((16 + (26 * f 11)) + 9).toInt = (sf n 9 : Nat) := by unfold sf; (first | omega | ((simp (disch := (first | omega | (simp (disch := (first | omega | (simp (disch := (first | omega | (simp (disch := omega) only [ti_add, ti_sub, ti_mul, Int32.reduceToInt, ti_n1, ti_n2, ti_n3, and_self] <;> omega))) only [ti_add, ti_sub, ti_mul, Int32.reduceToInt, ti_n1, ti_n2, ti_n3, and_self] <;> omega))) only [ti_add, ti_sub, ti_mul, Int32.reduceToInt, ti_n1, ti_n2, ti_n3, and_self] <;> omega))) only [ti_le, ti_lt, ti_eq, ti_add, ti_sub, ti_mul, Int32.reduceToInt, ti_n1, ti_n2, ti_n3, ti_cl] at *) <;> omega))
        have y0 : (16 + (26 * f 11)).toInt = (sf n 0 : Nat) := by unfold sf; (first | omega | ((simp (disch := (first | omega | (simp (disch := (first | omega | (simp (disch := (first | omega | (simp (disch := omega) only [ti_add, ti_sub, ti_mul, Int32.reduceToInt, ti_n1, ti_n2, ti_n3, and_self] <;> omega))) only [ti_add, ti_sub, ti_mul, Int32.reduceToInt, ti_n1, ti_n2, ti_n3, and_self] <;> omega))) only [ti_add, ti_sub, ti_mul, Int32.reduceToInt, ti_n1, ti_n2, ti_n3, and_self] <;> omega))) only [ti_le, ti_lt, ti_eq, ti_add, ti_sub, ti_mul, Int32.reduceToInt, ti_n1, ti_n2, ti_n3, ti_cl] at *) <;> omega))
        have e3 : t_exp b F 1 S1 = t_adv b F S1 := by unfold t_exp; rw [if_pos h01, if_pos k1]
        rw [e3] at h
        refine R_len hT.k2 (by rw [mk_30]; exact v1.uk) h01 ⟨ti_in (by rw [y9]; unfold sf; omega), ?_⟩
        rw [ti_at y9, mk_z31]
        have key : ∀ d j : Nat, j + d = rd_e b F S1.1 - S1.1 → ∀ (y : Int32) (g : Nat → Int32), y.toInt = j → ag484 g (rd_wl w b n S1.1 (rd_e b F S1.1 - S1.1) j) → zAt l G Y_X9_newFlow (zEV G Y_X9_newFlow Kf) 84 [(0, vr 30 0), (2, vi (16 + (26 * f 11))), (3, vi y)] [] (mk2 Mz g Q1) 0 0 := by
          intro d
          induction d with
          | zero =>
            intro j hj y g hy hg
            rw [show j = rd_e b F S1.1 - S1.1 by omega] at hg
            have v2 : UV b F Qz (S1, rd_wl w b n S1.1 (rd_e b F S1.1 - S1.1) (rd_e b F S1.1 - S1.1), t) g Q1 := v1.row fun _ => hg
            refine zb_X9_newFlow_84 (R_len hT.k2 (by rw [mk_30]; exact v2.uk) h01 ⟨fun _ => V_adv hT v2 h01 fun Q2 v3 => ?_, fun q => ?_⟩)
            · have h03 : (t_adv b F S1).2.1 = 0 := h01
              generalize t_adv b F S1 = S3 at h v3 h03
              have v3 : UV b F Qz (S3, rd_wl w b n S1.1 (rd_e b F S1.1 - S1.1) (rd_e b F S1.1 - S1.1), t) g Q2 := v3
              have yj : ∀ (c : Int32) (j : Nat), c.toInt = j → j ≤ 6 → ((16 + (26 * f 11)) + c).toInt = (sf n j : Nat) := fun c j hc hj => by
                rw [ti_add (by rw [y0, hc]; unfold sf; omega), y0, hc]
                unfold sf
                omega
              have yv : ∀ (c : Int32) (j : Nat), c.toInt = j → j ≤ 6 → vp_in ((16 + (26 * f 11)) + c) 484 := fun c j hc hj => ti_in (by rw [yj c j hc hj]; unfold sf; omega)
              have ya : ∀ (c : Int32) (j : Nat), c.toInt = j → j ≤ 6 → ((16 + (26 * f 11)) + c).toNatClampNeg = sf n j := fun c j hc hj => ti_at (yj c j hc hj)
              have hfw : f_w b F w n S1.1 S3 = zup (zup (zup (zup (zup (zup (zup (zup (rd_wl w b n S1.1 (rd_e b F S1.1 - S1.1) (rd_e b F S1.1 - S1.1)) (sf n 0) (f_n b F S3).1) (sf n 1) (f_p b F S3).1) (sf n 2) (f_s b F S3).1) (sf n 3) (f_c b F S3).1) (sf n 6) (f_s b F S3).1) (sf n 5) 1) (sf n 4) (f_m b F S3)) 11 (w 11 + 1) := rfl
              rw [hfw] at h
              have wl11 : rd_wl w b n S1.1 (rd_e b F S1.1 - S1.1) (rd_e b F S1.1 - S1.1) 11 = w 11 := rd_wl_o _ _ (by unfold sf; omega) (by unfold sf; omega)
              generalize rd_wl w b n S1.1 (rd_e b F S1.1 - S1.1) (rd_e b F S1.1 - S1.1) = wl at h v3 hg wl11
              refine V_num hT v3 (by decide) (by decide) fun Q3 v4 => ⟨yv 0 0 rfl (by omega), ?_⟩
              have r1 : t_num b F 1 99 S3 = f_n b F S3 := rfl
              have v4 : UV b F Qz ((t_num b F 1 99 S3).2, wl, t) g Q3 := v4
              rw [r1] at v4
              show zCalI l G Y_X9_number 0 0 [vr 30 0, vi 1, vi 50] (zsI (mk2 Mz g Q3) 31 0 ((16 + (26 * f 11)) + 0).toNatClampNeg (t_num b F 1 99 S3).1) _
              rw [r1]
              have q1 : t_num b F 1 50 (f_n b F S3).2 = f_p b F S3 := rfl
              have q2 : t_num b F 1 9 (f_p b F S3).2 = f_s b F S3 := rfl
              have q3 : t_num b F (f_s b F S3).1 9 (f_s b F S3).2 = f_c b F S3 := rfl
              have q8 : f_mk b F S3 = rd_is b F (f_c b F S3).2.1 [109, 97, 114, 107, 115] := rfl
              have q9 : f_8 b F S3 = pif (f_mk b F S3) (t_exp b F 1 (f_c b F S3).2) (f_c b F S3).2 := rfl
              have q10 : f_m b F S3 = pif (f_mk b F S3) 1 0 := rfl
              have q11 : 1 ≤ (f_s b F S3).1.toInt := f_s_lo
              generalize f_n b F S3 = N1 at h v4 q1 ⊢
              rw [ya 0 0 rfl (by omega), mk_z31]
              have g1 := hg.up (j := sf n 0) (x := N1.1)
              refine V_num hT (v4.row fun _ => g1) (by decide) (by decide) fun Q4 v5 => ⟨yv 1 1 rfl (by omega), ?_⟩
              have v5 : UV b F Qz ((t_num b F 1 50 N1.2).2, _, t) _ Q4 := v5
              show zCalI l G Y_X9_number 0 0 [vr 30 0, vi 1, vi 9] (zsI (mk2 Mz (zup g (sf n 0) N1.1) Q4) 31 0 ((16 + (26 * f 11)) + 1).toNatClampNeg (t_num b F 1 50 N1.2).1) _
              rw [q1] at v5 ⊢
              generalize f_p b F S3 = N2 at h v5 q2 ⊢
              rw [ya 1 1 rfl (by omega), mk_z31]
              have g2 := g1.up (j := sf n 1) (x := N2.1)
              refine V_num hT (v5.row fun _ => g2) (by decide) (by decide) fun Q5 v6 => ⟨yv 2 2 rfl (by omega), yv 2 2 rfl (by omega), ?_⟩
              have v6 : UV b F Qz ((t_num b F 1 9 N2.2).2, _, t) _ Q5 := v6
              show zCalI l G Y_X9_number 0 0 [vr 30 0, vi (zmI (zsI (mk2 Mz (zup (zup g (sf n 0) N1.1) (sf n 1) N2.1) Q5) 31 0 ((16 + (26 * f 11)) + 2).toNatClampNeg (t_num b F 1 9 N2.2).1) 31 0 ((16 + (26 * f 11)) + 2).toNatClampNeg), vi 9] (zsI (mk2 Mz (zup (zup g (sf n 0) N1.1) (sf n 1) N2.1) Q5) 31 0 ((16 + (26 * f 11)) + 2).toNatClampNeg (t_num b F 1 9 N2.2).1) _
              rw [q2] at v6 ⊢
              generalize f_s b F S3 = N3 at h v6 q3 q11 ⊢
              rw [ya 2 2 rfl (by omega), mk_z31, mk_31, zup_self]
              have g3 := g2.up (j := sf n 2) (x := N3.1)
              refine V_num hT (v6.row fun _ => g3) (by omega) (by decide) fun Q6 v7 => ⟨yv 3 3 rfl (by omega), yv 2 2 rfl (by omega), yv 6 6 rfl (by omega), yv 5 5 rfl (by omega), ?_⟩
              have v7 : UV b F Qz ((t_num b F N3.1 9 N3.2).2, _, t) _ Q6 := v7
              have e7 : (t_num b F N3.1 9 (N3.2, zup (zup (zup wl (sf n 0) N1.1) (sf n 1) N2.1) (sf n 2) N3.1, t).1).1 = (t_num b F N3.1 9 N3.2).1 := rfl
              rw [e7, q3]
              rw [q3] at v7
              rw [q8] at q9 q10
              generalize f_c b F S3 = N4 at h v7 q9 q10 ⊢
              rw [ya 3 3 rfl (by omega), ya 5 5 rfl (by omega), ya 6 6 rfl (by omega), ya 4 4 rfl (by omega), mk_z31, mk_31, zup_ne _ _ (show ¬ sf n 2 = sf n 3 by unfold sf; omega), zup_self, mk_z31, mk_z31]
              have g6 := ((g3.up (j := sf n 3) (x := N4.1)).up (j := sf n 6) (x := N3.1)).up (j := sf n 5) (x := 1)
              have v8 := v7.row fun _ => g6
              intro a20 h20
              have fin : ∀ (m : Int32) (S8 : Nat × Int32 × Int32) (Q7 : Nat → Int32) (ff : Nat → Int32), ff 11 = w 11 → (S8.2.1 = 0 → m = f_m b F S3) → S8 = f_8 b F S3 → UV b F Qz (S8, zup (zup (zup (zup (zup (zup (zup wl (sf n 0) N1.1) (sf n 1) N2.1) (sf n 2) N3.1) (sf n 3) N4.1) (sf n 6) N3.1) (sf n 5) 1) (sf n 4) m, t) ff Q7 → Kf (zsI (mk2 Mz ff Q7) 31 0 11 ((zmI (mk2 Mz ff Q7) 31 0 11) + 1)) := by
                intro m S8 Q7 ff hff hm hS v9
                rw [mk_31, mk_z31, hff]
                refine h _ Q7 ?_
                rw [← hS]
                refine UV.mk v9.uk v9.fr v9.tl v9.tb (fun g0 => ?_)
                have a9 : ag484 ff (zup (zup (zup (zup (zup (zup (zup wl (sf n 0) N1.1) (sf n 1) N2.1) (sf n 2) N3.1) (sf n 3) N4.1) (sf n 6) N3.1) (sf n 5) 1) (sf n 4) m) := v9.fw g0
                rw [← hm g0]
                exact a9.up
              have v8 : UV b F Qz (N4.2, zup (zup (zup (zup (zup (zup wl (sf n 0) N1.1) (sf n 1) N2.1) (sf n 2) N3.1) (sf n 3) N4.1) (sf n 6) N3.1) (sf n 5) 1, t) _ Q6 := v8
              have e11 : ∀ m : Int32, zup (zup (zup (zup (zup (zup (zup g (sf n 0) N1.1) (sf n 1) N2.1) (sf n 2) N3.1) (sf n 3) N4.1) (sf n 6) N3.1) (sf n 5) 1) (sf n 4) m 11 = w 11 := fun m => by
                rw [zup_ne _ _ (by unfold sf; omega), zup_ne _ _ (by unfold sf; omega), zup_ne _ _ (by unfold sf; omega), zup_ne _ _ (by unfold sf; omega), zup_ne _ _ (by unfold sf; omega), zup_ne _ _ (by unfold sf; omega), zup_ne _ _ (by unfold sf; omega), hg 11 (by omega), wl11]
              refine V_key hT v8 h20 (by decide) (fun r0 ri => zm_X9_one ⟨fun d => absurd d (by decide), fun _ => ⟨yv 4 4 rfl (by omega), ?_⟩⟩) (fun rn => zm_X9_one ⟨fun _ => ⟨yv 4 4 rfl (by omega), ?_⟩, fun d => absurd rfl d⟩)
              · have ri : rd_is b F N4.2.1 [109, 97, 114, 107, 115] := ri
                have r0 : N4.2.2.1 = 0 := r0
                rw [pif_pos ri] at q9 q10
                rw [mk_z31]
                intro a26 h26
                have v9 := v8.row fun _ => g6.up (j := sf n 4) (x := 1)
                refine V_key hT v9 h26 (by decide) (fun _ _ => ⟨fun d => absurd d (by decide), fun _ => V_adv hT v9 r0 fun Q7 v10 => fin 1 (t_adv b F N4.2) Q7 _ (e11 1) (fun _ => q10.symm) ?_ v10⟩) fun rn => absurd ⟨r0, ri⟩ rn
                rw [q9]
                unfold t_exp
                rw [if_pos r0, if_pos ri.1]
              · have rn : ¬ (N4.2.2.1 = 0 ∧ rd_is b F N4.2.1 [109, 97, 114, 107, 115]) := rn
                rw [mk_z31]
                intro a26 h26
                have v9 := v8.row fun _ => g6.up (j := sf n 4) (x := 0)
                refine V_key hT v9 h26 (by decide) (fun r0 ri => absurd ⟨r0, ri⟩ rn) fun _ => ⟨fun _ => fin 0 N4.2 Q6 _ (e11 0) (fun r0 => ?_) ?_ v9, fun d => absurd rfl d⟩
                · rw [q10, pif_neg fun ri => rn ⟨r0, ri⟩]
                · rw [q9]
                  rcases Classical.em (rd_is b F N4.2.1 [109, 97, 114, 107, 115]) with ri | ri
                  · rw [pif_pos ri, t_exp_e fun r0 => rn ⟨r0, ri⟩]
                  · rw [pif_neg ri]
            · exfalso
              rw [ti_le, ti_nI (by omega)] at q
              omega
          | succ d ih =>
            intro j hj y g hy hg
            have v2 : UV b F Qz (S1, rd_wl w b n S1.1 (rd_e b F S1.1 - S1.1) j, t) g Q1 := v1.row fun _ => hg
            have a1 : (((16 + (26 * f 11)) + 9) + 1 + y).toInt = (sf n (10 + j) : Nat) := by
              rw [ti_add (by rw [ti_add (by rw [y9, ti_1]; unfold sf; omega), y9, ti_1]; unfold sf; omega), ti_add (by rw [y9, ti_1]; unfold sf; omega), y9, ti_1]
              unfold sf
              omega
            have a2 : ((zmI (mk2 Mz g Q1) 30 0 11) + y).toInt = ((S1.1 + j : Nat) : Int) := by
              rw [mk_30, tk2.beg, ti_add (by rw [ti_nI (by omega)]; omega), ti_nI (by omega)]
              omega
            refine zb_X9_newFlow_84 (R_len hT.k2 (by rw [mk_30]; exact v2.uk) h01 ⟨fun q => ?_, fun _ => ⟨ti_in (by omega), ti_in (by rw [a1]; unfold sf; omega), ?_⟩⟩)
            · exfalso
              rw [ti_le, ti_nI (by omega)] at q
              omega
            · rw [ti_at a1, ti_at a2, mk_o (by omega) (by omega), hT.byt (S1.1 + j) (by omega), mk_z31]
              exact ih (j + 1) (by omega) (y + 1) _ (ti_inc hy (by omega)) hg.up
        exact key (rd_e b F S1.1 - S1.1) 0 (by omega) 0 _ rfl fw.up
    · show s_name b F w (t_exp b F 1 S) = _
      rw [e1]
      unfold s_name
      rw [pif_neg nk]
      exact if_pos h0
  · rw [mk_31] at c
    have e6 : w 11 = 6 := by rw [← f11]; exact c
    have es : s_flow b F (S, w, t) = (t_fail 5 S, w, t) := if_pos e6
    rw [es] at h
    refine zb_X9_newFlow_20 (V_wr hV (by decide) (fun _ d => absurd d (by decide)) (fun _ _ Q' v => ⟨fun d => absurd d (by decide), fun _ => h f Q' ?_⟩) fun d => absurd h0 d)
    have : t_fail 5 S = (S.1, 5, nI S.1) := if_pos h0
    rw [this]
    exact v
end
