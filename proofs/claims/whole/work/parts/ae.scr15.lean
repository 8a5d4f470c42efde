/-! SCRIPTS: all of one, the reference -/
section
variable {l : Launch} {G : zG} {M M0 Mz M' : zM} {A : Nat} {b : Nat → Int32} {F : Nat} {S S' : Nat × Int32 × Int32} {w f Q Q0 : Nat → Int32} {t : Int32}
variable {n told L a : Nat} {sk r : List Nat} {st : Nat → List Nat} {o z : Nat → Int32} {Y R : SY}
theorem R_closeOne {Kf : zM → Prop} {a : Nat} {r : List Nat} (hY : UY b F Mz Y M) (h0 : Y.1.2.1 = 0) (hJ : YI n Y) (hs : Y.2.2.1 = a :: r) (hk : rd_kd b F Y.1.1 = 5) (h : ∀ M', UY b F Mz (y_close b F Y) M' → Kf M') :
    ∀ M5, zmI M5 30 0 = zup (zup (zmI M 30 0) 27 (nI r.length)) 25 (nI (Y.2.1.2 + 1)) → zmI M5 38 0 = zup (zmI M 38 0) Y.2.1.2 9 → zmI M5 41 0 = zup (zmI M 41 0) a (nI Y.2.1.2) → (∀ s, s = 37 ∨ s = 39 ∨ s = 40 ∨ s = 42 → zmI M5 s 0 = zmI M s 0) → rFr Mz M5 → zCalV l G Y_X9_advance 0 0 [vr 30 0] M5 (fun M6 => zCalV l G Y_X9_takesSign 0 0 [vr 30 0, vi 59] M6 Kf) := by
  intro M5 e30 e38 e41 eo f5
  obtain ⟨hT, hU, hf, hR⟩ := hY
  have hR := hR h0
  rw [hs] at hR
  have ha8 : Y.2.2.2.2.1 a = 8 := (hJ.stk Y.2.1.2 (Nat.le_refl _) a r (by rw [hJ.stL]; exact hs)).2.1
  have hcn := hJ.cnt
  have htl := hJ.tol
  have R5 := hR.close_ (v := M5) (by omega) ha8 e38 e41 (fun s hs => eo s (by omega)) (by rw [e30, zup_self]) (by rw [e30, zup_ne _ _ (by omega), zup_ne _ _ (by omega)]) (by rw [e30, zup_ne _ _ (by omega), zup_self])
  have T5 : Ux b F M5 := Ux.mk hT.hF (fun j hj => by rw [eo 37 (by omega)]; exact hT.byt j hj)
  have U5 : UK b F Y.1 (zmI M5 30 0) (zmI M5 30 0) := by
    rw [e30]
    exact (hU.put (by omega)).put (by omega)
  have e5 : t_adv b F Y.1 = t_exp b F 5 Y.1 := by
    unfold t_exp
    rw [if_pos h0, if_pos hk]
  refine R_advT T5 U5 h0 fun Q6 k6 => ?_
  rw [e5] at k6
  have T6 : Ux b F (zsIr M5 30 0 Q6) := T5.set Q6
  have U6 : UK b F (t_exp b F 5 Y.1) (zmI (zsIr M5 30 0 Q6) 30 0) (zmI (zsIr M5 30 0 Q6) 30 0) := by rw [zmU]; exact k6.self
  have f6 : rFr Mz (zsIr M5 30 0 Q6) := f5.k fun j g1 _ => k6.fr j g1
  have R6 := R5.k k6.fr
  generalize zsIr M5 30 0 Q6 = M6 at T6 U6 f6 R6 ⊢
  refine R_takT (k := 3) T6 U6 (by omega) rfl fun Q7 k7 => h _ ⟨T6.set Q7, by rw [zmU]; exact k7.self, f6.k fun j g1 _ => k7.fr j g1, fun _ => ?_⟩
  have R7 := R6.k k7.fr
  show UR Y.2.1.1 (Y.2.1.2 + 1) Y.2.2.1.tail (zup Y.2.2.2.2.1 Y.2.1.2 9) (zup Y.2.2.2.2.2.1 Y.2.1.2 (nI (Y.2.2.1.headD 0))) (zup (zup Y.2.2.2.2.2.2 Y.2.1.2 0) (Y.2.2.1.headD 0) (nI (Y.2.1.2 + 1))) _
  rw [hs]
  exact R7
theorem R_closes {Kf : zM → Prop} (hn : (w 11).toInt = n) (h6 : n ≤ 6) : ∀ (d : Nat) (Y : SY) (M : zM), UY b F Mz Y M → (Y.1.2.1 = 0 → YI n Y ∧ F < Y.1.1 + d) →
    (∀ d' Y' M', d' ≤ d → y_loop b F w d' Y' = y_loop b F w d Y → UY b F Mz Y' M' → (Y'.1.2.1 = 0 → YI n Y' ∧ F < Y'.1.1 + d' ∧ ¬ (rd_kd b F Y'.1.1 = 5 ∧ 0 < Y'.2.2.1.length)) → Kf M') → zAt l G Y_X9_closes (zEV G Y_X9_closes Kf) 0 [(0, vr 30 0)] [] M 0 0 := by
  intro d
  induction d with
  | zero =>
    intro Y M hY hI h
    have e0 : ¬ Y.1.2.1 = 0 := fun g => by
      have := (hI g).2
      have := hY.2.1.hs
      omega
    have out := h 0 Y M (Nat.le_refl _) rfl hY fun g => absurd g e0
    refine zb_X9_closes_0 ⟨fun _ => out, fun _ => R_sgnT (k := 5) hY.1 hY.2.1 (by omega) rfl (fun g _ => absurd g e0) fun _ => ⟨fun _ => out, fun d => absurd rfl d⟩⟩
  | succ d ih =>
    intro Y M hY hI h
    have hY2 := hY
    obtain ⟨hT, hU, hf, hR⟩ := hY2
    rcases Classical.em (Y.1.2.1 = 0) with e0 | e0
    · obtain ⟨hJ, hFd⟩ := hI e0
      have hR := hR e0
      have hcn := hJ.cnt
      have htl := hJ.tol
      have hdp := hJ.dep
      have out : ¬ (rd_kd b F Y.1.1 = 5 ∧ 0 < Y.2.2.1.length) → Kf M := fun q => h (d + 1) Y M (Nat.le_refl _) rfl hY fun _ => ⟨hJ, hFd, q⟩
      refine zb_X9_closes_0 ⟨fun g => out fun q => ?_, fun g => R_sgnT (k := 5) hT hU (by omega) rfl (fun _ k5 => ⟨fun d => absurd d (by decide), fun _ => ?_⟩) fun q => ⟨fun _ => out fun p => q ⟨e0, p.1⟩, fun d => absurd rfl d⟩⟩
      · rw [hR.dep, ti_le, ti_nI (by omega), ti_0] at g
        omega
      · rw [hR.dep, ti_le, ti_nI (by omega), ti_0] at g
        have hs0 : 0 < Y.2.2.1.length := by omega
        generalize hs : Y.2.2.1 = s at hs0
        cases s with
        | nil => exact absurd hs0 (by decide)
        | cons a r =>
          have el : Y.2.2.1.length = r.length + 1 := by rw [hs]; rfl
          have ha : a < Y.2.1.2 := (hJ.stk Y.2.1.2 (Nat.le_refl _) a r (by rw [hJ.stL]; exact hs)).1
          have d1 : nI Y.2.2.1.length - 1 = nI r.length := nI_ofT (by
            rw [ti_sub (by rw [ti_nI (by omega), ti_1]; omega), ti_nI (by omega), ti_1]
            omega)
          have v27 : zmI (zsI M 30 0 27 (nI r.length)) 30 0 27 = nI r.length := by rw [zmU, zup_self]
          rw [hR.dep, d1, v27]
          refine ⟨ti_in (by rw [ti_nI (by omega)]; omega), ?_⟩
          rw [ti_at (ti_nI (show r.length < 2147483648 by omega))]
          have v42 : zmI (zsI M 30 0 27 (nI r.length)) 42 0 r.length = nI a := by
            rw [zmO _ _ _ _ _ _ (by omega), hR.opn r.length (by omega), el, hs]
            show nI ((a :: r).getD (r.length + 1 - 1 - r.length) 0) = nI a
            rw [show r.length + 1 - 1 - r.length = 0 by omega]
            rfl
          rw [v42]
          refine ⟨ti_in (by rw [ti_nI (by omega)]; omega), ?_⟩
          rw [ti_at (ti_nI (show a < 2147483648 by omega))]
          have v25 : zmI (zsI M 30 0 27 (nI r.length)) 30 0 25 = nI Y.2.1.2 := by
            rw [zmU, zup_ne _ _ (by omega)]; exact hR.len
          rw [v25]
          have v25' : zmI (zsI (zsI M 30 0 27 (nI r.length)) 41 0 a (nI Y.2.1.2)) 30 0 25 = nI Y.2.1.2 := by
            rw [zmO _ _ _ _ _ _ (by omega)]; exact v25
          rw [v25']
          refine ⟨ti_in (by rw [ti_nI (by omega)]; omega), ?_⟩
          rw [ti_at (ti_nI (show Y.2.1.2 < 2147483648 by omega))]
          have v25'' : zmI (zsI (zsI (zsI M 30 0 27 (nI r.length)) 41 0 a (nI Y.2.1.2)) 38 0 Y.2.1.2 9) 30 0 25 = nI Y.2.1.2 := by
            rw [zmO _ _ _ _ _ _ (by omega)]; exact v25'
          rw [v25'', show nI Y.2.1.2 + 1 = nI (Y.2.1.2 + 1) from nI_ofT (ti_inc (ti_nI (by omega)) (by omega))]
          have nx : y_loop b F w (d + 1) Y = y_loop b F w d (y_close b F Y) := by
            have e1 : y_step b F w Y = y_close b F Y := if_pos ⟨k5, by omega⟩
            show (if _ then _ else _) = _
            rw [if_pos ⟨e0, fun q => by omega⟩, e1]
          refine R_closeOne hY e0 hJ hs k5 (fun M7 hY7 => ih (y_close b F Y) M7 hY7 (fun g7 => ?_) fun d' Y' M' q1 q2 q3 q4 => h d' Y' M' (by omega) (by rw [nx]; exact q2) q3 q4) _ ?_ ?_ ?_ (fun s hs => ?_) ?_
          · have p := y_close_J hJ (by omega) g7
            exact ⟨p.1, by omega⟩
          · rw [zmU, zmO _ _ _ _ _ _ (by omega), zmO _ _ _ _ _ _ (by omega), zmU]
          · rw [zmO _ _ _ _ _ _ (by omega), zmU, zmO _ _ _ _ _ _ (by omega), zmO _ _ _ _ _ _ (by omega)]
          · rw [zmO _ _ _ _ _ _ (by omega), zmO _ _ _ _ _ _ (by omega), zmU, zmO _ _ _ _ _ _ (by omega)]
          · rw [zmO _ _ _ _ _ _ (by omega), zmO _ _ _ _ _ _ (by omega), zmO _ _ _ _ _ _ (by omega), zmO _ _ _ _ _ _ (by omega)]
          · exact (((hf.v (by omega)).I (by omega)).I (by omega)).v (by omega)
    · have out := h (d + 1) Y M (Nat.le_refl _) rfl hY fun g => absurd g e0
      refine zb_X9_closes_0 ⟨fun _ => out, fun _ => R_sgnT (k := 5) hT hU (by omega) rfl (fun g _ => absurd g e0) fun _ => ⟨fun _ => out, fun d => absurd rfl d⟩⟩
theorem R_scriptLoop {Kf : zM → Prop} (hw : zmI Mz 31 0 = w) (hn : (w 11).toInt = n) (h6 : n ≤ 6) (hl : ∀ i, i < n → 0 ≤ (w (sf i 9)).toInt ∧ (w (sf i 9)).toInt ≤ 8) (hK : ∀ M', UY b F Mz R M' → YE b F n R → Kf M') :
    ∀ (N d : Nat) (Y : SY) (M : zM), d ≤ N → UY b F Mz Y M → (Y.1.2.1 = 0 → YI n Y ∧ F < Y.1.1 + d ∧ ¬ (rd_kd b F Y.1.1 = 5 ∧ 0 < Y.2.2.1.length)) → y_loop b F w d Y = R → zAt l G Y_X9_script (zEV G Y_X9_script Kf) 29 [(0, vr 30 0)] [] M 0 0 := by
  intro N
  induction N with
  | zero =>
    intro d Y M hN hY hI hE
    have e0 : ¬ Y.1.2.1 = 0 := fun g => by
      have := (hI g).2.1
      have := hY.2.1.hs
      omega
    have eR : Y = R := by rw [← hE]; exact (y_loop_e e0).symm
    have l67 : ∀ s0, zAt l G Y_X9_script (zEV G Y_X9_script Kf) 67 [] [vi s0, vr 30 0] M 0 0 := fun s0 => zb_X9_script_67 (R_wrT hY.2.1 (by decide) (fun g => absurd g e0) (fun g => absurd g e0) fun _ => hK M (by rw [← eR]; exact hY) fun g => absurd (by rw [eR]; exact g) e0)
    exact zb_X9_script_29 ⟨fun _ => zb_X9_script_54 ⟨fun _ => l67 _, fun _ => l67 _⟩, fun g => absurd (by rw [← g]; exact hY.2.1.er.symm) e0⟩
  | succ N ih =>
    intro d Y M hN hY hI hE
    have hY2 := hY
    obtain ⟨hT, hU, hf, hR⟩ := hY2
    rcases Classical.em (Y.1.2.1 = 0) with e0 | e0
    · obtain ⟨hJ, hFd, h5⟩ := hI e0
      have hR := hR e0
      have hcn := hJ.cnt
      have htl := hJ.tol
      have hdp := hJ.dep
      have hs := hU.hs
      obtain ⟨d1, rfl⟩ : ∃ d1, d = d1 + 1 := ⟨d - 1, by omega⟩
      have t1 := (rd_t1 (rd_kd_lt b F Y.1.1)).2.2.1
      have etok : zmI M 30 0 13 = nI (rd_t (rd_kd b F Y.1.1)) := (hU.tk e0).tok
      refine zb_X9_script_29 ⟨fun g => absurd (hU.er.trans e0) g, fun _ => ⟨fun g => ?_, fun g => ?_⟩⟩
      · rw [etok] at g
        have k0 := t1.mp g
        refine zb_X9_script_54 ⟨fun q => ?_, fun q => ?_⟩
        · rw [hR.dep, ti_le, ti_nI (by omega), ti_0] at q
          have s0 : Y.2.2.1.length = 0 := by omega
          have eR : Y = R := by
            rw [← hE]
            exact (if_neg (fun g' => g'.2 ⟨k0, s0⟩)).symm
          exact zb_X9_script_67 (R_wrT hU (by decide) (fun _ _ => hK M (by rw [← eR]; exact hY) fun _ => by rw [← eR]; exact ⟨hJ, k0, List.length_eq_zero_iff.mp s0⟩) (fun _ d => absurd rfl d) fun g' => absurd e0 g')
        · rw [hR.dep, ti_le, ti_nI (by omega), ti_0] at q
          have nk : o_kind b F Y.1.1 = -1 := Classical.byContradiction fun g' => by
            have := (o_kind_rng b F Y.1.1).2 g'
            omega
          have ew : y_word b F Y.2.1.1 Y.1 = (Y.1.1, 1, nI Y.1.1) := by
            unfold y_word
            rw [if_pos nk]
            have : t_fail 1 Y.1 = (Y.1.1, 1, nI Y.1.1) := if_pos e0
            rw [this]
            exact t_exp_e (show ¬ (1 : Int32) = 0 by decide)
          have n1 : ¬ (y_word b F Y.2.1.1 Y.1).2.1 = 0 := by rw [ew]; exact (show ¬ (1 : Int32) = 0 by decide)
          have eo : (y_order b F w Y).1 = (Y.1.1, 1, nI Y.1.1) := by rw [y_order_w n1, ew]
          have n2 : ¬ (y_order b F w Y).1.2.1 = 0 := by rw [eo]; exact (show ¬ (1 : Int32) = 0 by decide)
          have eR : y_order b F w Y = R := by
            rw [← hE]
            have e1 : y_step b F w Y = y_order b F w Y := if_neg fun q => by omega
            show _ = (if _ then _ else _)
            rw [if_pos ⟨e0, fun q => by omega⟩, e1, y_loop_e n2]
          refine zb_X9_script_67 (R_wrT hU (by decide) (fun _ d => absurd d (by decide)) (fun _ _ Q k => hK _ ⟨hT.set Q, by rw [← eR, eo, zmU]; exact k.self, hf.k fun j g1 _ => k.fr j g1, fun g' => ?_⟩ fun g' => ?_) fun g' => absurd e0 g')
          · rw [← eR] at g'
            exact absurd g' n2
          · rw [← eR] at g'
            exact absurd g' n2
      · rw [etok] at g
        have k0 : ¬ rd_kd b F Y.1.1 = 0 := fun q => g (t1.mpr q)
        have eR : y_loop b F w d1 (y_order b F w Y) = R := by
          rw [← hE]
          have e1 : y_step b F w Y = y_order b F w Y := if_neg h5
          show _ = (if _ then _ else _)
          rw [if_pos ⟨e0, fun q => k0 q.1⟩, e1]
        refine R_order hY e0 hJ hw hn h6 hl fun M1 hY1 => zm_X9_closes (R_closes hn h6 d1 (y_order b F w Y) M1 hY1 (fun g1 => ?_) fun d' Y' M' q1 q2 q3 q4 => ih d' Y' M' (by omega) q3 q4 (by rw [q2]; exact eR))
        have p := y_order_J hn h6 hJ g1
        exact ⟨p.1, by omega⟩
    · have eR : Y = R := by rw [← hE]; exact (y_loop_e e0).symm
      have l67 : ∀ s0, zAt l G Y_X9_script (zEV G Y_X9_script Kf) 67 [] [vi s0, vr 30 0] M 0 0 := fun s0 => zb_X9_script_67 (R_wrT hU (by decide) (fun g => absurd g e0) (fun g => absurd g e0) fun _ => hK M (by rw [← eR]; exact hY) fun g => absurd (by rw [eR]; exact g) e0)
      exact zb_X9_script_29 ⟨fun _ => zb_X9_script_54 ⟨fun _ => l67 _, fun _ => l67 _⟩, fun g => absurd (by rw [← g]; exact hU.er.symm) e0⟩
theorem R_script {Kf : zM → Prop} (hT : Ux b F M) (hl0 : zmI M 30 0 10 = nI F) (hw : zmI M 31 0 = w) (hn : (w 11).toInt = n) (h6 : n ≤ 6) (hl : ∀ i, i < n → 0 ≤ (w (sf i 9)).toInt ∧ (w (sf i 9)).toInt ≤ 8) (hK : ∀ M', UY b F M (y_all b F w) M' → YE b F n (y_all b F w) → Kf M') : zCalV l G Y_X9_script 0 0 [vr 30 0] M Kf := by
  have e30 : zmI (zsI (zsI (zsI (zsI (zsI M 30 0 12 0) 30 0 15 0) 30 0 25 0) 30 0 26 0) 30 0 27 0) 30 0 = zup (zup (zup (zup (zup (zmI M 30 0) 12 0) 15 0) 25 0) 26 0) 27 0 := by
    rw [zsU M 30 0, zsU M 30 0, zsU M 30 0, zsU M 30 0, zmU]
  have f5 : rFr M (zsI (zsI (zsI (zsI (zsI M 30 0 12 0) 30 0 15 0) 30 0 25 0) 30 0 26 0) 30 0 27 0) := by
    have f0 : rFr M M := ⟨fun _ _ _ => rfl, rfl, fun _ _ _ => rfl⟩
    exact ((((f0.k (fun j g _ => zup_ne _ _ (by omega))).k (fun j g _ => zup_ne _ _ (by omega))).v (by omega)).v (by omega)).v (by omega)
  have T5 : Ux b F (zsI (zsI (zsI (zsI (zsI M 30 0 12 0) 30 0 15 0) 30 0 25 0) 30 0 26 0) 30 0 27 0) := ((((hT.set _).set _).set _).set _).set _
  refine zm_X9_script ?_
  generalize zsI (zsI (zsI (zsI (zsI M 30 0 12 0) 30 0 15 0) 30 0 25 0) 30 0 26 0) 30 0 27 0 = M5 at e30 f5 T5 ⊢
  refine R_adv (e := 0) (ea := -1) (Q0 := zmI M5 30 0) T5 ?_ ?_ (Nat.zero_le _) ?_ (fun _ _ => rfl) fun Q k => ?_
  · rw [e30, zup_ne _ _ (by omega), zup_ne _ _ (by omega), zup_ne _ _ (by omega), zup_ne _ _ (by omega), zup_ne _ _ (by omega)]; exact hl0
  · rw [e30, zup_ne _ _ (by omega), zup_ne _ _ (by omega), zup_ne _ _ (by omega), zup_ne _ _ (by omega), zup_self]; rfl
  · rw [e30, zup_ne _ _ (by omega), zup_ne _ _ (by omega), zup_ne _ _ (by omega), zup_self]
  refine R_scriptLoop hw hn h6 hl hK 501 501 (y_0 b F) _ (Nat.le_refl _) ⟨T5.set Q, by rw [zmU]; exact k.self, f5.k fun j g1 _ => k.fr j g1, fun _ => ?_⟩ (fun _ => ⟨y_0_I, by have := hT.hF; omega, fun q => absurd q.2 (by show ¬ 0 < 0; omega)⟩) rfl
  refine UR.mk ?_ ?_ ?_ (fun k hk => absurd (show k < 0 from hk) (by omega)) (fun i hi => absurd (show i < 0 from hi) (by omega)) (fun k hk => absurd (show k < 0 from hk) (by omega))
  · rw [zmU, k.fr 25 (by omega), e30, zup_ne _ _ (by omega), zup_ne _ _ (by omega), zup_self]; rfl
  · rw [zmU, k.fr 26 (by omega), e30, zup_ne _ _ (by omega), zup_self]; rfl
  · rw [zmU, k.fr 27 (by omega), e30, zup_self]; rfl
end
