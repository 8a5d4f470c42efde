/-! SETUPS: all of one, the reference -/
section
variable {l : Launch} {G : zG} {M Mz : zM} {A : Nat} {b : Nat → Int32} {F : Nat} {S S' : Nat × Int32 × Int32} {w w' f f' Qz Q Q0 : Nat → Int32} {t : Int32} {X : SX}
theorem t_num_hi {lo hi : Int32} (h : lo.toInt ≤ hi.toInt) : (t_num b F lo hi S).1.toInt ≤ hi.toInt := by
  unfold t_num
  split
  · split
    · split
      · next c => exact ti_le.mp c.2
      · exact h
    · exact h
  · exact h
theorem V_stmt {Kf : zM → Prop} (hT : Ux b F Mz) (hV : UV b F Qz (S, w, t) f Q) (h0 : S.2.1 = 0) (hW : WS w) (h : ∀ f' Q', UV b F Qz (s_stmt b F (S, w, t)) f' Q' → Kf (mk2 Mz f' Q')) : zCalV l G Y_X9_statement 0 0 [vr 30 0] (mk2 Mz f Q) Kf := by
  have key : ∀ {tt : List Nat} {Kg : Int32 → zM → Prop} {a : Nat}, zmT (mk2 Mz f Q) a = some tt → tt.length < 1000 → (rd_is b F S.1 tt → Kg 1 (mk2 Mz f Q)) → (¬ rd_is b F S.1 tt → Kg 0 (mk2 Mz f Q)) → zCalI l G Y_X9_isKey 0 0 [vr 30 0, va a] (mk2 Mz f Q) Kg := fun ht hl h1 h2 => V_key hT hV ht hl (fun _ g => h1 g) (fun n => h2 fun g => n ⟨h0, g⟩)
  unfold s_stmt at h
  refine zm_X9_statement fun a1 t1 => key t1 (by decide) (fun q => ⟨fun d => absurd d (by decide), fun _ => ?_⟩) (fun q1 => ⟨fun _ => ?_, fun d => absurd rfl d⟩)
  · rw [show ((S, w, t) : SX).1.1 = S.1 from rfl, pif_pos q] at h
    have b1 : s_once b F 1 t S = s_once b F (nI (2 ^ 0)) t S := rfl
    refine zm_X9_limits (V_once (p := 0) hT hV h0 q.1 (by omega) fun Q1 v1 => ⟨fun g => ?_, fun g => ?_⟩)
    · have v1 : UV b F Qz (s_once b F 1 t S, w, t ||| 1) f Q1 := v1
      refine V_num hT v1 (by decide) (by decide) fun Q2 v2 => ?_
      have v2 : UV b F Qz ((t_num b F 0 39 (s_once b F 1 t S)).2, w, t ||| 1) f Q2 := v2
      have e2 : zmI (zsI (mk2 Mz f Q2) 31 0 2 (t_num b F 0 39 (s_once b F 1 t S, w, t ||| 1).1).1) 31 0 2 = (t_num b F 0 39 (s_once b F 1 t S)).1 := by
        rw [mk_z31, mk_31, zup_self]
      rw [e2, mk_z31]
      have v3 : UV b F Qz ((t_num b F 0 39 (s_once b F 1 t S)).2, zup w 2 (t_num b F 0 39 (s_once b F 1 t S)).1, t ||| 1) (zup f 2 (t_num b F 0 39 (s_once b F 1 t S)).1) Q2 := v2.row fun g0 => ag484.up (v2.fw g0)
      have lo := t_num_lo (b := b) (F := F) (S := s_once b F 1 t S) (lo := 0) (hi := 39)
      have hi := t_num_hi (b := b) (F := F) (S := s_once b F 1 t S) (lo := 0) (hi := 39) (by decide)
      rw [ti_0] at lo
      rw [show (39 : Int32).toInt = 39 from rfl] at hi
      refine V_num hT v3 (by rw [ti_add (by rw [ti_1]; omega), ti_1]; omega) (by decide) fun Q4 v4 => ?_
      rw [mk_z31]
      exact h _ Q4 (v4.row fun g0 => ag484.up (v4.fw g0))
    · rw [mk_30, v1.uk.er] at g
      have g : ¬ (s_once b F 1 t S).2.1 = 0 := g
      refine h f Q1 ?_
      have e : (s_lim b F (S, w, t)).1 = s_once b F 1 t S := by
        show (t_num b F ((t_num b F 0 39 (s_once b F 1 t S)).1 + 1) 40 (t_num b F 0 39 (s_once b F 1 t S)).2).2 = s_once b F 1 t S
        rw [t_num_e g, t_num_e g]
      have := v1.any (f' := f) (Y := (s_lim b F (S, w, t)).2) g
      rw [show ((s_once b F (nI (2 ^ 0)) ((S, w, t) : SX).2.2 ((S, w, t) : SX).1, ((S, w, t) : SX).2.1, ((S, w, t) : SX).2.2 ||| nI (2 ^ 0)) : SX).1 = (s_lim b F (S, w, t)).1 from e.symm] at this
      exact this
  rw [show ((S, w, t) : SX).1.1 = S.1 from rfl, pif_neg q1] at h
  refine fun a2 t2 => key t2 (by decide) (fun q => ⟨fun d => absurd d (by decide), fun _ => ?_⟩) (fun q2 => ⟨fun _ => ?_, fun d => absurd rfl d⟩)
  · rw [pif_pos q] at h
    exact V_set (p := 1) (j := 4) hT hV h0 q.1 (by omega) (by omega) (by decide) h
  rw [pif_neg q2] at h
  refine fun a3 t3 => key t3 (by decide) (fun q => ⟨fun d => absurd d (by decide), fun _ => ?_⟩) (fun q3 => ⟨fun _ => ?_, fun d => absurd rfl d⟩)
  · rw [pif_pos q] at h
    exact V_set (p := 2) (j := 5) hT hV h0 q.1 (by omega) (by omega) (by decide) h
  rw [pif_neg q3] at h
  refine fun a4 t4 => key t4 (by decide) (fun q => ⟨fun d => absurd d (by decide), fun _ => ?_⟩) (fun q4 => ⟨fun _ => ?_, fun d => absurd rfl d⟩)
  · rw [pif_pos q] at h
    exact V_set (p := 3) (j := 6) hT hV h0 q.1 (by omega) (by omega) (by decide) h
  rw [pif_neg q4] at h
  refine fun a5 t5 => key t5 (by decide) (fun q => ⟨fun d => absurd d (by decide), fun _ => ?_⟩) (fun q5 => ⟨fun _ => ?_, fun d => absurd rfl d⟩)
  · rw [pif_pos q] at h
    exact V_set (p := 4) (j := 13) hT hV h0 q.1 (by omega) (by omega) (by decide) h
  rw [pif_neg q5] at h
  refine fun a6 t6 => key t6 (by decide) (fun q => ⟨fun d => absurd d (by decide), fun _ => ?_⟩) (fun q6 => ⟨fun _ => ?_, fun d => absurd rfl d⟩)
  · rw [pif_pos q] at h
    exact V_flow hT hV h0 q.1 hW h
  · rw [pif_neg q6] at h
    refine V_wr hV (by decide) (fun _ d => absurd d (by decide)) (fun _ _ Q' v => h f Q' ?_) fun d => absurd h0 d
    have : t_fail 1 S = (S.1, 1, nI S.1) := if_pos h0
    rw [show ((S, w, t) : SX).1 = S from rfl, this]
    exact v
theorem s_loop_e {d : Nat} (h : ¬ X.1.2.1 = 0) : s_loop b F d X = X := by
  cases d with
  | zero => rfl
  | succ d =>
    unfold s_loop
    rw [if_neg (fun g => h g.1)]
theorem V_loop0 {Kf : zM → Prop} (hT : Ux b F Mz) (hV : UV b F Qz X f Q) (h0 : X.1.2.1 = 0 → F ≤ X.1.1) (h : Kf (mk2 Mz f Q)) : zAt l G Y_X9_setup (zEV G Y_X9_setup Kf) 77 [(0, vr 30 0)] [] (mk2 Mz f Q) 0 0 := by
  have kd0 : X.1.2.1 = 0 → rd_kd b F X.1.1 = 0 := fun g => by
    have := h0 g
    unfold rd_kd
    rw [if_pos (by omega)]
  have wr : ∀ v : Int32, (X.1.2.1 = 0 → v = 0) → zAt l G Y_X9_setup (zEV G Y_X9_setup Kf) 110 [] [vi v, vr 30 0] (mk2 Mz f Q) 0 0 := fun v hv => zb_X9_setup_110 (V_wr hV (by decide) (fun _ _ => h) (fun g d => absurd (hv g) d) fun _ => h)
  refine zb_X9_setup_77 (R_sgnT (k := 3) (S := X.1) (Q0 := Q) hT.k2 (by rw [mk_30]; exact hV.uk) (by omega) rfl (fun g q => absurd ((kd0 g).symm.trans q) (by decide)) fun _ => ⟨fun _ => ⟨fun _ => wr 0 fun _ => rfl, fun q => wr 1 fun g => ?_⟩, fun d => absurd rfl d⟩)
  exfalso
  rw [mk_30, (hV.uk.tk g).tok] at q
  exact q ((rd_t1 (rd_kd_lt b F X.1.1)).2.2.1.mpr (kd0 g))
theorem V_loop {Kf : zM → Prop} (hT : Ux b F Mz) : ∀ (d i : Nat) (X : SX) (f Q : Nat → Int32), i + d = 500 → UV b F Qz X f Q → (X.1.2.1 = 0 → OKZ X.2.1) → (X.1.2.1 = 0 → 2 * i ≤ X.1.1) → (∀ f' Q', UV b F Qz (s_loop b F d X) f' Q' → Kf (mk2 Mz f' Q')) → zAt l G Y_X9_setup (zEV G Y_X9_setup Kf) 77 [(0, vr 30 0)] [] (mk2 Mz f Q) 0 0 := by
  intro d
  induction d with
  | zero =>
    intro i X f Q hi hV ho h2 h
    have hF := hT.hF
    exact V_loop0 hT hV (fun g => by have := h2 g; omega) (h f Q hV)
  | succ d ih =>
    intro i X f Q hi hV ho h2 h
    obtain ⟨S, w, t⟩ := X
    have hF := hT.hF
    have hs := hV.uk.hs
    rcases Classical.em (S.2.1 = 0) with g | g
    · have hk := hV.uk.tk g
      have t1 := rd_t1 (rd_kd_lt b F S.1)
      unfold s_loop at h
      rcases Classical.em (rd_kd b F S.1 = 0) with c | c
      · rw [if_neg (fun q => q.2 c)] at h
        refine zb_X9_setup_77 (R_sgnT (k := 3) (S := S) (Q0 := Q) hT.k2 (by rw [mk_30]; exact hV.uk) (by omega) rfl (fun _ q => absurd (c.symm.trans q) (by decide)) fun _ => ⟨fun _ => ⟨fun _ => zb_X9_setup_110 (V_wr hV (by decide) (fun _ _ => h f Q hV) (fun _ d => absurd rfl d) fun d => absurd g d), fun q => ?_⟩, fun d => absurd rfl d⟩)
        rw [mk_30, hk.tok] at q
        exact absurd (t1.2.2.1.mpr c) q
      · have cc : ((S, w, t) : SX).1.2.1 = 0 ∧ ¬ rd_kd b F ((S, w, t) : SX).1.1 = 0 := ⟨g, c⟩
        rw [if_pos cc] at h
        have hlt := rd_kd_F c
        have h2g : 2 * i ≤ S.1 := h2 g
        rcases Classical.em (rd_kd b F S.1 = 3) with c3 | c3
        · have e3 : t_exp b F 3 S = t_adv b F S := by unfold t_exp; rw [if_pos g, if_pos c3]
          have es : s_step b F (S, w, t) = s_stmt b F (t_adv b F S, w, t) := by
            show s_stmt b F (t_exp b F 3 S, w, t) = _
            rw [e3]
          refine zb_X9_setup_77 (R_sgnT (k := 3) (S := S) (Q0 := Q) hT.k2 (by rw [mk_30]; exact hV.uk) (by omega) rfl (fun _ _ => ⟨fun d => absurd d (by decide), fun _ => V_adv hT hV g fun Q1 v1 => V_stmt hT v1 g (ho g).ws fun f2 Q2 v2 => ?_⟩) fun n => absurd ⟨g, c3⟩ n)
          rw [← es] at v2
          refine ih (i + 1) (s_step b F (S, w, t)) f2 Q2 (by omega) v2 (fun q => ?_) (fun q => ?_) h
          · rw [es] at q ⊢
            exact OKZ_stmt (ho g) q
          · have := (s_step_ge q).2 hlt
            have : S.1 + 2 ≤ (s_step b F (S, w, t)).1.1 := this
            omega
        · have e3 : t_exp b F 3 S = (S.1, 1, nI S.1) := by unfold t_exp; rw [if_pos g, if_neg c3]
          have n1 : ¬ ((S.1, 1, nI S.1) : Nat × Int32 × Int32).2.1 = 0 := show ¬ (1 : Int32) = 0 by decide
          have es : (s_step b F (S, w, t)).1 = (S.1, 1, nI S.1) := by
            show (s_stmt b F (t_exp b F 3 S, w, t)).1 = _
            rw [e3]
            exact s_stmt_e n1 (w, t)
          have n2 : ¬ (s_step b F (S, w, t)).1.2.1 = 0 := by rw [es]; exact n1
          rw [s_loop_e n2] at h
          refine zb_X9_setup_77 (R_sgnT (k := 3) (S := S) (Q0 := Q) hT.k2 (by rw [mk_30]; exact hV.uk) (by omega) rfl (fun _ q => absurd q c3) fun _ => ⟨fun _ => ⟨fun q => ?_, fun _ => zb_X9_setup_110 (V_wr hV (by decide) (fun _ d => absurd d (by decide)) (fun _ _ Q' v => h f Q' ?_) fun d => absurd g d)⟩, fun d => absurd rfl d⟩)
          · rw [mk_30, hk.tok] at q
            exact absurd (t1.2.2.1.mp q) c
          · have := v.any (f' := f) (Y := (s_step b F (S, w, t)).2) n1
            have e5 : (((S.1, 1, nI S.1), (s_step b F (S, w, t)).2) : SX) = s_step b F (S, w, t) := by
              rw [← es]
            have this : UV b F Qz ((S.1, 1, nI S.1), (s_step b F (S, w, t)).2) f Q' := this
            rw [e5] at this
            exact this
    · rw [s_loop_e g] at h
      exact V_loop0 hT hV (fun d => absurd d g) (h f Q hV)
end
