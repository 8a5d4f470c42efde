/-! SETUPS: statements, the class -/
section
variable {l : Launch} {G : zG} {M M0 : zM} {A : Nat} {b : Nat → Int32} {F : Nat} {S S' : Nat × Int32 × Int32} {w w' : Nat → Int32} {t : Int32}
variable {n a : Nat} {tt : List Nat} {g : Nat → Int32}
/-- what a flow's reading went through, where it had no error -/
theorem s_flow_0 {n : Nat} (h : (f_8 b F (t_exp b F 1 (f_2 b F w S))).2.1 = 0) : S.2.1 = 0 ∧ rd_kd b F (f_2 b F w S).1 = 1 ∧ rd_e b F (f_2 b F w S).1 - (f_2 b F w S).1 ≤ 8 ∧ ¬ rd_has b F w (f_2 b F w S).1 := by
  have h1 := t_exp_0 (f_8_0 h).2.2.2.2
  obtain ⟨q1, q2, q3, q4, q5⟩ := s_name_0 h1
  have e : (f_2 b F w S).1 = (t_exp b F 1 S).1 := by
    show (s_name b F w (t_exp b F 1 S)).1 = _
    rw [q5]
  rw [e]
  exact ⟨t_exp_0 q1, q2, q3, q4⟩
theorem s_name_1 : (s_name b F w S).1 = S.1 := by
  unfold s_name pif t_fail
  repeat' split
  all_goals rfl
theorem s_flow_e (h : ¬ S.2.1 = 0) (X : (Nat → Int32) × Int32) : (s_flow b F (S, X)).1 = S := by
  unfold s_flow
  split
  · exact t_fail_e h
  · show f_8 b F (t_exp b F 1 (s_name b F X.1 (t_exp b F 1 S))) = S
    rw [t_exp_e h, s_name_e h, t_exp_e h, f_8_e h]
theorem WS_flow (hW : WS w) (hne : ¬ w 11 = 6) (h0 : (f_8 b F (t_exp b F 1 (f_2 b F w S))).2.1 = 0) : WS (f_w b F w (w 11).toInt.toNat (f_2 b F w S).1 (t_exp b F 1 (f_2 b F w S))) := by
  obtain ⟨q1, q2, q3, q4⟩ := s_flow_0 (n := 0) h0
  have hn := hW.n
  have h6 : (w 11).toInt.toNat < 6 := by
    rw [ti_eq, show (6 : Int32).toInt = 6 from rfl] at hne
    omega
  obtain ⟨w1, w2, -, -, -, -, -, -, -, w10, w11, w12⟩ := f_w_at (w := w) (S3 := t_exp b F 1 (f_2 b F w S)) (s := (f_2 b F w S).1) q3 h6
  generalize f_w b F w (w 11).toInt.toNat (f_2 b F w S).1 (t_exp b F 1 (f_2 b F w S)) = v at w1 w2 w10 w11 w12 ⊢
  have iv : (v 11).toInt = (w 11).toInt + 1 := by rw [w1, ti_add (by rw [ti_1]; omega), ti_1]
  refine WS.mk ⟨by omega, by omega⟩ (fun i hi => ?_) ?_ (fun i hi hi6 k hk => ?_)
  · rcases Nat.lt_or_ge i (w 11).toInt.toNat with d | d
    · obtain ⟨l1, l2, l3⟩ := hW.lt i (by omega)
      have e9 : v (sf i 9) = w (sf i 9) := w2 _ (by unfold sf; omega) (by unfold sf; omega)
      rw [e9]
      refine ⟨l1, l2, fun j hj => ?_⟩
      rw [w2 (sf i (10 + j)) (by unfold sf; omega) (by unfold sf; omega)]
      exact l3 j hj
    · have ei : i = (w 11).toInt.toNat := by omega
      rw [ei, w11, ti_nI (by omega)]
      refine ⟨by omega, by omega, fun j hj => ?_⟩
      rw [w12 j (by omega)]
      exact rd_word q2 (by omega)
  · rw [w2 8 (by omega) (by unfold sf; omega)]
    exact hW.q
  · rw [w2 (sf i k) (by unfold sf; omega) (by unfold sf; omega)]
    exact hW.z i (by omega) hi6 k hk
theorem K_flow {Kf : zM → Prop} (hW : WordC l G) (hFl : FillC l G) (h : KS b F M0 S w t M) (hw : S.2.1 = 0 → WS w) (hb : ∀ j, j < F → 1 ≤ (b j).toInt ∧ (b j).toInt ≤ 255)
    (hK : ∀ M', KS b F M0 (s_flow b F (S, w, t)).1 (s_flow b F (S, w, t)).2.1 t M' → Kf M') : zCalV l G Y_X7_readFlow 3 20 [vr 3 0] M Kf := by
  have hfc := h.fc
  refine zm_X7_readFlow ⟨fun c => ?_, fun _ => ⟨fun c6 => ⟨ti_in ?_, ?_⟩, fun c6 => zb_X7_readFlow_18 ⟨by omega, by omega, K_fail h (by decide) fun P kP => ⟨by omega, by omega, hK _ ?_⟩⟩⟩⟩
  · exfalso
    rw [ti_lt, ti_0] at c
    omega
  · rw [ti_lt, show (6 : Int32).toInt = 6 from rfl] at c6
    omega
  · have hn : (zmI M 15 0 12).toInt = ((zmI M 15 0 12).toInt.toNat : Nat) := by omega
    have en : 6 * 0 + (zmI M 15 0 12).toNatClampNeg = (zmI M 15 0 12).toInt.toNat := by rw [ti_cl]; omega
    have h6 : (zmI M 15 0 12).toInt.toNat < 6 := by
      rw [ti_lt, show (6 : Int32).toInt = 6 from rfl] at c6
      omega
    rw [en]
    generalize (zmI M 15 0 12).toInt.toNat = n at hn h6
    refine ⟨by omega, by omega, K_exp (k := 1) h rfl (by decide) fun P1 k1 => ⟨3, 20, by omega, by omega, K_name hW k1 (fun q => hw (t_exp_0 q)) hb fun a M2 tt k2 ta l8 htx e15 => ⟨by omega, by omega, ?_⟩⟩⟩
    have kf0 : KF b F M0 (f_2 b F w S) w t n a tt (zmI M2 17 n) (zsN M2 17 n 0 a) := by
      have c2 : (zmI M2 15 0 12).toInt = n := by rw [e15, zmO _ _ _ _ _ _ (by omega)]; exact hn
      have ina : inR 0 17 n := by
        have := inR17 (r := 0) h6
        rw [show 6 * 0 + n = n by omega] at this
        exact this
      refine KF.mk (KS.mk (Tx.mk k2.tx.hF k2.tx.len k2.tx.byt) k2.tk (k2.fr.N ina) k2.fc (fun i hi => ?_) (fun q => ⟨?_, (k2.ok q).2⟩)) c2 h6 ?_ ta l8 rfl
      · have hi2 : (i : Int) < (zmI M2 15 0 12).toInt := hi
        have e : zmN (zsN M2 17 n 0 a) 17 i = zmN M2 17 i := if_neg (by omega)
        rw [e]
        exact k2.nm i hi
      · have w11 := k2.w11 q
        exact (k2.ok q).1.same (fun _ _ _ _ => rfl) (fun i hi => ⟨rfl, rfl, if_neg (by rw [w11, c2] at hi; omega)⟩) (fun _ _ e => e)
      · have e : zmN (zsN M2 17 n 0 a) 17 n = zup (zmN M2 17 n) 0 a := if_pos ⟨rfl, rfl⟩
        rw [e, zup_self]
    -- the end
    have fin : ∀ (M8 : zM) (g8 : Nat → Int32) (m : Int32), KF b F M0 (f_8 b F (t_exp b F 1 (f_2 b F w S))) w t n a tt g8 M8 → g8 1 = (f_n b F (t_exp b F 1 (f_2 b F w S))).1 → g8 2 = (f_p b F (t_exp b F 1 (f_2 b F w S))).1 → g8 3 = (f_s b F (t_exp b F 1 (f_2 b F w S))).1 → g8 4 = (f_c b F (t_exp b F 1 (f_2 b F w S))).1 → g8 5 = f_m b F (t_exp b F 1 (f_2 b F w S)) →
        zAt l G Y_X7_readFlow (zEM G Y_X7_readFlow 3 20 (zKV Kf, none)) 148 [(0, vr 3 0), (2, vr 17 n)] [] M8 (0 + 3) (0 + 20) := by
      intro M8 g8 m k8 e1 e2 e3 e4 e5
      refine zb_X7_readFlow_148 ⟨by omega, by omega, zm_X1_begin (hFl n _ _ (by omega) ⟨by omega, by omega, hK _ ?_⟩)⟩
      have k9 := (((k8.put (j := 6) (x := 1)).put (j := 7) (x := zmI (zsI M8 17 n 6 1) 17 n 3)).put (j := 8) (x := 0)).put (j := 9) (x := 0)
      rcases Classical.em ((f_8 b F (t_exp b F 1 (f_2 b F w S))).2.1 = 0) with q | q
      · obtain ⟨q1, q2, q3, q4⟩ := s_flow_0 (n := 0) q
        have W := hw q1
        have w11 := h.w11 q1
        have nw : (w 11).toInt.toNat = n := by rw [w11]; omega
        have hne : ¬ w 11 = 6 := by
          rw [ti_eq, w11, show (6 : Int32).toInt = 6 from rfl]
          omega
        have es : s_flow b F (S, w, t) = (f_8 b F (t_exp b F 1 (f_2 b F w S)), f_w b F w n (f_2 b F w S).1 (t_exp b F 1 (f_2 b F w S)), t) := by
          show (if w 11 = 6 then _ else _) = _
          rw [if_neg hne, nw]
        rw [es]
        show KS b F M0 (f_8 b F (t_exp b F 1 (f_2 b F w S))) (f_w b F w n (f_2 b F w S).1 (t_exp b F 1 (f_2 b F w S))) t _
        obtain ⟨w1, w2, v0, v1, v2, v3, v4, v5, v6, v7, v9, v10⟩ := f_w_at (w := w) (S3 := t_exp b F 1 (f_2 b F w S)) (s := (f_2 b F w S).1) q3 h6
        have z := W.z n (by rw [w11]; omega) h6
        have htt : tt = rd_tx b (f_2 b F w S).1 (rd_e b F (f_2 b F w S).1 - (f_2 b F w S).1) := by
          have e : (f_2 b F w S).1 = (t_exp b F 1 S).1 := s_name_1
          rw [e] at q3 ⊢
          exact htx q3
        refine k9.done (fun _ => W) w1 w2 (fun _ => ⟨fun k hk => ?_, fun k hk => ?_, ⟨tt, rfl, ?_, fun j hj => ?_⟩⟩)
        · have hk9 : k = 0 ∨ k = 1 ∨ k = 2 ∨ k = 3 ∨ k = 4 ∨ k = 5 ∨ k = 6 ∨ k = 7 ∨ k = 8 := by omega
          rcases hk9 with e | e | e | e | e | e | e | e | e <;> subst e
          · rw [zup_ne _ _ (by omega), zup_ne _ _ (by omega), zup_ne _ _ (by omega), zup_ne _ _ (by omega), e1, v0]
          · rw [zup_ne _ _ (by omega), zup_ne _ _ (by omega), zup_ne _ _ (by omega), zup_ne _ _ (by omega), e2, v1]
          · rw [zup_ne _ _ (by omega), zup_ne _ _ (by omega), zup_ne _ _ (by omega), zup_ne _ _ (by omega), e3, v2]
          · rw [zup_ne _ _ (by omega), zup_ne _ _ (by omega), zup_ne _ _ (by omega), zup_ne _ _ (by omega), e4, v3]
          · rw [zup_ne _ _ (by omega), zup_ne _ _ (by omega), zup_ne _ _ (by omega), zup_ne _ _ (by omega), e5, v4]
          · rw [zup_ne _ _ (by omega), zup_ne _ _ (by omega), zup_ne _ _ (by omega), zup_self, v5]
          · rw [zup_ne _ _ (by omega), zup_ne _ _ (by omega), zup_self, v6, zmU, zup_ne _ _ (by omega), k8.gg, e3]
          · rw [zup_ne _ _ (by omega), zup_self, v7 7 (by omega), z 7 (by omega)]
          · rw [zup_self, v7 8 (by omega), z 8 (by omega)]
        · rw [v7 (18 + k) (by omega), z (18 + k) (by omega)]
        · rw [v9, htt, rd_tx_len, ti_nI (by omega)]
          rfl
        · rw [htt, rd_tx_len] at hj
          rw [v10 j hj, htt, rd_tx_get hj]
      · have k10 := k9.done (w' := zup w 11 (w 11 + 1)) (fun g => absurd g q) (zup_self _ _ _) (fun k h1 _ => zup_ne _ _ h1) (fun g => absurd g q)
        have e8 : (s_flow b F (S, w, t)).1 = f_8 b F (t_exp b F 1 (f_2 b F w S)) ∨ ¬ S.2.1 = 0 := by
          rcases Classical.em (S.2.1 = 0) with d | d
          · left
            show (if w 11 = 6 then _ else _ : (Nat × Int32 × Int32) × (Nat → Int32) × Int32).1 = _
            rw [if_neg ?_]
            rw [ti_eq, h.w11 d, show (6 : Int32).toInt = 6 from rfl]
            omega
          · exact .inr d
        rcases e8 with e8 | e8
        · rw [e8]
          exact KS.mk k10.tx k10.tk k10.fr k10.fc k10.nm (fun g => absurd g q)
        · rw [s_flow_e e8]
          have e9 : f_8 b F (t_exp b F 1 (f_2 b F w S)) = S := by
            show f_8 b F (t_exp b F 1 (s_name b F w (t_exp b F 1 S))) = S
            rw [t_exp_e e8, s_name_e e8, t_exp_e e8, f_8_e e8]
          rw [e9] at k10
          exact KS.mk k10.tx k10.tk k10.fr k10.fc k10.nm (fun g => absurd g e8)
    refine kf0.exp (k := 1) rfl (by decide) fun M3 kf1 => ⟨by omega, by omega, ?_⟩
    generalize t_exp b F 1 (f_2 b F w S) = S3 at fin kf1
    refine kf1.num fun M4 kf2 => ⟨by omega, by omega, ?_⟩
    have r1 : t_num b F 1 99 S3 = f_n b F S3 := rfl
    rw [r1] at kf2 ⊢
    have q1 : t_num b F 1 50 (f_n b F S3).2 = f_p b F S3 := rfl
    have q2 : t_num b F 1 9 (f_p b F S3).2 = f_s b F S3 := rfl
    have q3 : t_num b F (f_s b F S3).1 9 (f_s b F S3).2 = f_c b F S3 := rfl
    have q8 : f_mk b F S3 = rd_is b F (f_c b F S3).2.1 [109, 97, 114, 107, 115] := rfl
    have q9 : f_8 b F S3 = pif (f_mk b F S3) (t_exp b F 1 (f_c b F S3).2) (f_c b F S3).2 := rfl
    have q10 : f_m b F S3 = pif (f_mk b F S3) 1 0 := rfl
    generalize f_n b F S3 = N1 at fin kf2 q1 ⊢
    have kf2 := kf2.put (j := 1) (x := N1.1)
    refine kf2.num fun M5 kf3 => ⟨by omega, by omega, ?_⟩
    rw [q1] at kf3 ⊢
    generalize f_p b F S3 = N2 at fin kf3 q2 ⊢
    have kf3 := kf3.put (j := 2) (x := N2.1)
    refine kf3.num fun M6 kf4 => ⟨by omega, by omega, ?_⟩
    rw [q2] at kf4 ⊢
    generalize f_s b F S3 = N3 at fin kf4 q3 ⊢
    have kf4 := kf4.put (j := 3) (x := N3.1)
    have e3 : zmI (zsI M6 17 n 3 N3.1) 17 n 3 = N3.1 := by rw [zmU, zup_self]
    rw [e3]
    refine kf4.num fun M7 kf5 => fun a16 ha16 => ⟨by omega, by omega, ?_⟩
    rw [q3] at kf5 ha16 ⊢
    generalize f_c b F S3 = N4 at fin kf5 ha16 q8 q9 ⊢
    have kf6 := kf5.put (j := 4) (x := N4.1)
    rw [q8] at q9 q10
    refine C_isW kf6.ks.tx kf6.ks.tk ha16 (fun q => ⟨Or.inr rfl, fun d => ?_, fun _ => ⟨by omega, by omega, ?_⟩⟩) (fun q => ⟨Or.inl rfl, fun _ => ?_, fun d => ?_⟩) (by decide)
    · exfalso
      rw [zmU, zup_self] at d
      exact absurd d (by decide)
    · rw [pif_pos q] at q9 q10
      refine (kf6.put (j := 5) (x := 1)).exp (k := 1) rfl (by decide) fun M8 k8 => ?_
      rw [← q9] at k8
      refine fin M8 _ 1 k8 ?_ ?_ ?_ ?_ ?_
      · rw [zup_ne _ _ (by omega), zup_ne _ _ (by omega), zup_ne _ _ (by omega), zup_ne _ _ (by omega), zup_self]
      · rw [zup_ne _ _ (by omega), zup_ne _ _ (by omega), zup_ne _ _ (by omega), zup_self]
      · rw [zup_ne _ _ (by omega), zup_ne _ _ (by omega), zup_self]
      · rw [zup_ne _ _ (by omega), zup_self]
      · rw [zup_self, q10]
    · rw [pif_neg q] at q9 q10
      have k8 := kf6.put (j := 5) (x := 0)
      rw [← q9] at k8
      refine fin _ _ 0 k8 ?_ ?_ ?_ ?_ ?_
      · rw [zup_ne _ _ (by omega), zup_ne _ _ (by omega), zup_ne _ _ (by omega), zup_ne _ _ (by omega), zup_self]
      · rw [zup_ne _ _ (by omega), zup_ne _ _ (by omega), zup_ne _ _ (by omega), zup_self]
      · rw [zup_ne _ _ (by omega), zup_ne _ _ (by omega), zup_self]
      · rw [zup_ne _ _ (by omega), zup_self]
      · rw [zup_self, q10]
    · rw [zmU, zup_self] at d
      exact absurd rfl d
  · rw [ti_lt, show (6 : Int32).toInt = 6 from rfl] at c6
    have c7 : (zmI M 15 0 12).toInt = 6 := by omega
    rcases Classical.em (S.2.1 = 0) with d | d
    · have e6 : w 11 = 6 := by rw [ti_eq, h.w11 d, c7]; rfl
      have es : s_flow b F (S, w, t) = (t_fail 5 S, w, t) := by
        show (if w 11 = 6 then _ else _) = _
        rw [if_pos e6]
      rw [es]
      exact kP
    · rw [s_flow_e d]
      rw [t_fail_e d] at kP
      exact KS.mk kP.tx kP.tk kP.fr kP.fc kP.nm (fun g => absurd g d)
end
