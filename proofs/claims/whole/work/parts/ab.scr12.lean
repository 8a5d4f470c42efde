/-! SCRIPTS: a step of reading keeps what holds -/
section
variable {l : Launch} {G : zG} {M M0 Mz : zM} {A : Nat} {b : Nat → Int32} {F : Nat} {S S' : Nat × Int32 × Int32} {w f Q Q0 : Nat → Int32} {t : Int32}
variable {n told L : Nat} {sk : List Nat} {st : Nat → List Nat} {o z : Nat → Int32} {Y : SY}
abbrev YI (n : Nat) (Y : SY) : Prop := YJ n Y.2.1.1 Y.2.1.2 Y.2.2.1 Y.2.2.2.1 Y.2.2.2.2.1 Y.2.2.2.2.2.1 Y.2.2.2.2.2.2
theorem g_f_0 (h : (g_f b F w S).2.1 = 0) : S.2.1 = 0 ∧ rd_kd b F S.1 = 1 ∧ rd_has b F w S.1 := by
  have h0 := g_f_00 h
  have e1 := t_exp_0 h
  refine ⟨h0, ?_⟩
  rcases Classical.em (rd_kd b F S.1 = 1 ∧ rd_e b F S.1 - S.1 ≤ 8) with c | c
  · rw [pif_pos c] at e1
    rcases Classical.em (rd_has b F w S.1) with d | d
    · exact ⟨c.1, d⟩
    · rw [pif_neg d] at e1
      unfold t_fail at e1
      rw [if_pos h0] at e1
      exact absurd (show (4 : Int32) = 0 from e1) (by decide)
  · rw [pif_neg c] at e1
    unfold t_fail at e1
    rw [if_pos h0] at e1
    exact absurd (show (1 : Int32) = 0 from e1) (by decide)
theorem g_ixd_rng {s : Nat} : ∀ d j : Nat, g_ixd b F w s d j = -1 ∨ ∃ i, j ≤ i ∧ i < j + d ∧ g_ixd b F w s d j = nI i := by
  intro d
  induction d with
  | zero => exact fun j => .inl rfl
  | succ d ih =>
    intro j
    unfold g_ixd
    rcases Classical.em (rd_nm b F w s j) with c | c
    · rw [pif_pos c]
      exact .inr ⟨j, Nat.le_refl _, by omega, rfl⟩
    · rw [pif_neg c]
      rcases ih (j + 1) with e | ⟨i, h1, h2, h3⟩
      · exact .inl e
      · exact .inr ⟨i, by omega, by omega, h3⟩
theorem g_ix_rng {s : Nat} (hn : (w 11).toInt = n) (h6 : n ≤ 6) (h : rd_has b F w s) : 0 ≤ (g_ix b F w s).toInt ∧ (g_ix b F w s).toInt < n := by
  have hne := (g_ix_has (b := b) (F := F) (w := w) (s := s) (by omega) (by omega)).mp h
  unfold g_ix at hne ⊢
  rcases g_ixd_rng (b := b) (F := F) (w := w) (s := s) (w 11).toInt.toNat 0 with e | ⟨i, h1, h2, h3⟩
  · exact absurd e hne
  · rw [h3, ti_nI (by omega)]
    omega
theorem o_num_8 (h : (o_num b F w 8 S).2.2.2.1 = 0) : 0 ≤ (o_num b F w 8 S).1.toInt ∧ (o_num b F w 8 S).1.toInt ≤ 20 := by
  have m := t_num_v (b := b) (F := F) (S := S) (lo := 0) (hi := 20) h
  rw [ti_le, ti_le, ti_0, show (20 : Int32).toInt = 20 from rfl] at m
  exact ⟨m.1, m.2.1⟩
theorem o_num_ok {kd : Int32} (hn : (w 11).toInt = n) (h6 : n ≤ 6) (hk : 0 ≤ kd.toInt ∧ kd.toInt ≤ 7) (h : (o_num b F w kd S).2.2.2.1 = 0) : o_ok n kd (o_num b F w kd S).1 (o_num b F w kd S).2.1 := by
  have k8 : kd = 0 ∨ kd = 1 ∨ kd = 2 ∨ kd = 3 ∨ kd = 4 ∨ kd = 5 ∨ kd = 6 ∨ kd = 7 := by
    simp only [ti_eq, ti_0, ti_1, show (2 : Int32).toInt = 2 from rfl, show (3 : Int32).toInt = 3 from rfl, show (4 : Int32).toInt = 4 from rfl, show (5 : Int32).toInt = 5 from rfl, show (6 : Int32).toInt = 6 from rfl, show (7 : Int32).toInt = 7 from rfl]
    omega
  have fl : (g_f b F w S).2.1 = 0 → 0 ≤ (g_ix b F w S.1).toInt ∧ (g_ix b F w S.1).toInt < n := fun g => g_ix_rng hn h6 (g_f_0 g).2.2
  rcases k8 with e | e | e | e | e | e | e | e <;> subst e
  · have m := t_num_v (b := b) (F := F) (S := S) (lo := 1) (hi := 50) h
    rw [ti_le, ti_le, ti_1, show (50 : Int32).toInt = 50 from rfl] at m
    exact .inl ⟨rfl, m.1, m.2.1⟩
  · have m := t_num_v (b := b) (F := F) (S := g_f b F w S) (lo := 1) (hi := 40) h
    rw [ti_le, ti_le, ti_1, show (40 : Int32).toInt = 40 from rfl] at m
    have q := fl m.2.2
    exact .inr (.inl ⟨rfl, q.1, q.2, m.1, m.2.1⟩)
  · have h2 : (t_num b F ((t_num b F 0 39 S).1 + 1) 40 (t_num b F 0 39 S).2).2.2.1 = 0 := h
    have m1 := t_num_v (t_num_0 h2)
    have m2 := t_num_v h2
    rw [ti_le, ti_le, ti_0, show (39 : Int32).toInt = 39 from rfl] at m1
    rw [ti_le, ti_le, ti_add (by rw [ti_1]; omega), ti_1, show (40 : Int32).toInt = 40 from rfl] at m2
    refine .inr (.inr (.inl ⟨rfl, m1.1, m1.2.1, ?_, m2.2.1⟩))
    have := m2.1
    show (t_num b F 0 39 S).1.toInt < (t_num b F ((t_num b F 0 39 S).1 + 1) 40 (t_num b F 0 39 S).2).1.toInt
    omega
  · have m := t_num_v (b := b) (F := F) (S := S) (lo := 0) (hi := 65536) h
    rw [ti_le, ti_le, ti_0, show (65536 : Int32).toInt = 65536 from rfl] at m
    exact .inr (.inr (.inr (.inl ⟨rfl, m.1, m.2.1⟩)))
  · have m := t_num_v (b := b) (F := F) (S := S) (lo := 0) (hi := 10) h
    rw [ti_le, ti_le, ti_0, show (10 : Int32).toInt = 10 from rfl] at m
    exact .inr (.inr (.inr (.inr (.inl ⟨rfl, m.1, m.2.1⟩))))
  · have m := t_num_v (b := b) (F := F) (S := S) (lo := 0) (hi := 1) h
    rw [ti_le, ti_le, ti_0, ti_1] at m
    exact .inr (.inr (.inr (.inr (.inr (.inl ⟨rfl, m.1, m.2.1⟩)))))
  · have q := fl h
    exact .inr (.inr (.inr (.inr (.inr (.inr ⟨.inl rfl, q.1, q.2⟩)))))
  · have q := fl h
    exact .inr (.inr (.inr (.inr (.inr (.inr ⟨.inr rfl, q.1, q.2⟩)))))
theorem g_f_ge : S.1 ≤ (g_f b F w S).1 := by
  unfold g_f
  refine Nat.le_trans (Nat.le_of_eq ?_) t_exp_ge.1
  unfold pif
  repeat' split
  all_goals first | rfl | exact t_fail_1.symm
theorem o_num_ge {kd : Int32} : S.1 ≤ (o_num b F w kd S).2.2.1 := by
  unfold o_num
  repeat' split
  all_goals first
    | exact t_num_ge
    | exact g_f_ge
    | exact Nat.le_trans g_f_ge t_num_ge
    | exact Nat.le_trans t_num_ge t_num_ge
theorem y_open_ge {dp : Nat} : S.1 ≤ (y_open b F dp S).1 := by
  unfold y_open
  refine Nat.le_trans (Nat.le_of_eq ?_) t_exp_ge.1
  split
  · exact t_fail_1.symm
  · rfl
/-- an order step without an error -/
theorem y_order_J (hn : (w 11).toInt = n) (h6 : n ≤ 6) (hY : YI n Y) (h : (y_order b F w Y).1.2.1 = 0) : YI n (y_order b F w Y) ∧ Y.1.1 + 1 ≤ (y_order b F w Y).1.1 ∧ Y.1.2.1 = 0 := by
  have kr := o_kind_rng b F Y.1.1
  have hw : (y_order b F w Y).1.2.1 = 0 → (y_word b F Y.2.1.1 Y.1).2.1 = 0 ∧ (o_num b F w (o_kind b F Y.1.1) (y_word b F Y.2.1.1 Y.1)).2.2.2.1 = 0 := fun g => by
    have g1 : (o_num b F w (o_kind b F Y.1.1) (y_word b F Y.2.1.1 Y.1)).2.2.2.1 = 0 := by
      have g2 : (if o_kind b F Y.1.1 = 8 then y_open b F Y.2.2.1.length (o_num b F w (o_kind b F Y.1.1) (y_word b F Y.2.1.1 Y.1)).2.2 else t_exp b F 3 (o_num b F w (o_kind b F Y.1.1) (y_word b F Y.2.1.1 Y.1)).2.2).2.1 = 0 := g
      split at g2
      · exact (y_open_0 g2).1
      · exact t_exp_0 g2
    exact ⟨o_num_0 g1, g1⟩
  obtain ⟨h1, h2⟩ := hw h
  obtain ⟨w0, w1, w2, w3, w4⟩ := y_word_1 h1
  have hF := rd_kd_F (b := b) (F := F) (s := Y.1.1) (by rw [w3]; decide)
  have p1 : Y.1.1 + 1 ≤ (y_word b F Y.2.1.1 Y.1).1 := by rw [w4]; exact t_adv_ge.2 hF
  have p2 : (y_word b F Y.2.1.1 Y.1).1 ≤ (o_num b F w (o_kind b F Y.1.1) (y_word b F Y.2.1.1 Y.1)).2.2.1 := o_num_ge
  by_cases c : o_kind b F Y.1.1 = 8
  · have e1 : (y_order b F w Y).1 = y_open b F Y.2.2.1.length (o_num b F w (o_kind b F Y.1.1) (y_word b F Y.2.1.1 Y.1)).2.2 := if_pos c
    rw [e1] at h
    have p3 : (o_num b F w (o_kind b F Y.1.1) (y_word b F Y.2.1.1 Y.1)).2.2.1 ≤ (y_order b F w Y).1.1 := by rw [e1]; exact y_open_ge
    have hd := (y_open_0 h).2.2
    refine ⟨?_, by omega, w0⟩
    have q := hY.again (x := (o_num b F w (o_kind b F Y.1.1) (y_word b F Y.2.1.1 Y.1)).1) (y := (o_num b F w (o_kind b F Y.1.1) (y_word b F Y.2.1.1 Y.1)).2.1) w2 hd (by rw [c] at h2 ⊢; exact o_num_8 h2)
    unfold YI y_order
    simp only [c, if_true] at q ⊢
    exact q
  · have e1 : (y_order b F w Y).1 = t_exp b F 3 (o_num b F w (o_kind b F Y.1.1) (y_word b F Y.2.1.1 Y.1)).2.2 := if_neg c
    have p3 : (o_num b F w (o_kind b F Y.1.1) (y_word b F Y.2.1.1 Y.1)).2.2.1 ≤ (y_order b F w Y).1.1 := by rw [e1]; exact t_exp_ge.1
    refine ⟨?_, by omega, w0⟩
    have k7 : 0 ≤ (o_kind b F Y.1.1).toInt ∧ (o_kind b F Y.1.1).toInt ≤ 7 := by
      rcases kr.1 with g | g
      · exact absurd g w1
      · rw [ti_eq, show (8 : Int32).toInt = 8 from rfl] at c
        omega
    have q := hY.order (kd := o_kind b F Y.1.1) w2 (o_num_ok hn h6 k7 h2)
    unfold YI y_order
    simp only [c, if_false]
    exact q
theorem y_close_J (hY : YI n Y) (hs : 0 < Y.2.2.1.length) (h : (y_close b F Y).1.2.1 = 0) : YI n (y_close b F Y) ∧ Y.1.1 + 1 ≤ (y_close b F Y).1.1 ∧ Y.1.2.1 = 0 := by
  have h1 : (t_exp b F 5 Y.1).2.1 = 0 := t_exp_0 h
  have h2 := t_exp_0 h1
  have kd : rd_kd b F Y.1.1 = 5 := by
    refine Classical.byContradiction fun g => ?_
    unfold t_exp at h1
    rw [if_pos h2, if_neg g] at h1
    exact absurd (show (1 : Int32) = 0 from h1) (by decide)
  have hF := rd_kd_F (b := b) (F := F) (s := Y.1.1) (by rw [kd]; decide)
  have p1 := (t_exp_ge (b := b) (F := F) (S := Y.1) (k := 5)).2 h1 hF
  have p2 : (t_exp b F 5 Y.1).1 ≤ (y_close b F Y).1.1 := t_exp_ge.1
  refine ⟨?_, by omega, h2⟩
  generalize e : Y.2.2.1 = s at hs
  cases s with
  | nil => exact absurd hs (by decide)
  | cons a r =>
    unfold YI at hY
    rw [e] at hY
    have q := hY.close
    unfold YI y_close
    rw [e]
    exact q
theorem y_step_J (hn : (w 11).toInt = n) (h6 : n ≤ 6) (hY : YI n Y) (h : (y_step b F w Y).1.2.1 = 0) : YI n (y_step b F w Y) ∧ Y.1.1 + 1 ≤ (y_step b F w Y).1.1 ∧ Y.1.2.1 = 0 := by
  unfold y_step at h ⊢
  by_cases c : rd_kd b F Y.1.1 = 5 ∧ 0 < Y.2.2.1.length
  · rw [if_pos c] at h ⊢
    exact y_close_J hY c.2 h
  · rw [if_neg c] at h ⊢
    exact y_order_J hn h6 hY h
/-- the class while it reads -/
def CY (b : Nat → Int32) (F : Nat) (M0 : zM) (Y : SY) (M : zM) : Prop := Tx b F M ∧ TK b F Y.1 (zmI M 1 0) ∧ yFr M0 M ∧ (Y.1.2.1 = 0 → YR Y.2.1.1 Y.2.1.2 Y.2.2.1 Y.2.2.2.2.1 Y.2.2.2.2.2.1 Y.2.2.2.2.2.2 M)
def YE (b : Nat → Int32) (F n : Nat) (Y : SY) : Prop := Y.1.2.1 = 0 → YI n Y ∧ rd_kd b F Y.1.1 = 0 ∧ Y.2.2.1 = []
theorem C_readLoop {S0 T : Nat} {R : SY} {Kf : Int32 → zM → Prop} (hR : Rel M0 1 w true) (hO : OK w n A S0 T) (hK : ∀ M', CY b F M0 R M' → YE b F n R → Kf (if R.1.2.1 = 0 then 1 else 0) M') :
    ∀ (d i : Nat) (Y : SY) (M : zM) (y : Int32), d + i = 501 → y.toInt = i → CY b F M0 Y M → (Y.1.2.1 = 0 → YI n Y ∧ F < Y.1.1 + d) → y_loop b F w d Y = R → zAt l G Y_X6_readAll (zEI G Y_X6_readAll Kf) 24 [(0, vr 4 0), (1, vi y)] [] M 0 0 := by
  have hn := hO.nf
  intro d
  induction d with
  | zero =>
    intro i Y M y hd hy hC hI hE
    have c2 := hC.2.1
    have e0 : ¬ Y.1.2.1 = 0 := fun g => by
      have := (hI g).2
      have := c2.hs
      omega
    have eR : Y = R := hE
    have hK' := hK M (by rw [← eR]; exact hC) (fun g => absurd (by rw [eR]; exact g) e0)
    rw [if_neg (by rw [← eR]; exact e0)] at hK'
    refine zb_X6_readAll_24 ⟨fun _ => zb_X6_readAll_95 ⟨fun _ => hK', fun g => absurd (by rw [← c2.err]; exact g) e0⟩, fun g => ?_⟩
    rw [ti_lt, show (500 : Int32).toInt = 500 from rfl] at g
    omega
  | succ d ih =>
    intro i Y M y hd hy hC hI hE
    have hC2 := hC
    obtain ⟨c1, c2, c3, c4⟩ := hC2
    refine zb_X6_readAll_24 ⟨fun g => ?_, fun _ => ⟨fun g => ?_, fun g => ?_⟩⟩
    · rw [ti_lt, show (500 : Int32).toInt = 500 from rfl] at g
      omega
    · have e0 : ¬ Y.1.2.1 = 0 := fun q => g (by rw [← q]; exact c2.err)
      have eR : Y = R := by rw [← hE]; exact (y_loop_e e0).symm
      have hK' := hK M (by rw [← eR]; exact hC) (fun g => absurd (by rw [eR]; exact g) e0)
      rw [if_neg (by rw [← eR]; exact e0)] at hK'
      exact zb_X6_readAll_95 ⟨fun _ => hK', fun q => absurd q g⟩
    · have e0 : Y.1.2.1 = 0 := by rw [← g]; exact c2.err.symm
      obtain ⟨hJ, hF⟩ := hI e0
      have hY := c4 e0
      have ek : zmI M 1 0 2 = nI (rd_kd b F Y.1.1) := c2.kind
      have klt := rd_kd_lt b F Y.1.1
      have hcn := hJ.cnt
      have hdp := hJ.dep
      have htl := hJ.tol
      have go : ¬ (rd_kd b F Y.1.1 = 0 ∧ Y.2.2.1.length = 0) → y_loop b F w d (y_step b F w Y) = R := fun q => by
        rw [← hE]
        exact (if_pos (show Y.1.2.1 = 0 ∧ ¬ (rd_kd b F Y.1.1 = 0 ∧ Y.2.2.1.length = 0) from ⟨e0, q⟩)).symm
      have nx : ∀ M', CY b F M0 (y_step b F w Y) M' → ¬ (rd_kd b F Y.1.1 = 0 ∧ Y.2.2.1.length = 0) → zAt l G Y_X6_readAll (zEI G Y_X6_readAll Kf) 89 [(0, vr 4 0), (1, vi y)] [] M' 0 0 := fun M' hC' q => by
        refine zb_X6_readAll_89 (ih (i + 1) (y_step b F w Y) M' (y + 1) (by omega) (ti_inc hy (by omega)) hC' (fun g' => ?_) (go q))
        have p := y_step_J hn.1 hn.2 hJ g'
        exact ⟨p.1, by omega⟩
      have rM : Rel M 1 w true := c3.rel (by omega) hR
      have ord : ¬ (rd_kd b F Y.1.1 = 5 ∧ 0 < Y.2.2.1.length) → ¬ (rd_kd b F Y.1.1 = 0 ∧ Y.2.2.1.length = 0) → zAt l G Y_X6_readAll (zEI G Y_X6_readAll Kf) 85 [(0, vr 4 0), (1, vi y)] [] M 0 0 := fun q1 q2 => by
        have es : y_step b F w Y = y_order b F w Y := if_neg q1
        refine zb_X6_readAll_85 (C_order (told := Y.2.1.1) (L := Y.2.1.2) (sk := Y.2.2.1) (o := Y.2.2.2.2.1) (f := Y.2.2.2.2.2.1) (z := Y.2.2.2.2.2.2) c1 c2 c3 c4 rM hO hdp (fun _ => by omega) (by omega) fun M' a1 a2 a3 a4 => nx M' ?_ q2)
        rw [es]
        exact ⟨a1, a2, a3, a4⟩
      have l60 : ¬ (rd_kd b F Y.1.1 = 0 ∧ Y.2.2.1.length = 0) → zAt l G Y_X6_readAll (zEI G Y_X6_readAll Kf) 60 [(0, vr 4 0), (1, vi y)] [] M 0 0 := fun q2 => by
        refine zb_X6_readAll_60 ⟨fun q => ord (fun p => q (by rw [ek, p.1]; rfl)) q2, fun q => ⟨fun p => ord (fun r => ?_) q2, fun p => ?_⟩⟩
        · rw [hY.dep, ti_le, ti_nI (by omega), ti_0] at p
          omega
        · rw [ek] at q
          have k5 := nI_inj (c := 5) (by omega) (by omega) q
          rw [hY.dep, ti_le, ti_nI (by omega), ti_0] at p
          have hs0 : 0 < Y.2.2.1.length := by omega
          have es : y_step b F w Y = y_close b F Y := if_pos ⟨k5, hs0⟩
          have eY : Y.2.2.1 = Y.2.2.1.headD 0 :: Y.2.2.1.tail := by
            generalize Y.2.2.1 = s at hs0
            cases s with
            | nil => exact absurd hs0 (by decide)
            | cons a r => rfl
          have ha := (hJ.stk Y.2.1.2 (Nat.le_refl _) (Y.2.2.1.headD 0) Y.2.2.1.tail (by rw [hJ.stL]; exact eY)).1
          have el : Y.2.2.1.length = Y.2.2.1.tail.length + 1 := by rw [congrArg List.length eY]; rfl
          refine C_unbrack (told := Y.2.1.1) (L := Y.2.1.2) (a := Y.2.2.1.headD 0) (r := Y.2.2.1.tail) (o := Y.2.2.2.2.1) (f := Y.2.2.2.2.2.1) (z := Y.2.2.2.2.2.2) c1 c2 c3 (fun g' => ?_) (by omega) (by omega) ha fun M' a1 a2 a3 a4 => nx M' ?_ q2
          · rw [← eY]
            exact c4 g'
          · rw [es]
            exact ⟨a1, a2, a3, a4⟩
      have fin : ¬ zmI M 1 0 2 = 0 ∨ ¬ zmI M 4 0 9 = 0 → ¬ (rd_kd b F Y.1.1 = 0 ∧ Y.2.2.1.length = 0) := fun q p => by
        rcases q with q | q
        · exact q (by rw [ek, p.1]; rfl)
        · exact q (by rw [hY.dep, p.2]; rfl)
      refine ⟨fun q => l60 (fin (.inl q)), fun q => ⟨fun p => l60 (fin (.inr p)), fun p => ?_⟩⟩
      rw [ek] at q
      have k0 := nI_inj (c := 0) (by omega) (by omega) q
      rw [hY.dep] at p
      have s0 := nI_inj (c := 0) (by omega) (by omega) p
      have eR : Y = R := by
        rw [← hE]
        exact (if_neg (fun g' => g'.2 ⟨k0, s0⟩)).symm
      have hK' := hK M (by rw [← eR]; exact hC) (fun _ => by rw [← eR]; exact ⟨hJ, k0, List.length_eq_zero_iff.mp s0⟩)
      rw [if_pos (by rw [← eR]; exact e0)] at hK'
      exact hK'
/-- before anything is read -/
def y_0 (b : Nat → Int32) (F : Nat) : SY := ((rd_n b F 0, 0, -1), (0, 0), [], fun _ => [], fun _ => 0, fun _ => 0, fun _ => 0)
noncomputable def y_all (b : Nat → Int32) (F : Nat) (w : Nat → Int32) : SY := y_loop b F w 501 (y_0 b F)
theorem y_0_I : YI n (y_0 b F) := YJ.mk (by show 0 ≤ 30; omega) (by show 0 + 0 ≤ 2 * 0; omega) (by show 0 ≤ 2; omega) rfl rfl (fun k _ a r e => absurd (show ([] : List Nat) = a :: r from e) (by intro q; cases q)) (fun k hk => absurd (show k < 0 from hk) (by omega)) (fun k hk => absurd (show k < 0 from hk) (by omega))
theorem C_readAll {S0 T : Nat} {Kf : Int32 → zM → Prop} (hT : Tx b F M) (hR : Rel M 1 w true) (hO : OK w n A S0 T) (hK : ∀ M', CY b F M (y_all b F w) M' → YE b F n (y_all b F w) → Kf (if (y_all b F w).1.2.1 = 0 then 1 else 0) M') : zCalI l G Y_X6_readAll 0 0 [vr 4 0] M Kf := by
  have hF := hT.hF
  have f3 : yFr M (zsI (zsI (zsI M 4 0 7 0) 4 0 8 0) 4 0 9 0) := (((yFr.rf M).I (by omega)).I (by omega)).I (by omega)
  have e4 : zmI (zsI (zsI (zsI M 4 0 7 0) 4 0 8 0) 4 0 9 0) 4 0 = zup (zup (zup (zmI M 4 0) 7 0) 8 0) 9 0 := by
    rw [zsU M 4 0, zsU M 4 0, zmU]
  have e1 : zmI (zsI (zsI (zsI M 4 0 7 0) 4 0 8 0) 4 0 9 0) 1 0 = zmI M 1 0 := by
    rw [zmO _ _ _ _ _ _ (by omega), zmO _ _ _ _ _ _ (by omega), zmO _ _ _ _ _ _ (by omega)]
  have h3 : ∀ {Kf : Int32 → zM → Prop}, zCalV l G Y_X4_begin 0 0 [vr 1 0] (zsI (zsI (zsI M 4 0 7 0) 4 0 8 0) 4 0 9 0) (fun M1 => zAt l G Y_X6_readAll (zEI G Y_X6_readAll Kf) 24 [(0, vr 4 0), (1, vi 0)] [] M1 0 0) → zCalI l G Y_X6_readAll 0 0 [vr 4 0] M Kf := fun h => zm_X6_readAll h
  generalize zsI (zsI (zsI M 4 0 7 0) 4 0 8 0) 4 0 9 0 = M3 at f3 e4 e1 h3
  have hT3 : Tx b F M3 := hT.y e1 (f3.1 2 0 (by omega))
  refine h3 (C_begT hT3 fun P k1 => ?_)
  refine C_readLoop hR hO hK 501 0 (y_0 b F) _ 0 (by omega) rfl ⟨hT3.set k1.len, by rw [zmU]; exact k1, f3.I (.inl rfl), fun _ => ?_⟩ (fun _ => ⟨y_0_I, by omega⟩) rfl
  have e4' : zmI (zsIr M3 1 0 P) 4 0 = zup (zup (zup (zmI M 4 0) 7 0) 8 0) 9 0 := (zmO _ _ _ _ _ _ (by omega)).trans e4
  refine YR.mk ?_ ?_ ?_ (fun k hk => absurd (show k < 0 from hk) (by omega)) (fun i hi => absurd (show i < 0 from hi) (by omega))
  · rw [e4', zup_ne _ _ (by omega), zup_ne _ _ (by omega), zup_self]; rfl
  · rw [e4', zup_ne _ _ (by omega), zup_self]; rfl
  · rw [e4', zup_self]; rfl
end
