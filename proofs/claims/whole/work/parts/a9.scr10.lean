/-! SCRIPTS: the order step, the class -/
section
variable {l : Launch} {G : zG} {M M0 Mz : zM} {A : Nat} {b : Nat → Int32} {F : Nat} {S S' : Nat × Int32 × Int32} {w f Q Q0 : Nat → Int32} {t : Int32}
variable {told L a : Nat} {sk r : List Nat} {o z : Nat → Int32}
theorem yFr.rf (M : zM) : yFr M M := ⟨fun _ _ _ => rfl, rfl⟩
theorem y_word_0 (h : (y_word b F told S).2.1 = 0) : S.2.1 = 0 := by
  refine Classical.byContradiction fun g => ?_
  rw [y_word_e g] at h
  exact g h
theorem y_word_1 (h : (y_word b F told S).2.1 = 0) : S.2.1 = 0 ∧ ¬ o_kind b F S.1 = -1 ∧ told < 30 ∧ rd_kd b F S.1 = 1 ∧ y_word b F told S = t_adv b F S := by
  have h0 := y_word_0 h
  unfold y_word at h ⊢
  have h1 := t_exp_0 h
  by_cases c : o_kind b F S.1 = -1
  · rw [if_pos c] at h1
    unfold t_fail at h1
    rw [if_pos h0] at h1
    exact absurd (show (1 : Int32) = 0 from h1) (by decide)
  · rw [if_neg c] at h h1 ⊢
    by_cases d : 30 ≤ told
    · rw [if_pos d] at h1
      unfold t_fail at h1
      rw [if_pos h0] at h1
      exact absurd (show (5 : Int32) = 0 from h1) (by decide)
    · rw [if_neg d] at h ⊢
      have k1 := (o_kind_rng b F S.1).2 c
      unfold t_exp
      rw [if_pos h0, if_pos k1]
      exact ⟨h0, c, by omega, k1, rfl⟩
theorem C_order {n S0 T : Nat} {Kf : zM → Prop} (hT : Tx b F M) (hk : TK b F S (zmI M 1 0)) (hf : yFr M0 M) (hY : S.2.1 = 0 → YR told L sk o f z M) (hR : Rel M 1 w true) (hO : OK w n A S0 T) (hs : sk.length ≤ 2) (hL : told < 30 → L < 60) (ht : told < 1000)
    (h : ∀ M', Tx b F M' → TK b F (if o_kind b F S.1 = 8 then y_open b F sk.length (o_num b F w (o_kind b F S.1) (y_word b F told S)).2.2 else t_exp b F 3 (o_num b F w (o_kind b F S.1) (y_word b F told S)).2.2) (zmI M' 1 0) → yFr M0 M' → ((if o_kind b F S.1 = 8 then y_open b F sk.length (o_num b F w (o_kind b F S.1) (y_word b F told S)).2.2 else t_exp b F 3 (o_num b F w (o_kind b F S.1) (y_word b F told S)).2.2).2.1 = 0 → YR (told + 1) (L + 1) (if o_kind b F S.1 = 8 then L :: sk else sk) (zup o L (o_kind b F S.1)) (zup f L (o_num b F w (o_kind b F S.1) (y_word b F told S)).1) (zup z L (o_num b F w (o_kind b F S.1) (y_word b F told S)).2.1) M') → Kf M') : zCalV l G Y_X6_readOrder 0 0 [vr 4 0] M Kf := by
  have hn := hO.nf
  have l38 : ∀ (S1 : Nat × Int32 × Int32) (P : Nat → Int32), TK b F S1 P → t_exp b F 1 S1 = y_word b F told S → zAt l G Y_X6_readOrder (zEV G Y_X6_readOrder Kf) 38 [(0, vr 4 0), (1, vi (o_kind b F S.1))] [] (zsIr M 1 0 P) 0 0 := fun S1 P kP e => by
    have hT1 : Tx b F (zsIr M 1 0 P) := hT.set kP.len
    have f1 : yFr M0 (zsIr M 1 0 P) := hf.I (.inl rfl)
    refine zb_X6_readOrder_38 (C_expT (S := S1) (k := 1) (hT1.y (zmO _ _ _ _ _ _ (by omega)) (zmO _ _ _ _ _ _ (by omega))) (by rw [zmO _ _ _ _ _ _ (by omega), zmU]; exact kP) rfl (by decide) fun P2 k2 => ?_)
    rw [e] at k2
    have f3 : yFr M0 (zsIr (zsI (zsIr M 1 0 P) 4 0 8 (zmI (zsIr M 1 0 P) 4 0 8 + 1)) 1 0 P2) := (f1.I (by omega)).I (.inl rfl)
    have rM : yFr M (zsIr (zsI (zsIr M 1 0 P) 4 0 8 (zmI (zsIr M 1 0 P) 4 0 8 + 1)) 1 0 P2) := (((yFr.rf M).I (.inl rfl)).I (by omega)).I (.inl rfl)
    exact C_nums (told := told + 1) (L := L) (sk := sk) (o := o) (f := f) (z := z) ((hT1.y (zmO _ _ _ _ _ _ (by omega)) (zmO _ _ _ _ _ _ (by omega))).set k2.len) (by rw [zmU]; exact k2) f3 (fun g => ((hY (y_word_0 g)).one.more ht).one) (rM.rel (by omega) hR) hO hs (fun g => hL (y_word_1 g).2.2.1) h
  have self : zsIr M 1 0 (zmI M 1 0) = M := zsI0 M 1 0
  have plain : t_exp b F 1 S = y_word b F told S → zAt l G Y_X6_readOrder (zEV G Y_X6_readOrder Kf) 38 [(0, vr 4 0), (1, vi (o_kind b F S.1))] [] M 0 0 := fun e => by
    have := l38 S (zmI M 1 0) hk e
    rw [self] at this
    exact this
  have er : ¬ S.2.1 = 0 → t_exp b F 1 S = y_word b F told S := fun n => by rw [y_word_e n, t_exp_e n]
  refine zm_X6_readOrder (C_kind hT hk ⟨fun c => ⟨fun d => ?_, fun d => C_failT hk fun P kP => ?_⟩, fun c => C_failT hk fun P kP => ?_⟩)
  · rcases Classical.em (S.2.1 = 0) with g | g
    · refine plain ?_
      rw [(hY g).tol, ti_lt, ti_nI (by omega), show (30 : Int32).toInt = 30 from rfl] at d
      unfold y_word
      rw [if_neg c, if_neg (by omega)]
    · exact plain (er g)
  · rcases Classical.em (S.2.1 = 0) with g | g
    · refine l38 _ P kP ?_
      rw [(hY g).tol, ti_lt, ti_nI (by omega), show (30 : Int32).toInt = 30 from rfl] at d
      unfold y_word
      rw [if_neg c, if_pos (by omega)]
    · rw [t_fail_e g] at kP
      exact l38 S P kP (er g)
  · refine l38 _ P kP ?_
    unfold y_word
    rw [if_pos c]
end
