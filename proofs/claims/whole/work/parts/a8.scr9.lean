/-! SCRIPTS: an order is read, the class -/
section
variable {l : Launch} {G : zG} {M M0 Mz : zM} {A : Nat} {b : Nat → Int32} {F : Nat} {S S' : Nat × Int32 × Int32} {w f Q Q0 : Nat → Int32} {t : Int32}
variable {told L a : Nat} {sk r : List Nat} {o z : Nat → Int32}
theorem C_nums {n S0 T : Nat} {kd : Int32} {Kf : zM → Prop} (hT : Tx b F M) (hk : TK b F S (zmI M 1 0)) (hf : yFr M0 M) (hY : S.2.1 = 0 → YR told L sk o f z M) (hR : Rel M 1 w true) (hO : OK w n A S0 T) (hs : sk.length ≤ 2) (hL : S.2.1 = 0 → L < 60)
    (h : ∀ M', Tx b F M' → TK b F (if kd = 8 then y_open b F sk.length (o_num b F w kd S).2.2 else t_exp b F 3 (o_num b F w kd S).2.2) (zmI M' 1 0) → yFr M0 M' → ((if kd = 8 then y_open b F sk.length (o_num b F w kd S).2.2 else t_exp b F 3 (o_num b F w kd S).2.2).2.1 = 0 → YR told (L + 1) (if kd = 8 then L :: sk else sk) (zup o L kd) (zup f L (o_num b F w kd S).1) (zup z L (o_num b F w kd S).2.1) M') → Kf M') :
    ((kd = 0 → (zCalI l G Y_X4_number 0 0 [vr 1 0, vi 1, vi 50] M (fun x3 M2 => zAt l G Y_X6_readOrder (zEV G Y_X6_readOrder Kf) 236 [(0, vr 4 0), (1, vi kd), (2, vi x3), (3, vi 0)] [] M2 0 0))) ∧ (kd = 1 → (zCalI l G Y_X6_readFlow 0 0 [vr 4 0] M (fun x5 M4 => (zCalI l G Y_X4_number 0 0 [vr 1 0, vi 1, vi 40] M4 (fun x7 M6 => zAt l G Y_X6_readOrder (zEV G Y_X6_readOrder Kf) 236 [(0, vr 4 0), (1, vi kd), (2, vi x5), (3, vi x7)] [] M6 0 0))))) ∧ (kd = 2 → (zCalI l G Y_X4_number 0 0 [vr 1 0, vi 0, vi 39] M (fun x9 M8 => (zCalI l G Y_X4_number 0 0 [vr 1 0, vi (x9 + 1), vi 40] M8 (fun x11 M10 => zAt l G Y_X6_readOrder (zEV G Y_X6_readOrder Kf) 236 [(0, vr 4 0), (1, vi kd), (2, vi x9), (3, vi x11)] [] M10 0 0))))) ∧ (kd = 3 → (zCalI l G Y_X4_number 0 0 [vr 1 0, vi 0, vi 65536] M (fun x13 M12 => zAt l G Y_X6_readOrder (zEV G Y_X6_readOrder Kf) 236 [(0, vr 4 0), (1, vi kd), (2, vi x13), (3, vi 0)] [] M12 0 0))) ∧ (kd = 4 → (zCalI l G Y_X4_number 0 0 [vr 1 0, vi 0, vi 10] M (fun x15 M14 => zAt l G Y_X6_readOrder (zEV G Y_X6_readOrder Kf) 236 [(0, vr 4 0), (1, vi kd), (2, vi x15), (3, vi 0)] [] M14 0 0))) ∧ (kd = 5 → (zCalI l G Y_X4_number 0 0 [vr 1 0, vi 0, vi 1] M (fun x17 M16 => zAt l G Y_X6_readOrder (zEV G Y_X6_readOrder Kf) 236 [(0, vr 4 0), (1, vi kd), (2, vi x17), (3, vi 0)] [] M16 0 0))) ∧ (kd = 6 → zAt l G Y_X6_readOrder (zEV G Y_X6_readOrder Kf) 231 [(0, vr 4 0), (1, vi kd), (3, vi 0)] [] M 0 0) ∧ (kd = 7 → zAt l G Y_X6_readOrder (zEV G Y_X6_readOrder Kf) 231 [(0, vr 4 0), (1, vi kd), (3, vi 0)] [] M 0 0) ∧ (kd = 8 → (zCalI l G Y_X4_number 0 0 [vr 1 0, vi 0, vi 20] M (fun x19 M18 => (zCalV l G Y_X6_openBracket 0 0 [vr 4 0] M18 (fun M20 => zAt l G Y_X6_readOrder (zEV G Y_X6_readOrder Kf) 236 [(0, vr 4 0), (1, vi kd), (2, vi x19), (3, vi 0)] [] M20 0 0))))) ∧ (¬ kd = 0 ∧ ¬ kd = 1 ∧ ¬ kd = 2 ∧ ¬ kd = 3 ∧ ¬ kd = 4 ∧ ¬ kd = 5 ∧ ¬ kd = 6 ∧ ¬ kd = 7 ∧ ¬ kd = 8 → zAt l G Y_X6_readOrder (zEV G Y_X6_readOrder Kf) 231 [(0, vr 4 0), (1, vi kd), (3, vi 0)] [] M 0 0)) := by
  -- numbers alone
  have one : ∀ (lo hi : Int32), ¬ kd = 8 → o_num b F w kd S = ((t_num b F lo hi S).1, 0, (t_num b F lo hi S).2) → zCalI l G Y_X4_number 0 0 [vr 1 0, vi lo, vi hi] M (fun x3 M2 => zAt l G Y_X6_readOrder (zEV G Y_X6_readOrder Kf) 236 [(0, vr 4 0), (1, vi kd), (2, vi x3), (3, vi 0)] [] M2 0 0) := fun lo hi n8 e => by
    rw [e, if_neg n8, if_neg n8] at h
    refine C_numT hT hk fun P k1 => C_end (told := told) (sk := sk) (o := o) (f := f) (z := z) (S3 := (t_num b F lo hi S).2) (hT.set k1.len) (by rw [zmU]; exact k1) (hf.I (.inl rfl)) (fun g => (hY (t_num_0 g)).one) (fun g => hL (t_num_0 g)) fun M' a1 a2 a3 a4 => ?_
    rw [if_neg n8] at a2 a4
    exact h M' a1 a2 a3 a4
  -- a flow alone
  have fl : ¬ kd = 8 → o_num b F w kd S = (g_ix b F w S.1, 0, g_f b F w S) → zAt l G Y_X6_readOrder (zEV G Y_X6_readOrder Kf) 231 [(0, vr 4 0), (1, vi kd), (3, vi 0)] [] M 0 0 := fun n8 e => by
    rw [e, if_neg n8, if_neg n8] at h
    refine zb_X6_readOrder_231 (C_g hT hk hR hO fun P x k1 hx => C_end (told := told) (sk := sk) (o := o) (f := f) (z := z) (S3 := g_f b F w S) (hT.set k1.len) (by rw [zmU]; exact k1) (hf.I (.inl rfl)) (fun g => ?_) (fun g => hL (g_f_00 g)) fun M' a1 a2 a3 a4 => ?_)
    · refine (hY ?_).one
      refine Classical.byContradiction fun n => ?_
      rw [g_f_e n] at g
      exact n g
    · rw [if_neg n8] at a2 a4
      refine h M' a1 a2 a3 fun g => ?_
      have q := a4 g
      rw [(hx (t_exp_0 g)).1] at q
      exact q
  refine ⟨fun e => one 1 50 (by rw [e]; decide) (by rw [e]; rfl), fun e => ?_, fun e => ?_, fun e => one 0 65536 (by rw [e]; decide) (by rw [e]; rfl), fun e => one 0 10 (by rw [e]; decide) (by rw [e]; rfl), fun e => one 0 1 (by rw [e]; decide) (by rw [e]; rfl), fun e => fl (by rw [e]; decide) (by rw [e]; rfl), fun e => fl (by rw [e]; decide) (by rw [e]; rfl), fun e => ?_, fun e => fl e.2.2.2.2.2.2.2.2 ?_⟩
  · have n8 : ¬ kd = 8 := by rw [e]; decide
    have e2 : o_num b F w kd S = (g_ix b F w S.1, (t_num b F 1 40 (g_f b F w S)).1, (t_num b F 1 40 (g_f b F w S)).2) := by rw [e]; rfl
    rw [e2, if_neg n8, if_neg n8] at h
    refine C_g hT hk hR hO fun P x k1 hx => C_numT (S := g_f b F w S) (hT.set k1.len) (by rw [zmU]; exact k1) fun P2 k2 => ?_
    rw [zsI2]
    refine C_end (told := told) (sk := sk) (o := o) (f := f) (z := z) (S3 := (t_num b F 1 40 (g_f b F w S)).2) (hT.set k2.len) (by rw [zmU]; exact k2) (hf.I (.inl rfl)) (fun g => ?_) (fun g => hL (g_f_00 (t_num_0 g))) fun M' a1 a2 a3 a4 => ?_
    · have g := t_num_0 g
      refine (hY ?_).one
      refine Classical.byContradiction fun n => ?_
      rw [g_f_e n] at g
      exact n g
    · rw [if_neg n8] at a2 a4
      refine h M' a1 a2 a3 fun g => ?_
      have q := a4 g
      rw [(hx (t_num_0 (t_exp_0 g))).1] at q
      exact q
  · have n8 : ¬ kd = 8 := by rw [e]; decide
    have e2 : o_num b F w kd S = ((t_num b F 0 39 S).1, (t_num b F ((t_num b F 0 39 S).1 + 1) 40 (t_num b F 0 39 S).2).1, (t_num b F ((t_num b F 0 39 S).1 + 1) 40 (t_num b F 0 39 S).2).2) := by rw [e]; rfl
    rw [e2, if_neg n8, if_neg n8] at h
    refine C_numT hT hk fun P k1 => C_numT (S := (t_num b F 0 39 S).2) (hT.set k1.len) (by rw [zmU]; exact k1) fun P2 k2 => ?_
    rw [zsI2]
    refine C_end (told := told) (sk := sk) (o := o) (f := f) (z := z) (S3 := (t_num b F ((t_num b F 0 39 S).1 + 1) 40 (t_num b F 0 39 S).2).2) (hT.set k2.len) (by rw [zmU]; exact k2) (hf.I (.inl rfl)) (fun g => (hY (t_num_0 (t_num_0 g))).one) (fun g => hL (t_num_0 (t_num_0 g))) fun M' a1 a2 a3 a4 => ?_
    rw [if_neg n8] at a2 a4
    exact h M' a1 a2 a3 a4
  · have e2 : o_num b F w kd S = ((t_num b F 0 20 S).1, 0, (t_num b F 0 20 S).2) := by rw [e]; rfl
    rw [e2, if_pos e, if_pos e] at h
    refine C_numT hT hk fun P k1 => C_brack (S := (t_num b F 0 20 S).2) (told := told) (L := L) (sk := sk) (o := o) (f := f) (z := z) (hT.set k1.len) (by rw [zmU]; exact k1) (hf.I (.inl rfl)) (fun g => (hY (t_num_0 g)).one) hs fun M2 b1 b2 b3 b4 => ?_
    refine C_end (told := told) (sk := L :: sk) (o := o) (f := f) (z := z) (S3 := y_open b F sk.length (t_num b F 0 20 S).2) b1 b2 b3 b4 (fun g => hL (t_num_0 (y_open_0 g).1)) fun M' a1 a2 a3 a4 => ?_
    rw [if_pos e] at a2 a4
    exact h M' a1 a2 a3 a4
  · obtain ⟨n0, n1, n2, n3, n4, n5, n6, n7, n8⟩ := e
    unfold o_num
    rw [if_neg n0, if_neg n1, if_neg n2, if_neg n3, if_neg n4, if_neg n5, if_neg n8]
end
