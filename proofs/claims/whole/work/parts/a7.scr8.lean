/-! SCRIPTS: an order, the class -/
section
variable {l : Launch} {G : zG} {M M0 Mz : zM} {A : Nat} {b : Nat → Int32} {F : Nat} {S S' : Nat × Int32 × Int32} {w f Q Q0 : Nat → Int32} {t : Int32}
variable {told L a : Nat} {sk r : List Nat} {o z : Nat → Int32}
theorem YR.more (h : YR told L sk o f z M) (ht : told < 1000) : YR (told + 1) L sk o f z (zsI M 4 0 8 (zmI M 4 0 8 + 1)) := by
  refine YR.mk (by rw [zmU, zup_ne _ _ (by omega)]; exact h.len) ?_ (by rw [zmU, zup_ne _ _ (by omega)]; exact h.dep) (fun k hk => by rw [zmO _ _ _ _ _ _ (by omega), zmO _ _ _ _ _ _ (by omega), zmO _ _ _ _ _ _ (by omega)]; exact h.row k hk) (fun i hi => by rw [zmO _ _ _ _ _ _ (by omega)]; exact h.opn i hi)
  rw [zmU, zup_self, h.tol]
  exact nI_ofT (ti_inc (ti_nI (by omega)) (by omega))
theorem o_num_0 {kd : Int32} (h : (o_num b F w kd S).2.2.2.1 = 0) : S.2.1 = 0 := by
  refine Classical.byContradiction fun g => ?_
  rw [o_num_e g] at h
  exact g h
theorem g_f_00 (h : (g_f b F w S).2.1 = 0) : S.2.1 = 0 := by
  refine Classical.byContradiction fun g => ?_
  rw [g_f_e g] at h
  exact g h
/-- the row and what is behind it -/
theorem C_end {kd x y : Int32} {Kf : zM → Prop} {S3 : Nat × Int32 × Int32} (hT : Tx b F M) (hk : TK b F S3 (zmI M 1 0)) (hf : yFr M0 M) (hY : S3.2.1 = 0 → YR told L sk o f z M) (hL : S3.2.1 = 0 → L < 60) (h : ∀ M', Tx b F M' → TK b F (if kd = 8 then S3 else t_exp b F 3 S3) (zmI M' 1 0) → yFr M0 M' → ((if kd = 8 then S3 else t_exp b F 3 S3).2.1 = 0 → YR told (L + 1) sk (zup o L kd) (zup f L x) (zup z L y) M') → Kf M') : zAt l G Y_X6_readOrder (zEV G Y_X6_readOrder Kf) 236 [(0, vr 4 0), (1, vi kd), (2, vi x), (3, vi y)] [] M 0 0 := by
  refine zb_X6_readOrder_236 (C_row (told := told) (L := L) (sk := sk) (o := o) (f := f) (z := z) hf fun M4 f4 e4 y4 => ?_)
  have hT4 : Tx b F M4 := Tx.mk hT.hF (by rw [e4]; exact hT.len) (fun j hj => by
    show M4.1 2 0 j = _
    rw [f4.1 2 0 (by omega), ← hf.1 2 0 (by omega)]
    exact hT.byt j hj)
  have t4 : TK b F S3 (zmI M4 1 0) := by rw [e4]; exact hk
  refine ⟨fun e => ?_, fun e => C_expT (k := 3) hT4 t4 rfl (by decide) fun P k2 => ?_⟩
  · rw [if_pos e] at h
    exact h M4 hT4 t4 f4 fun g => y4 (hY g) (hL g)
  · rw [if_neg e] at h
    exact h _ (hT4.set k2.len) (by rw [zmU]; exact k2) (f4.I (.inl rfl)) fun g => (y4 (hY (t_exp_0 g)) (hL (t_exp_0 g))).one
end
