/-! SCRIPTS: what a script is read to -/
section
variable {l : Launch} {G : zG} {M M0 Mz : zM} {A : Nat} {b : Nat → Int32} {F : Nat} {S S' : Nat × Int32 × Int32} {w f Q Q0 : Nat → Int32} {t : Int32}
/-- place and error; orders told, rows; the rows that are open; those that were before each row; the rows -/
abbrev SY : Type := (Nat × Int32 × Int32) × (Nat × Nat) × List Nat × (Nat → List Nat) × (Nat → Int32) × (Nat → Int32) × (Nat → Int32)
/-- an order's numbers -/
noncomputable def o_num (b : Nat → Int32) (F : Nat) (w : Nat → Int32) (kd : Int32) (S : Nat × Int32 × Int32) : Int32 × Int32 × (Nat × Int32 × Int32) :=
  if kd = 0 then ((t_num b F 1 50 S).1, 0, (t_num b F 1 50 S).2) else
  if kd = 1 then (g_ix b F w S.1, (t_num b F 1 40 (g_f b F w S)).1, (t_num b F 1 40 (g_f b F w S)).2) else
  if kd = 2 then ((t_num b F 0 39 S).1, (t_num b F ((t_num b F 0 39 S).1 + 1) 40 (t_num b F 0 39 S).2).1, (t_num b F ((t_num b F 0 39 S).1 + 1) 40 (t_num b F 0 39 S).2).2) else
  if kd = 3 then ((t_num b F 0 65536 S).1, 0, (t_num b F 0 65536 S).2) else
  if kd = 4 then ((t_num b F 0 10 S).1, 0, (t_num b F 0 10 S).2) else
  if kd = 5 then ((t_num b F 0 1 S).1, 0, (t_num b F 0 1 S).2) else
  if kd = 8 then ((t_num b F 0 20 S).1, 0, (t_num b F 0 20 S).2) else (g_ix b F w S.1, 0, g_f b F w S)
def y_open (b : Nat → Int32) (F dp : Nat) (S : Nat × Int32 × Int32) : Nat × Int32 × Int32 := t_exp b F 4 (if rd_kd b F S.1 = 4 ∧ 2 ≤ dp then t_fail 5 S else S)
/-- the order's word is gone past -/
noncomputable def y_word (b : Nat → Int32) (F told : Nat) (S : Nat × Int32 × Int32) : Nat × Int32 × Int32 := t_exp b F 1 (if o_kind b F S.1 = -1 then t_fail 1 S else if 30 ≤ told then t_fail 5 S else S)
noncomputable def y_order (b : Nat → Int32) (F : Nat) (w : Nat → Int32) (Y : SY) : SY :=
  ((if o_kind b F Y.1.1 = 8 then y_open b F Y.2.2.1.length (o_num b F w (o_kind b F Y.1.1) (y_word b F Y.2.1.1 Y.1)).2.2 else t_exp b F 3 (o_num b F w (o_kind b F Y.1.1) (y_word b F Y.2.1.1 Y.1)).2.2),
   (Y.2.1.1 + 1, Y.2.1.2 + 1), (if o_kind b F Y.1.1 = 8 then Y.2.1.2 :: Y.2.2.1 else Y.2.2.1), zup Y.2.2.2.1 (Y.2.1.2 + 1) (if o_kind b F Y.1.1 = 8 then Y.2.1.2 :: Y.2.2.1 else Y.2.2.1),
   zup Y.2.2.2.2.1 Y.2.1.2 (o_kind b F Y.1.1), zup Y.2.2.2.2.2.1 Y.2.1.2 (o_num b F w (o_kind b F Y.1.1) (y_word b F Y.2.1.1 Y.1)).1, zup Y.2.2.2.2.2.2 Y.2.1.2 (o_num b F w (o_kind b F Y.1.1) (y_word b F Y.2.1.1 Y.1)).2.1)
def y_close (b : Nat → Int32) (F : Nat) (Y : SY) : SY :=
  (t_exp b F 3 (t_exp b F 5 Y.1), (Y.2.1.1, Y.2.1.2 + 1), Y.2.2.1.tail, zup Y.2.2.2.1 (Y.2.1.2 + 1) Y.2.2.1.tail, zup Y.2.2.2.2.1 Y.2.1.2 9, zup Y.2.2.2.2.2.1 Y.2.1.2 (nI (Y.2.2.1.headD 0)), zup (zup Y.2.2.2.2.2.2 Y.2.1.2 0) (Y.2.2.1.headD 0) (nI (Y.2.1.2 + 1)))
noncomputable def y_step (b : Nat → Int32) (F : Nat) (w : Nat → Int32) (Y : SY) : SY := if rd_kd b F Y.1.1 = 5 ∧ 0 < Y.2.2.1.length then y_close b F Y else y_order b F w Y
noncomputable def y_loop (b : Nat → Int32) (F : Nat) (w : Nat → Int32) : Nat → SY → SY
  | 0, Y => Y
  | d + 1, Y => if Y.1.2.1 = 0 ∧ ¬ (rd_kd b F Y.1.1 = 0 ∧ Y.2.2.1.length = 0) then y_loop b F w d (y_step b F w Y) else Y
theorem g_f_e (h : ¬ S.2.1 = 0) : g_f b F w S = S := by
  unfold g_f
  rw [t_fail_e h, t_fail_e h, pif_same, pif_same, t_exp_e h]
theorem y_open_e {dp : Nat} (h : ¬ S.2.1 = 0) : y_open b F dp S = S := by
  unfold y_open
  rw [t_fail_e h]
  split <;> exact t_exp_e h
theorem y_word_e {told : Nat} (h : ¬ S.2.1 = 0) : y_word b F told S = S := by
  unfold y_word
  rw [t_fail_e h, t_fail_e h]
  repeat' split
  all_goals exact t_exp_e h
theorem o_num_e {kd : Int32} (h : ¬ S.2.1 = 0) : (o_num b F w kd S).2.2 = S := by
  unfold o_num
  rw [g_f_e h]
  simp only [t_num_e h]
  repeat' split
  all_goals rfl
theorem y_order_e {Y : SY} (h : ¬ Y.1.2.1 = 0) : (y_order b F w Y).1 = Y.1 := by
  have e1 : y_word b F Y.2.1.1 Y.1 = Y.1 := y_word_e h
  show (if _ then _ else _) = _
  rw [e1]
  have e2 := o_num_e (b := b) (F := F) (w := w) (kd := o_kind b F Y.1.1) h
  rw [e2, y_open_e h, t_exp_e h]
  split <;> rfl
theorem y_close_e {Y : SY} (h : ¬ Y.1.2.1 = 0) : (y_close b F Y).1 = Y.1 := by
  show t_exp b F 3 (t_exp b F 5 Y.1) = Y.1
  rw [t_exp_e h, t_exp_e h]
theorem y_step_e {Y : SY} (h : ¬ Y.1.2.1 = 0) : (y_step b F w Y).1 = Y.1 := by
  unfold y_step
  split
  · exact y_close_e h
  · exact y_order_e h
theorem y_loop_e {d : Nat} {Y : SY} (h : ¬ Y.1.2.1 = 0) : y_loop b F w d Y = Y := by
  cases d with
  | zero => rfl
  | succ d =>
    unfold y_loop
    rw [if_neg fun g => h g.1]
end
