/-! SCRIPTS: an order's word, a flow's name -/
section
variable {l : Launch} {G : zG} {M M0 Mz : zM} {A : Nat} {b : Nat → Int32} {F : Nat} {S S' : Nat × Int32 × Int32} {w f Q Q0 : Nat → Int32} {t : Int32}
noncomputable def o_kind (b : Nat → Int32) (F s : Nat) : Int32 := pif (rd_is b F s [116, 105, 99, 107]) 0 (pif (rd_is b F s [115, 101, 110, 100]) 1 (pif (rd_is b F s [108, 105, 109, 105, 116, 115]) 2 (pif (rd_is b F s [116, 111, 112]) 3 (pif (rd_is b F s [119, 101, 105, 103, 104, 116]) 4 (pif (rd_is b F s [103, 101, 110, 116, 108, 101]) 5 (pif (rd_is b F s [115, 116, 111, 112]) 6 (pif (rd_is b F s [115, 116, 97, 114, 116]) 7 (pif (rd_is b F s [97, 103, 97, 105, 110]) 8 (-1)))))))))
theorem C_kind {s : Nat} {er ea : Int32} {Kf : Int32 → zM → Prop} (hT : Tx b F M) (hk : Tk b F s er ea (zmI M 1 0)) (h : Kf (o_kind b F s) M) : zCalI l G Y_X6_orderTold 0 0 [vr 4 0] M Kf := by
  unfold o_kind at h
  refine zm_X6_orderTold fun a1 t1 => C_isW hT hk t1 (fun q => ⟨fun d => absurd d (by decide), fun _ => by rw [pif_pos q] at h; exact h⟩) (fun q => ⟨fun _ => ?_, fun d => absurd rfl d⟩) (by decide)
  rw [pif_neg q] at h
  refine fun a2 t2 => C_isW hT hk t2 (fun q => ⟨fun d => absurd d (by decide), fun _ => by rw [pif_pos q] at h; exact h⟩) (fun q => ⟨fun _ => ?_, fun d => absurd rfl d⟩) (by decide)
  rw [pif_neg q] at h
  refine fun a3 t3 => C_isW hT hk t3 (fun q => ⟨fun d => absurd d (by decide), fun _ => by rw [pif_pos q] at h; exact h⟩) (fun q => ⟨fun _ => ?_, fun d => absurd rfl d⟩) (by decide)
  rw [pif_neg q] at h
  refine fun a4 t4 => C_isW hT hk t4 (fun q => ⟨fun d => absurd d (by decide), fun _ => by rw [pif_pos q] at h; exact h⟩) (fun q => ⟨fun _ => ?_, fun d => absurd rfl d⟩) (by decide)
  rw [pif_neg q] at h
  refine fun a5 t5 => C_isW hT hk t5 (fun q => ⟨fun d => absurd d (by decide), fun _ => by rw [pif_pos q] at h; exact h⟩) (fun q => ⟨fun _ => ?_, fun d => absurd rfl d⟩) (by decide)
  rw [pif_neg q] at h
  refine fun a6 t6 => C_isW hT hk t6 (fun q => ⟨fun d => absurd d (by decide), fun _ => by rw [pif_pos q] at h; exact h⟩) (fun q => ⟨fun _ => ?_, fun d => absurd rfl d⟩) (by decide)
  rw [pif_neg q] at h
  refine fun a7 t7 => C_isW hT hk t7 (fun q => ⟨fun d => absurd d (by decide), fun _ => by rw [pif_pos q] at h; exact h⟩) (fun q => ⟨fun _ => ?_, fun d => absurd rfl d⟩) (by decide)
  rw [pif_neg q] at h
  refine fun a8 t8 => C_isW hT hk t8 (fun q => ⟨fun d => absurd d (by decide), fun _ => by rw [pif_pos q] at h; exact h⟩) (fun q => ⟨fun _ => ?_, fun d => absurd rfl d⟩) (by decide)
  rw [pif_neg q] at h
  exact fun a9 t9 => C_isW hT hk t9 (fun q => ⟨fun d => absurd d (by decide), fun _ => by rw [pif_pos q] at h; exact h⟩) (fun q => ⟨fun _ => by rw [pif_neg q] at h; exact h, fun d => absurd rfl d⟩) (by decide)
theorem R_kind {Kf : Int32 → zM → Prop} (hT : Ux b F M) (hU : UK b F S Q0 (zmI M 30 0)) (h0 : S.2.1 = 0) (h : Kf (o_kind b F S.1) M) : zCalI l G Y_X9_orderHere 0 0 [vr 30 0] M Kf := by
  have key : ∀ {tt : List Nat} {Kg : Int32 → zM → Prop} {a : Nat}, zmT M a = some tt → tt.length < 1000 → (rd_is b F S.1 tt → Kg 1 M) → (¬ rd_is b F S.1 tt → Kg 0 M) → zCalI l G Y_X9_isKey 0 0 [vr 30 0, va a] M Kg := fun ht hl h1 h2 => R_keyT hT hU ht hl (fun _ g => h1 g) (fun n => h2 fun g => n ⟨h0, g⟩)
  unfold o_kind at h
  refine zm_X9_orderHere fun a1 t1 => key t1 (by decide) (fun q => ⟨fun d => absurd d (by decide), fun _ => by rw [pif_pos q] at h; exact h⟩) (fun q => ⟨fun _ => ?_, fun d => absurd rfl d⟩)
  rw [pif_neg q] at h
  refine fun a2 t2 => key t2 (by decide) (fun q => ⟨fun d => absurd d (by decide), fun _ => by rw [pif_pos q] at h; exact h⟩) (fun q => ⟨fun _ => ?_, fun d => absurd rfl d⟩)
  rw [pif_neg q] at h
  refine fun a3 t3 => key t3 (by decide) (fun q => ⟨fun d => absurd d (by decide), fun _ => by rw [pif_pos q] at h; exact h⟩) (fun q => ⟨fun _ => ?_, fun d => absurd rfl d⟩)
  rw [pif_neg q] at h
  refine fun a4 t4 => key t4 (by decide) (fun q => ⟨fun d => absurd d (by decide), fun _ => by rw [pif_pos q] at h; exact h⟩) (fun q => ⟨fun _ => ?_, fun d => absurd rfl d⟩)
  rw [pif_neg q] at h
  refine fun a5 t5 => key t5 (by decide) (fun q => ⟨fun d => absurd d (by decide), fun _ => by rw [pif_pos q] at h; exact h⟩) (fun q => ⟨fun _ => ?_, fun d => absurd rfl d⟩)
  rw [pif_neg q] at h
  refine fun a6 t6 => key t6 (by decide) (fun q => ⟨fun d => absurd d (by decide), fun _ => by rw [pif_pos q] at h; exact h⟩) (fun q => ⟨fun _ => ?_, fun d => absurd rfl d⟩)
  rw [pif_neg q] at h
  refine fun a7 t7 => key t7 (by decide) (fun q => ⟨fun d => absurd d (by decide), fun _ => by rw [pif_pos q] at h; exact h⟩) (fun q => ⟨fun _ => ?_, fun d => absurd rfl d⟩)
  rw [pif_neg q] at h
  refine fun a8 t8 => key t8 (by decide) (fun q => ⟨fun d => absurd d (by decide), fun _ => by rw [pif_pos q] at h; exact h⟩) (fun q => ⟨fun _ => ?_, fun d => absurd rfl d⟩)
  rw [pif_neg q] at h
  exact fun a9 t9 => key t9 (by decide) (fun q => ⟨fun d => absurd d (by decide), fun _ => by rw [pif_pos q] at h; exact h⟩) (fun q => ⟨fun _ => by rw [pif_neg q] at h; exact h, fun d => absurd rfl d⟩)
theorem o_kind_rng (b : Nat → Int32) (F s : Nat) : (o_kind b F s = -1 ∨ (0 ≤ (o_kind b F s).toInt ∧ (o_kind b F s).toInt ≤ 8)) ∧ (¬ o_kind b F s = -1 → rd_kd b F s = 1) := by
  have z : ∀ {tt : List Nat} {x y : Int32}, (0 ≤ x.toInt ∧ x.toInt ≤ 8) → ((y = -1 ∨ (0 ≤ y.toInt ∧ y.toInt ≤ 8)) ∧ (¬ y = -1 → rd_kd b F s = 1)) → ((pif (rd_is b F s tt) x y = -1 ∨ (0 ≤ (pif (rd_is b F s tt) x y).toInt ∧ (pif (rd_is b F s tt) x y).toInt ≤ 8)) ∧ (¬ pif (rd_is b F s tt) x y = -1 → rd_kd b F s = 1)) := fun {tt x y} hx hy => by
    rcases Classical.em (rd_is b F s tt) with c | c
    · rw [pif_pos c]; exact ⟨.inr hx, fun _ => c.1⟩
    · rw [pif_neg c]; exact hy
  unfold o_kind
  exact z (by decide) (z (by decide) (z (by decide) (z (by decide) (z (by decide) (z (by decide) (z (by decide) (z (by decide) (z (by decide) ⟨.inl rfl, fun d => absurd rfl d⟩))))))))
/-- the first flow of that name; -1 if there is none -/
noncomputable def g_ixd (b : Nat → Int32) (F : Nat) (w : Nat → Int32) (s : Nat) : Nat → Nat → Int32
  | 0, _ => -1
  | d + 1, i => pif (rd_nm b F w s i) (nI i) (g_ixd b F w s d (i + 1))
noncomputable def g_ix (b : Nat → Int32) (F : Nat) (w : Nat → Int32) (s : Nat) : Int32 := g_ixd b F w s (w 11).toInt.toNat 0
theorem g_ixd_at {s i : Nat} (h : rd_nm b F w s i) : ∀ (d j : Nat), j ≤ i → i < j + d → (∀ k, j ≤ k → k < i → ¬ rd_nm b F w s k) → g_ixd b F w s d j = nI i := by
  intro d
  induction d with
  | zero => intro j h1 h2; omega
  | succ d ih =>
    intro j h1 h2 h3
    unfold g_ixd
    rcases Nat.lt_or_ge j i with c | c
    · rw [pif_neg (h3 j (Nat.le_refl _) c)]
      exact ih (j + 1) (by omega) (by omega) fun k a b => h3 k (by omega) b
    · rw [show j = i by omega, pif_pos h]
theorem g_ixd_no {s : Nat} : ∀ (d j : Nat), (∀ k, j ≤ k → k < j + d → ¬ rd_nm b F w s k) → g_ixd b F w s d j = -1 := by
  intro d
  induction d with
  | zero => exact fun _ _ => rfl
  | succ d ih =>
    intro j h
    unfold g_ixd
    rw [pif_neg (h j (Nat.le_refl _) (by omega))]
    exact ih (j + 1) fun k a b => h k (by omega) (by omega)
/-- a flow is named -/
noncomputable def g_f (b : Nat → Int32) (F : Nat) (w : Nat → Int32) (S : Nat × Int32 × Int32) : Nat × Int32 × Int32 := t_exp b F 1 (pif (rd_kd b F S.1 = 1 ∧ rd_e b F S.1 - S.1 ≤ 8) (pif (rd_has b F w S.1) S (t_fail 4 S)) (t_fail 1 S))
end
