/-! SETUPS: all of one, the class -/
section
variable {l : Launch} {G : zG} {M M0 : zM} {A : Nat} {b : Nat → Int32} {F : Nat} {S S' : Nat × Int32 × Int32} {w w' : Nat → Int32} {t : Int32}
noncomputable def s_step (b : Nat → Int32) (F : Nat) (X : (Nat × Int32 × Int32) × (Nat → Int32) × Int32) : (Nat × Int32 × Int32) × (Nat → Int32) × Int32 := s_stmt b F (t_exp b F 3 X.1, X.2)
noncomputable def s_loop (b : Nat → Int32) (F : Nat) : Nat → (Nat × Int32 × Int32) × (Nat → Int32) × Int32 → (Nat × Int32 × Int32) × (Nat → Int32) × Int32
  | 0, X => X
  | d + 1, X => if X.1.2.1 = 0 ∧ ¬ rd_kd b F X.1.1 = 0 then s_loop b F d (s_step b F X) else X
theorem rd_sk_ge {b : Nat → Int32} {F e : Nat} : e ≤ rd_n b F e := (rd_sk_le b F (F - e) e).1
theorem rd_e_ge {b : Nat → Int32} {F s : Nat} : s ≤ rd_e b F s ∧ (s < F → s + 1 ≤ rd_e b F s) := by
  unfold rd_e
  split
  · exact ⟨Nat.le_refl _, fun h => by omega⟩
  · split
    · have := (rd_sp_le b (rd_k (b s)) (F - (s + 1)) (s + 1)).1
      exact ⟨by omega, fun _ => this⟩
    · exact ⟨by omega, fun _ => by omega⟩
theorem t_adv_ge : S.1 ≤ (t_adv b F S).1 ∧ (S.1 < F → S.1 + 1 ≤ (t_adv b F S).1) := by
  have h1 := rd_e_ge (b := b) (F := F) (s := S.1)
  have h2 : rd_e b F S.1 ≤ rd_n b F (rd_e b F S.1) := rd_sk_ge
  show S.1 ≤ rd_n b F (rd_e b F S.1) ∧ (S.1 < F → S.1 + 1 ≤ rd_n b F (rd_e b F S.1))
  exact ⟨by omega, fun h => by have := h1.2 h; omega⟩
theorem t_fail_1 {c : Int32} : (t_fail c S).1 = S.1 := by unfold t_fail; split <;> rfl
theorem t_exp_ge {k : Nat} : S.1 ≤ (t_exp b F k S).1 ∧ ((t_exp b F k S).2.1 = 0 → S.1 < F → S.1 + 1 ≤ (t_exp b F k S).1) := by
  unfold t_exp
  split
  · split
    · exact ⟨t_adv_ge.1, fun _ => t_adv_ge.2⟩
    · exact ⟨Nat.le_refl _, fun h => absurd (show (1 : Int32) = 0 from h) (by decide)⟩
  · next g => exact ⟨Nat.le_refl _, fun h => absurd h g⟩
theorem t_num_ge {lo hi : Int32} : S.1 ≤ (t_num b F lo hi S).2.1 := by
  unfold t_num
  repeat' split
  all_goals first | exact t_adv_ge.1 | exact Nat.le_refl _
theorem rd_kd_F {s : Nat} (h : ¬ rd_kd b F s = 0) : s < F := by
  refine Classical.byContradiction fun g => h ?_
  unfold rd_kd
  rw [if_pos (by omega)]
theorem s_once_ge {bit : Int32} : (s_once b F bit t S).2.1 = 0 → S.1 < F → S.1 + 1 ≤ (s_once b F bit t S).1 := fun h hs => by
  have e := (s_once_t h).1
  rw [e] at h ⊢
  exact t_exp_ge.2 h hs
theorem f_8_ge : S.1 ≤ (f_8 b F S).1 := by
  have h1 : S.1 ≤ (f_n b F S).2.1 := t_num_ge
  have h2 : (f_n b F S).2.1 ≤ (f_p b F S).2.1 := t_num_ge
  have h3 : (f_p b F S).2.1 ≤ (f_s b F S).2.1 := t_num_ge
  have h4 : (f_s b F S).2.1 ≤ (f_c b F S).2.1 := t_num_ge
  have h5 : (f_c b F S).2.1 ≤ (f_8 b F S).1 := by
    unfold f_8
    rcases Classical.em (f_mk b F S) with c | c
    · rw [pif_pos c]; exact t_exp_ge.1
    · rw [pif_neg c]; exact Nat.le_refl _
  omega
theorem s_stmt_ge (h : (s_stmt b F (S, w, t)).1.2.1 = 0) : S.1 + 1 ≤ (s_stmt b F (S, w, t)).1.1 := by
  have er0 : S.2.1 = 0 := by
    refine Classical.byContradiction fun g => ?_
    rw [s_stmt_e g] at h
    exact g h
  have kw : ∀ tt, rd_is b F S.1 tt → S.1 < F := fun tt g => rd_kd_F (by rw [g.1]; decide)
  have st : ∀ (bit : Int32) (j : Nat) (hi : Int32), S.1 < F → (s_set b F bit j hi (S, w, t)).1.2.1 = 0 → S.1 + 1 ≤ (s_set b F bit j hi (S, w, t)).1.1 := fun bit j hi hs q => by
    have h1 : (s_once b F bit t S).2.1 = 0 := t_num_0 q
    exact Nat.le_trans (s_once_ge h1 hs) (t_num_ge (b := b) (F := F) (lo := 0) (hi := hi) (S := s_once b F bit t S))
  unfold s_stmt at h ⊢
  rcases Classical.em (rd_is b F (S, w, t).1.1 [108, 105, 109, 105, 116, 115]) with c | c
  · rw [pif_pos c] at h ⊢
    have h1 : (s_once b F 1 t S).2.1 = 0 := t_num_0 (t_num_0 h)
    exact Nat.le_trans (s_once_ge h1 (kw _ c)) (Nat.le_trans (t_num_ge (b := b) (F := F) (lo := 0) (hi := 39) (S := s_once b F 1 t S)) (t_num_ge (b := b) (F := F) (lo := (t_num b F 0 39 (s_once b F 1 t S)).1 + 1) (hi := 40) (S := (t_num b F 0 39 (s_once b F 1 t S)).2)))
  rw [pif_neg c] at h ⊢
  rcases Classical.em (rd_is b F (S, w, t).1.1 [116, 111, 112]) with c | c
  · rw [pif_pos c] at h ⊢
    exact st _ _ _ (kw _ c) h
  rw [pif_neg c] at h ⊢
  rcases Classical.em (rd_is b F (S, w, t).1.1 [119, 101, 105, 103, 104, 116]) with c | c
  · rw [pif_pos c] at h ⊢
    exact st _ _ _ (kw _ c) h
  rw [pif_neg c] at h ⊢
  rcases Classical.em (rd_is b F (S, w, t).1.1 [103, 101, 110, 116, 108, 101]) with c | c
  · rw [pif_pos c] at h ⊢
    exact st _ _ _ (kw _ c) h
  rw [pif_neg c] at h ⊢
  rcases Classical.em (rd_is b F (S, w, t).1.1 [115, 101, 101, 100]) with c | c
  · rw [pif_pos c] at h ⊢
    exact st _ _ _ (kw _ c) h
  rw [pif_neg c] at h ⊢
  rcases Classical.em (rd_is b F (S, w, t).1.1 [102, 108, 111, 119]) with c | c
  · rw [pif_pos c] at h ⊢
    unfold s_flow at h ⊢
    by_cases d : w 11 = 6
    · rw [if_pos d] at h
      unfold t_fail at h
      rw [if_pos er0] at h
      exact absurd (show (5 : Int32) = 0 from h) (by decide)
    · rw [if_neg d] at h ⊢
      have h1 : (t_exp b F 1 S).2.1 = 0 := (s_name_0 (t_exp_0 (f_8_0 h).2.2.2.2)).1
      have g1 := t_exp_ge.2 h1 (kw _ c)
      have g2 : (f_2 b F w S).1 = (t_exp b F 1 S).1 := s_name_1
      have g3 : (f_2 b F w S).1 ≤ (t_exp b F 1 (f_2 b F w S)).1 := t_exp_ge.1
      have g4 : (t_exp b F 1 (f_2 b F w S)).1 ≤ (f_8 b F (t_exp b F 1 (f_2 b F w S))).1 := f_8_ge
      show S.1 + 1 ≤ (f_8 b F (t_exp b F 1 (f_2 b F w S))).1
      omega
  · rw [pif_neg c] at h
    unfold t_fail at h
    rw [if_pos (show (S, w, t).1.2.1 = 0 from er0)] at h
    exact absurd (show (1 : Int32) = 0 from h) (by decide)
theorem s_stmt_0 (h : (s_stmt b F (S, w, t)).1.2.1 = 0) : S.2.1 = 0 := by
  refine Classical.byContradiction fun g => ?_
  rw [s_stmt_e g] at h
  exact g h
theorem s_step_ge {X : (Nat × Int32 × Int32) × (Nat → Int32) × Int32} (h : (s_step b F X).1.2.1 = 0) : X.1.2.1 = 0 ∧ (X.1.1 < F → X.1.1 + 2 ≤ (s_step b F X).1.1) := by
  obtain ⟨S, w, t⟩ := X
  have h1 := s_stmt_ge h
  have h2 := s_stmt_0 h
  have h3 : S.2.1 = 0 := t_exp_0 h2
  refine ⟨h3, fun hs => ?_⟩
  have h4 := t_exp_ge.2 h2 hs
  show S.1 + 2 ≤ (s_stmt b F (t_exp b F 3 S, w, t)).1.1
  have h6 : S.1 + 1 ≤ (t_exp b F 3 S).1 := h4
  have h7 : (t_exp b F 3 S).1 + 1 ≤ (s_stmt b F (t_exp b F 3 S, w, t)).1.1 := h1
  omega
theorem K_loop {Kf : Int32 → zM → Prop} (hW : WordC l G) (hFl : FillC l G) (hb : ∀ j, j < F → 1 ≤ (b j).toInt ∧ (b j).toInt ≤ 255) : ∀ (d i : Nat) (y : Int32) (X : (Nat × Int32 × Int32) × (Nat → Int32) × Int32) (M : zM) (c k : Nat), i + d = 500 → y.toInt = i → KS b F M0 X.1 X.2.1 X.2.2 M → (X.1.2.1 = 0 → OKZ X.2.1) → (X.1.2.1 = 0 → 2 * i ≤ X.1.1) → c ≤ 3 * i → k ≤ 20 * i → c ≤ 753 → k ≤ 5020 →
    (∀ M', KS b F M0 (s_loop b F d X).1 (s_loop b F d X).2.1 (s_loop b F d X).2.2 M' → ((s_loop b F d X).1.2.1 = 0 → OKZ (s_loop b F d X).2.1) → Kf (if (s_loop b F d X).1.2.1 = 0 then 1 else 0) M') → zAt l G Y_X7_readAll (zEM G Y_X7_readAll 753 5020 (zKI Kf, none)) 83 [(0, vr 3 0), (1, vi y)] [] M c k := by
  intro d
  have done : ∀ (X : (Nat × Int32 × Int32) × (Nat → Int32) × Int32) (M : zM) (c k : Nat), KS b F M0 X.1 X.2.1 X.2.2 M → c ≤ 753 → k ≤ 5020 → Kf (if X.1.2.1 = 0 then 1 else 0) M → zAt l G Y_X7_readAll (zEM G Y_X7_readAll 753 5020 (zKI Kf, none)) 128 [(0, vr 3 0)] [] M c k := fun X M c k h hc hk hK => by
    have h5 : zmI M 1 0 5 = X.1.2.1 := h.tk.err
    refine zb_X7_readAll_128 ⟨fun g => ⟨hc, hk, ?_⟩, fun g => ⟨hc, hk, ?_⟩⟩
    · rw [h5] at g
      rw [if_neg g] at hK
      exact hK
    · rw [h5] at g
      rw [if_pos g] at hK
      exact hK
  induction d with
  | zero =>
    intro i y X M c k hi hy h ho h2 c1 k1 c2 k2 hK
    refine zb_X7_readAll_83 ⟨fun _ => done X M c k h c2 k2 (hK M h ho), fun q => ?_⟩
    exfalso
    rw [ti_le, show (500 : Int32).toInt = 500 from rfl] at q
    omega
  | succ d ih =>
    intro i y X M c k hi hy h ho h2 c1 k1 c2 k2 hK
    have h5 : zmI M 1 0 5 = X.1.2.1 := h.tk.err
    have h3 : zmI M 1 0 2 = nI (rd_kd b F X.1.1) := h.tk.kind
    have hF := h.tx.hF
    unfold s_loop at hK
    refine zb_X7_readAll_83 ⟨fun q => ?_, fun _ => ⟨fun g => ?_, fun g => ⟨fun g2 => ?_, fun g2 => ?_⟩⟩⟩
    · exfalso
      rw [ti_le, show (500 : Int32).toInt = 500 from rfl] at q
      omega
    · rw [h5] at g
      rw [if_neg (fun e => g e.1)] at hK
      exact done X M c k h c2 k2 (hK M h ho)
    · rw [h3] at g2
      have g3 : rd_kd b F X.1.1 = 0 := nI_inj (c := 0) (by have := rd_kd_lt b F X.1.1; omega) (by omega) g2
      rw [if_neg (fun e => e.2 g3)] at hK
      exact done X M c k h c2 k2 (hK M h ho)
    · rw [h5] at g
      rw [h3] at g2
      have g3 : ¬ rd_kd b F X.1.1 = 0 := fun e => g2 (by rw [e]; rfl)
      rw [if_pos ⟨g, g3⟩] at hK
      have hs := rd_kd_F g3
      have h2g := h2 g
      refine ⟨by omega, by omega, K_exp (k := 3) h rfl (by decide) fun P k3 => ⟨3, 20, by omega, by omega, K_stmt hW hFl k3 (fun _ => (ho g).ws) hb fun M' k4 => ?_⟩⟩
      refine ih (i + 1) (y + 1) (s_step b F X) M' (c + 3) (k + 20) (by omega) (ti_inc hy (by omega)) k4 (fun q => OKZ_stmt (ho g) q) (fun q => ?_) (by omega) (by omega) (by omega) (by omega) hK
      have := (s_step_ge q).2 hs
      omega
end
