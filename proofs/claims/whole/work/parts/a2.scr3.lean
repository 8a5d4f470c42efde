/-! SCRIPTS: a flow is named, the reference -/
section
variable {l : Launch} {G : zG} {M M0 Mz : zM} {A : Nat} {b : Nat → Int32} {F : Nat} {S S' : Nat × Int32 × Int32} {w f Q Q0 : Nat → Int32} {t : Int32}
theorem R_isNmU {i : Nat} {p : Int32} {Kf : Int32 → zM → Prop} (hT : Ux b F M) (hU : UK b F S Q0 (zmI M 30 0)) (h0 : S.2.1 = 0) (hw : zmI M 31 0 = w) (hp : p.toInt = i) (hi : i < 6) (hl : 0 ≤ (w (sf i 9)).toInt ∧ (w (sf i 9)).toInt ≤ 8) (h1 : rd_nm b F w S.1 i → Kf 1 M) (h2 : ¬ rd_nm b F w S.1 i → Kf 0 M) : zCalI l G Y_X9_isName 0 0 [vr 30 0, vi p] M Kf := by
  have hF := hT.hF
  have hk := hU.tk h0
  have he := rd_e_le (b := b) hU.hs
  have e9 : ((16 + (26 * p)) + 9).toInt = (sf i 9 : Nat) := by unfold sf; (first | omega | ((simp (disch := (first | omega | (simp (disch := (first | omega | (simp (disch := (first | omega | (simp (disch := omega) only [ti_add, ti_sub, ti_mul, Int32.reduceToInt, ti_n1, ti_n2, ti_n3, and_self] <;> omega))) only [ti_add, ti_sub, ti_mul, Int32.reduceToInt, ti_n1, ti_n2, ti_n3, and_self] <;> omega))) only [ti_add, ti_sub, ti_mul, Int32.reduceToInt, ti_n1, ti_n2, ti_n3, and_self] <;> omega))) only [ti_le, ti_lt, ti_eq, ti_add, ti_sub, ti_mul, Int32.reduceToInt, ti_n1, ti_n2, ti_n3, ti_cl] at *) <;> omega))
  refine zm_X9_isName ⟨ti_in (by rw [e9]; unfold sf; omega), R_len hT hU h0 ⟨fun c => ?_, fun c => h2 fun g => c ?_⟩⟩
  · rw [ti_at e9, hw] at c
    have c2 : (w (sf i 9)).toInt = ((rd_e b F S.1 - S.1 : Nat) : Int) := by rw [c, ti_nI (by omega)]
    have key : ∀ d j : Nat, j + d = rd_e b F S.1 - S.1 → (∀ k, k < j → w (sf i (10 + k)) = b (S.1 + k)) → ∀ y : Int32, y.toInt = j → zAt l G Y_X9_isName (zEI G Y_X9_isName Kf) 28 [(0, vr 30 0), (2, vi ((16 + (26 * p)) + 9)), (3, vi y)] [] M 0 0 := by
      intro d
      induction d with
      | zero =>
        intro j hj hq y hy
        refine zb_X9_isName_28 (R_len hT hU h0 ⟨fun _ => h1 ⟨c2, fun k hk => hq k (by omega)⟩, fun g => ?_⟩)
        exfalso
        rw [ti_le, ti_nI (by omega)] at g
        omega
      | succ d ih =>
        intro j hj hq y hy
        have a1 : ((((16 + (26 * p)) + 9) + 1) + y).toInt = (sf i (10 + j) : Nat) := by
          rw [ti_add (by rw [ti_add (by rw [e9, ti_1]; unfold sf; omega), e9, ti_1]; unfold sf; omega), ti_add (by rw [e9, ti_1]; unfold sf; omega), e9, ti_1]
          unfold sf
          omega
        have a2 : ((zmI M 30 0 11) + y).toInt = ((S.1 + j : Nat) : Int) := by
          rw [hk.beg, ti_add (by rw [ti_nI (by omega)]; omega), ti_nI (by omega)]
          omega
        refine zb_X9_isName_28 (R_len hT hU h0 ⟨fun g => ?_, fun _ => ⟨ti_in (by rw [a1]; unfold sf; omega), ti_in (by omega), fun g => ?_, fun g => h2 fun g2 => g ?_⟩⟩)
        · exfalso
          rw [ti_le, ti_nI (by omega)] at g
          omega
        · rw [ti_at a1, ti_at a2, hw, hT.byt (S.1 + j) (by omega)] at g
          refine ih (j + 1) (by omega) (fun k hk2 => ?_) (y + 1) (ti_inc hy (by omega))
          rcases Nat.lt_or_ge k j with q | q
          · exact hq k q
          · rw [show k = j by omega]; exact g
        · rw [ti_at a1, ti_at a2, hw, hT.byt (S.1 + j) (by omega)]
          exact g2.2 j (by omega)
    exact key (rd_e b F S.1 - S.1) 0 (by omega) (fun k hk2 => absurd hk2 (by omega)) 0 rfl
  · rw [ti_at e9, hw]
    exact nI_ofT g.1
theorem R_fndU {n : Nat} {Kf : Int32 → zM → Prop} (hT : Ux b F M) (hU : UK b F S Q0 (zmI M 30 0)) (h0 : S.2.1 = 0) (hw : zmI M 31 0 = w) (hn : (w 11).toInt = n) (h6 : n ≤ 6) (hl : ∀ i, i < n → 0 ≤ (w (sf i 9)).toInt ∧ (w (sf i 9)).toInt ≤ 8) (h : Kf (g_ix b F w S.1) M) : zCalI l G Y_X9_found 0 0 [vr 30 0] M Kf := by
  have key : ∀ d j : Nat, j + d = n → g_ixd b F w S.1 d j = g_ix b F w S.1 → ∀ y : Int32, y.toInt = j → zAt l G Y_X9_found (zEI G Y_X9_found Kf) 2 [(0, vr 30 0), (1, vi y)] [] M 0 0 := by
    intro d
    induction d with
    | zero =>
      intro j hj hq y hy
      refine zb_X9_found_2 ⟨fun _ => ?_, fun c => ?_⟩
      · rw [← hq] at h; exact h
      · exfalso
        rw [hw, ti_le] at c
        omega
    | succ d ih =>
      intro j hj hq y hy
      unfold g_ixd at hq
      refine zb_X9_found_2 ⟨fun c => ?_, fun _ => R_isNmU hT hU h0 hw hy (by omega) (hl j (by omega)) (fun g => ⟨fun e => absurd e (by decide), fun _ => ?_⟩) fun g => ⟨fun _ => ?_, fun e => absurd rfl e⟩⟩
      · exfalso
        rw [hw, ti_le] at c
        omega
      · rw [pif_pos g] at hq
        rw [nI_ofT hy, hq]
        exact h
      · rw [pif_neg g] at hq
        exact ih (j + 1) (by omega) hq (y + 1) (ti_inc hy (by omega))
  refine zm_X9_found (key n 0 (by omega) ?_ 0 rfl)
  show g_ixd b F w S.1 n 0 = g_ixd b F w S.1 (w 11).toInt.toNat 0
  rw [hn]
  rfl
theorem g_ix_has {s : Nat} (hn : 0 ≤ (w 11).toInt) (h6 : (w 11).toInt ≤ 6) : rd_has b F w s ↔ ¬ g_ix b F w s = -1 := by
  constructor
  · intro h
    have key : ∀ d j : Nat, (∃ i, j ≤ i ∧ i < j + d ∧ rd_nm b F w s i) → j + d ≤ 6 → ¬ g_ixd b F w s d j = -1 := by
      intro d
      induction d with
      | zero => intro j ⟨i, a, c, _⟩; omega
      | succ d ih =>
        intro j ⟨i, a, c, g⟩ h6
        unfold g_ixd
        rcases Classical.em (rd_nm b F w s j) with q | q
        · rw [pif_pos q]
          intro e
          rw [ti_eq, ti_nI (by omega), ti_n1] at e
          omega
        · rw [pif_neg q]
          refine ih (j + 1) ⟨i, ?_, by omega, g⟩ (by omega)
          rcases Nat.lt_or_ge j i with r | r
          · exact r
          · exact absurd (by rw [show j = i by omega]; exact g) q
    obtain ⟨i, hi, g⟩ := h
    exact key _ 0 ⟨i, Nat.zero_le _, by omega, g⟩ (by omega)
  · intro h
    refine Classical.byContradiction fun n => h ?_
    exact g_ixd_no _ 0 fun k _ hk q => n ⟨k, by omega, q⟩
theorem R_g {n : Nat} {Kf : Int32 → zM → Prop} (hT : Ux b F M) (hU : UK b F S Q0 (zmI M 30 0)) (h0 : S.2.1 = 0) (hw : zmI M 31 0 = w) (hn : (w 11).toInt = n) (h6 : n ≤ 6) (hl : ∀ i, i < n → 0 ≤ (w (sf i 9)).toInt ∧ (w (sf i 9)).toInt ≤ 8) (h : ∀ Q x, UK b F (g_f b F w S) Q0 Q → ((g_f b F w S).2.1 = 0 → x = g_ix b F w S.1) → Kf x (zsIr M 30 0 Q)) : zCalI l G Y_X9_named 0 0 [vr 30 0] M Kf := by
  have hF := hT.hF
  have hk := hU.tk h0
  have he := rd_e_le (b := b) hU.hs
  have t1 := (rd_t1 (rd_kd_lt b F S.1)).1
  have hx := g_ix_has (b := b) (F := F) (w := w) (s := S.1) (by omega) (by omega)
  -- no name
  have bad : ¬ (rd_kd b F S.1 = 1 ∧ rd_e b F S.1 - S.1 ≤ 8) → ∀ {Kg : Int32 → zM → Prop}, (∀ Q, UK b F (S.1, 1, nI S.1) Q0 Q → Kg 1 (zsIr M 30 0 Q)) → zAt l G Y_X9_noName (zEI G Y_X9_noName Kg) 18 [] [vr 30 0] M 0 0 := fun n Kg hg => zb_X9_noName_18 (zb_X9_noName_23 (R_wrT hU (by decide) (fun _ d => absurd d (by decide)) (fun _ _ Q k => ⟨Or.inr rfl, hg Q k⟩) fun d => absurd h0 d))
  have noNm : ∀ {Kg : Int32 → zM → Prop}, (rd_kd b F S.1 = 1 → rd_e b F S.1 - S.1 ≤ 8 → Kg 0 M) → (¬ (rd_kd b F S.1 = 1 ∧ rd_e b F S.1 - S.1 ≤ 8) → ∀ Q, UK b F (S.1, 1, nI S.1) Q0 Q → Kg 1 (zsIr M 30 0 Q)) → zCalI l G Y_X9_noName 0 0 [vr 30 0] M Kg := fun {Kg} g1 g2 => by
    refine zm_X9_noName ⟨fun c => bad (fun e => c ?_) (g2 fun e => c ?_), fun c => R_len hT hU h0 ⟨fun d => ?_, fun d => bad (fun e => d ?_) (g2 fun e => d ?_)⟩⟩
    · rw [hk.tok]; exact t1.mpr e.1
    · rw [hk.tok]; exact t1.mpr e.1
    · rw [hk.tok] at c
      rw [ti_le, ti_nI (by omega), show (8 : Int32).toInt = 8 from rfl] at d
      exact zb_X9_noName_23 (R_wrT hU (by decide) (fun _ _ => ⟨Or.inl rfl, g1 (t1.mp c) (by omega)⟩) (fun _ d => absurd rfl d) fun d => absurd h0 d)
    · rw [ti_le, ti_nI (by omega), show (8 : Int32).toInt = 8 from rfl]; omega
    · rw [ti_le, ti_nI (by omega), show (8 : Int32).toInt = 8 from rfl]; omega
  have e_err : ∀ c : Int32, ¬ c = 0 → t_exp b F 1 (S.1, c, nI S.1) = (S.1, c, nI S.1) := fun c hc => t_exp_e hc
  refine zm_X9_named (noNm (fun k1 k8 => ⟨fun d => absurd rfl d, fun _ => R_fndU hT hU h0 hw hn h6 hl ⟨fun g => ?_, fun g => ?_⟩⟩) fun nk Q k => ⟨fun _ => ?_, fun d => absurd d (by decide)⟩)
  · have e : g_f b F w S = t_exp b F 1 S := by unfold g_f; rw [pif_pos ⟨k1, k8⟩, pif_pos (hx.mpr g)]
    have e2 : t_exp b F 1 S = t_adv b F S := by unfold t_exp; rw [if_pos h0, if_pos k1]
    rw [e, e2] at h
    exact zb_X9_named_21 (R_wrT hU (by decide) (fun _ _ => ⟨fun _ => R_fndU hT hU h0 hw hn h6 hl (R_advT hT hU h0 fun Q k => h Q _ k fun _ => rfl), fun d => absurd rfl d⟩) (fun _ d => absurd rfl d) fun d => absurd h0 d)
  · have nh : ¬ rd_has b F w S.1 := fun q => hx.mp q g
    have e : g_f b F w S = (S.1, 4, nI S.1) := by
      unfold g_f
      rw [pif_pos ⟨k1, k8⟩, pif_neg nh]
      have : t_fail 4 S = (S.1, 4, nI S.1) := if_pos h0
      rw [this]
      exact e_err 4 (by decide)
    rw [e] at h
    exact zb_X9_named_21 (R_wrT hU (by decide) (fun _ d => absurd d (by decide)) (fun _ _ Q k => ⟨fun d => absurd d (by decide), fun _ => h Q 0 k fun d => absurd (show (4 : Int32) = 0 from d) (by decide)⟩) fun d => absurd h0 d)
  · have e : g_f b F w S = (S.1, 1, nI S.1) := by
      unfold g_f
      rw [pif_neg nk]
      have : t_fail 1 S = (S.1, 1, nI S.1) := if_pos h0
      rw [this]
      exact e_err 1 (by decide)
    rw [e] at h
    exact h Q 0 k fun d => absurd (show (1 : Int32) = 0 from d) (by decide)
end
