/-! SETUPS: a flow, the reference -/
section
variable {l : Launch} {G : zG} {M Mz : zM} {A : Nat} {b : Nat → Int32} {F : Nat} {S S' : Nat × Int32 × Int32} {w w' f f' Qz Q Q0 : Nat → Int32} {t : Int32} {X : SX}
theorem R_noNm {Kf : Int32 → zM → Prop} (hT : Ux b F Mz) (hV : UV b F Qz X f Q) (h0 : X.1.2.1 = 0) (h1 : rd_kd b F X.1.1 = 1 → rd_e b F X.1.1 - X.1.1 ≤ 8 → Kf 0 (mk2 Mz f Q)) (h2 : ¬ (rd_kd b F X.1.1 = 1 ∧ rd_e b F X.1.1 - X.1.1 ≤ 8) → ∀ Q', UV b F Qz ((X.1.1, 1, nI X.1.1), X.2) f Q' → Kf 1 (mk2 Mz f Q')) : zCalI l G Y_X9_noName 0 0 [vr 30 0] (mk2 Mz f Q) Kf := by
  have hF := hT.hF
  have hk := hV.uk.tk h0
  have he := rd_e_le (b := b) hV.uk.hs
  have t1 := (rd_t1 (rd_kd_lt b F X.1.1)).1
  have bad : ¬ (rd_kd b F X.1.1 = 1 ∧ rd_e b F X.1.1 - X.1.1 ≤ 8) → zAt l G Y_X9_noName (zEI G Y_X9_noName Kf) 18 [] [vr 30 0] (mk2 Mz f Q) 0 0 := fun n => zb_X9_noName_18 (zb_X9_noName_23 (V_wr hV (by decide) (fun _ d => absurd d (by decide)) (fun _ _ Q' v => ⟨Or.inr rfl, h2 n Q' v⟩) fun d => absurd h0 d))
  refine zm_X9_noName ⟨fun c => bad fun e => c ?_, fun c => R_len hT.k2 (by rw [mk_30]; exact hV.uk) h0 ⟨fun d => ?_, fun d => bad fun e => d ?_⟩⟩
  · rw [mk_30, hk.tok]; exact t1.mpr e.1
  · rw [mk_30, hk.tok] at c
    rw [ti_le, ti_nI (by omega), show (8 : Int32).toInt = 8 from rfl] at d
    exact zb_X9_noName_23 (V_wr hV (by decide) (fun _ _ => ⟨Or.inl rfl, h1 (t1.mp c) (by omega)⟩) (fun _ d => absurd rfl d) fun d => absurd h0 d)
  · rw [ti_le, ti_nI (by omega), show (8 : Int32).toInt = 8 from rfl]
    omega
theorem R_isNm {i : Nat} {p : Int32} {Kf : Int32 → zM → Prop} (hT : Ux b F Mz) (hV : UV b F Qz X f Q) (h0 : X.1.2.1 = 0) (hp : p.toInt = i) (hi : i < 6) (hl : 0 ≤ (f (sf i 9)).toInt ∧ (f (sf i 9)).toInt ≤ 8) (h1 : rd_nm b F f X.1.1 i → Kf 1 (mk2 Mz f Q)) (h2 : ¬ rd_nm b F f X.1.1 i → Kf 0 (mk2 Mz f Q)) : zCalI l G Y_X9_isName 0 0 [vr 30 0, vi p] (mk2 Mz f Q) Kf := by
  have hF := hT.hF
  have hk := hV.uk.tk h0
  have he := rd_e_le (b := b) hV.uk.hs
  have e9 : ((16 + (26 * p)) + 9).toInt = (sf i 9 : Nat) := by unfold sf; (first | omega | ((simp (disch := (first | omega | (simp (disch := (first | omega | (simp (disch := (first | omega | (simp (disch := omega) only [ti_add, ti_sub, ti_mul, Int32.reduceToInt, ti_n1, ti_n2, ti_n3, and_self] <;> omega))) only [ti_add, ti_sub, ti_mul, Int32.reduceToInt, ti_n1, ti_n2, ti_n3, and_self] <;> omega))) only [ti_add, ti_sub, ti_mul, Int32.reduceToInt, ti_n1, ti_n2, ti_n3, and_self] <;> omega))) only [ti_le, ti_lt, ti_eq, ti_add, ti_sub, ti_mul, Int32.reduceToInt, ti_n1, ti_n2, ti_n3, ti_cl] at *) <;> omega))
  refine zm_X9_isName ⟨ti_in (by rw [e9]; unfold sf; omega), R_len hT.k2 (by rw [mk_30]; exact hV.uk) h0 ⟨fun c => ?_, fun c => h2 fun g => c ?_⟩⟩
  · rw [ti_at e9, mk_31] at c
    have c2 : (f (sf i 9)).toInt = ((rd_e b F X.1.1 - X.1.1 : Nat) : Int) := by rw [c, ti_nI (by omega)]
    have key : ∀ d j : Nat, j + d = rd_e b F X.1.1 - X.1.1 → (∀ k, k < j → f (sf i (10 + k)) = b (X.1.1 + k)) → ∀ y : Int32, y.toInt = j → zAt l G Y_X9_isName (zEI G Y_X9_isName Kf) 28 [(0, vr 30 0), (2, vi ((16 + (26 * p)) + 9)), (3, vi y)] [] (mk2 Mz f Q) 0 0 := by
      intro d
      induction d with
      | zero =>
        intro j hj hq y hy
        refine zb_X9_isName_28 (R_len hT.k2 (by rw [mk_30]; exact hV.uk) h0 ⟨fun _ => h1 ⟨c2, fun k hk => hq k (by omega)⟩, fun g => ?_⟩)
        exfalso
        rw [ti_le, ti_nI (by omega)] at g
        omega
      | succ d ih =>
        intro j hj hq y hy
        have a1 : ((((16 + (26 * p)) + 9) + 1) + y).toInt = (sf i (10 + j) : Nat) := by
          rw [ti_add (by rw [ti_add (by rw [e9, ti_1]; unfold sf; omega), e9, ti_1]; unfold sf; omega), ti_add (by rw [e9, ti_1]; unfold sf; omega), e9, ti_1]
          unfold sf
          omega
        have a2 : ((zmI (mk2 Mz f Q) 30 0 11) + y).toInt = ((X.1.1 + j : Nat) : Int) := by
          rw [mk_30, hk.beg, ti_add (by rw [ti_nI (by omega)]; omega), ti_nI (by omega)]
          omega
        refine zb_X9_isName_28 (R_len hT.k2 (by rw [mk_30]; exact hV.uk) h0 ⟨fun g => ?_, fun _ => ⟨ti_in (by rw [a1]; unfold sf; omega), ti_in (by omega), fun g => ?_, fun g => h2 fun g2 => g ?_⟩⟩)
        · exfalso
          rw [ti_le, ti_nI (by omega)] at g
          omega
        · rw [ti_at a1, ti_at a2, mk_31, mk_o (by omega) (by omega), hT.byt (X.1.1 + j) (by omega)] at g
          refine ih (j + 1) (by omega) (fun k hk2 => ?_) (y + 1) (ti_inc hy (by omega))
          rcases Nat.lt_or_ge k j with q | q
          · exact hq k q
          · rw [show k = j by omega]; exact g
        · rw [ti_at a1, ti_at a2, mk_31, mk_o (by omega) (by omega), hT.byt (X.1.1 + j) (by omega)]
          exact g2.2 j (by omega)
    exact key (rd_e b F X.1.1 - X.1.1) 0 (by omega) (fun k hk2 => absurd hk2 (by omega)) 0 rfl
  · rw [ti_at e9, mk_31]
    exact nI_ofT g.1
theorem R_fnd {n : Nat} {Kf : Int32 → zM → Prop} (hT : Ux b F Mz) (hV : UV b F Qz X f Q) (h0 : X.1.2.1 = 0) (hn : (f 11).toInt = n) (h6 : n ≤ 6) (hl : ∀ i, i < n → 0 ≤ (f (sf i 9)).toInt ∧ (f (sf i 9)).toInt ≤ 8) (h1 : ∀ (i : Nat) (x : Int32), x.toInt = i → i < n → rd_nm b F f X.1.1 i → (∀ j, j < i → ¬ rd_nm b F f X.1.1 j) → Kf x (mk2 Mz f Q)) (h2 : (∀ j, j < n → ¬ rd_nm b F f X.1.1 j) → Kf (-1) (mk2 Mz f Q)) : zCalI l G Y_X9_found 0 0 [vr 30 0] (mk2 Mz f Q) Kf := by
  have key : ∀ d j : Nat, j + d = n → (∀ i, i < j → ¬ rd_nm b F f X.1.1 i) → ∀ y : Int32, y.toInt = j → zAt l G Y_X9_found (zEI G Y_X9_found Kf) 2 [(0, vr 30 0), (1, vi y)] [] (mk2 Mz f Q) 0 0 := by
    intro d
    induction d with
    | zero =>
      intro j hj hq y hy
      refine zb_X9_found_2 ⟨fun _ => h2 fun i hi => hq i (by omega), fun c => ?_⟩
      exfalso
      rw [mk_31, ti_le] at c
      omega
    | succ d ih =>
      intro j hj hq y hy
      refine zb_X9_found_2 ⟨fun c => ?_, fun _ => R_isNm hT hV h0 hy (by omega) (hl j (by omega)) (fun g => ⟨fun e => absurd e (by decide), fun _ => h1 j y hy (by omega) g hq⟩) fun g => ⟨fun _ => ih (j + 1) (by omega) (fun i hi => ?_) (y + 1) (ti_inc hy (by omega)), fun e => absurd rfl e⟩⟩
      · exfalso
        rw [mk_31, ti_le] at c
        omega
      · rcases Nat.lt_or_ge i j with q | q
        · exact hq i q
        · rw [show i = j by omega]; exact g
  exact zm_X9_found (key n 0 (by omega) (fun i hi => absurd hi (by omega)) 0 rfl)
theorem rd_nm_congr {s i : Nat} (he : ∀ k, k < 484 → f k = w k) (hi : i < 6) (hl : (w (sf i 9)).toInt ≤ 8) : rd_nm b F f s i ↔ rd_nm b F w s i := by
  unfold rd_nm
  rw [he (sf i 9) (by unfold sf; omega)]
  constructor
  · intro g
    refine ⟨g.1, fun k hk => ?_⟩
    rw [← he (sf i (10 + k)) (by unfold sf; omega)]
    exact g.2 k hk
  · intro g
    refine ⟨g.1, fun k hk => ?_⟩
    rw [he (sf i (10 + k)) (by unfold sf; omega)]
    exact g.2 k hk
end
