/-! THE REFERENCE'S READER, beside the same places -/
section
variable {l : Launch} {G : zG} {M : zM} {A : Nat} {b : Nat → Int32} {F : Nat}
def rd_t (k : Nat) : Nat := if k ≤ 2 then k else if k = 6 then 4 else 3
def rd_w (b : Nat → Int32) (F s : Nat) : Int32 := if rd_e b F s - s ≤ 6 then rd_d b s (rd_e b F s - s) else 1000000
theorem zsU (M : zM) (s i : Nat) (f : Nat → Int32) (k : Nat) (v : Int32) : zsI (zsIr M s i f) s i k v = zsIr M s i (zup f k v) := by
  show zsIr (zsIr M s i f) s i (zup ((zsIr M s i f).1 s i) k v) = _
  rw [zsI1, zsI2]
theorem zmU (M : zM) (s i : Nat) (f : Nat → Int32) : zmI (zsIr M s i f) s i = f := zsI1 M s i f
theorem zmO (M : zM) (s i : Nat) (f : Nat → Int32) (s' i' : Nat) (h : ¬ (s' = s ∧ i' = i)) : zmI (zsIr M s i f) s' i' = zmI M s' i' := zsIo M s i f s' i' h
/-- the text -/
def Ux (b : Nat → Int32) (F : Nat) (M : zM) : Prop := (F ≤ 500) ∧ (∀ j, j < F → zmI M 37 0 j = b j)
theorem Ux.hF {b : Nat → Int32} {F : Nat} {M : zM} (h9 : Ux b F M) : F ≤ 500 := h9.1
theorem Ux.byt {b : Nat → Int32} {F : Nat} {M : zM} (h9 : Ux b F M) : ∀ j, j < F → zmI M 37 0 j = b j := h9.2
theorem Ux.mk {b : Nat → Int32} {F : Nat} {M : zM} (hF : F ≤ 500) (byt : ∀ j, j < F → zmI M 37 0 j = b j) : Ux b F M := ⟨hF, byt⟩
/-- the row of the reference's numbers: the token, where there is no error -/
def Uk (b : Nat → Int32) (F s : Nat) (Q : Nat → Int32) : Prop := (Q 11 = nI s) ∧ (Q 12 = nI (rd_e b F s)) ∧ (Q 13 = nI (rd_t (rd_kd b F s))) ∧ (rd_kd b F s = 2 → Q 14 = rd_w b F s)
theorem Uk.beg {b : Nat → Int32} {F s : Nat} {Q : Nat → Int32} (h9 : Uk b F s Q) : Q 11 = nI s := h9.1
theorem Uk.nxt {b : Nat → Int32} {F s : Nat} {Q : Nat → Int32} (h9 : Uk b F s Q) : Q 12 = nI (rd_e b F s) := h9.2.1
theorem Uk.tok {b : Nat → Int32} {F s : Nat} {Q : Nat → Int32} (h9 : Uk b F s Q) : Q 13 = nI (rd_t (rd_kd b F s)) := h9.2.2.1
theorem Uk.val {b : Nat → Int32} {F s : Nat} {Q : Nat → Int32} (h9 : Uk b F s Q) : rd_kd b F s = 2 → Q 14 = rd_w b F s := h9.2.2.2
theorem Uk.mk {b : Nat → Int32} {F s : Nat} {Q : Nat → Int32} (beg : Q 11 = nI s) (nxt : Q 12 = nI (rd_e b F s)) (tok : Q 13 = nI (rd_t (rd_kd b F s))) (val : rd_kd b F s = 2 → Q 14 = rd_w b F s) : Uk b F s Q := ⟨beg, nxt, tok, val⟩
def UK (b : Nat → Int32) (F : Nat) (S : Nat × Int32 × Int32) (Q0 Q : Nat → Int32) : Prop := (S.1 ≤ F) ∧ (Q 10 = nI F) ∧ (Q 15 = S.2.1) ∧ (¬ S.2.1 = 0 → Q 16 = S.2.2) ∧ (S.2.1 = 0 → Uk b F S.1 Q) ∧ (∀ j, ¬ (11 ≤ j ∧ j ≤ 16) → Q j = Q0 j)
theorem UK.hs {b : Nat → Int32} {F : Nat} {S : Nat × Int32 × Int32} {Q0 Q : Nat → Int32} (h9 : UK b F S Q0 Q) : S.1 ≤ F := h9.1
theorem UK.len {b : Nat → Int32} {F : Nat} {S : Nat × Int32 × Int32} {Q0 Q : Nat → Int32} (h9 : UK b F S Q0 Q) : Q 10 = nI F := h9.2.1
theorem UK.er {b : Nat → Int32} {F : Nat} {S : Nat × Int32 × Int32} {Q0 Q : Nat → Int32} (h9 : UK b F S Q0 Q) : Q 15 = S.2.1 := h9.2.2.1
theorem UK.ea {b : Nat → Int32} {F : Nat} {S : Nat × Int32 × Int32} {Q0 Q : Nat → Int32} (h9 : UK b F S Q0 Q) : ¬ S.2.1 = 0 → Q 16 = S.2.2 := h9.2.2.2.1
theorem UK.tk {b : Nat → Int32} {F : Nat} {S : Nat × Int32 × Int32} {Q0 Q : Nat → Int32} (h9 : UK b F S Q0 Q) : S.2.1 = 0 → Uk b F S.1 Q := h9.2.2.2.2.1
theorem UK.fr {b : Nat → Int32} {F : Nat} {S : Nat × Int32 × Int32} {Q0 Q : Nat → Int32} (h9 : UK b F S Q0 Q) : ∀ j, ¬ (11 ≤ j ∧ j ≤ 16) → Q j = Q0 j := h9.2.2.2.2.2
theorem UK.mk {b : Nat → Int32} {F : Nat} {S : Nat × Int32 × Int32} {Q0 Q : Nat → Int32} (hs : S.1 ≤ F) (len : Q 10 = nI F) (er : Q 15 = S.2.1) (ea : ¬ S.2.1 = 0 → Q 16 = S.2.2) (tk : S.2.1 = 0 → Uk b F S.1 Q) (fr : ∀ j, ¬ (11 ≤ j ∧ j ≤ 16) → Q j = Q0 j) : UK b F S Q0 Q := ⟨hs, len, er, ea, tk, fr⟩
theorem R_byteR {i : Nat} {p : Int32} {Kf : Int32 → zM → Prop} (hT : Ux b F M) (hl : zmI M 30 0 10 = nI F) (hp : p.toInt = i) (h1 : i < F → Kf (b i) M) (h0 : F ≤ i → Kf (-1) M) : zCalI l G Y_X9_byteAt 0 0 [vr 30 0, vi p] M Kf := by
  have hF := hT.hF
  refine zm_X9_byteAt ⟨fun c => ?_, fun c => ?_⟩
  · rw [hl, ti_le, ti_nI (by omega)] at c
    exact h0 (by omega)
  · rw [hl, ti_le, ti_nI (by omega)] at c
    refine ⟨ti_in (by omega), ?_⟩
    rw [ti_at hp, hT.byt i (by omega)]
    exact h1 (by omega)
theorem rd_k1 (x : Int32) : (97 ≤ x ∧ x ≤ 122) ↔ rd_k x = 1 := by
  unfold rd_k
  constructor
  · intro h; rw [if_pos h]
  · intro h
    refine Classical.byContradiction fun g => ?_
    rw [if_neg g] at h
    repeat' split at h
    all_goals exact absurd h (by decide)
theorem rd_k2 (x : Int32) : (48 ≤ x ∧ x ≤ 57) ↔ rd_k x = 2 := by
  unfold rd_k
  constructor
  · intro h
    rw [if_neg ?_, if_pos h]
    intro g
    rw [ti_le, ti_le, show (48 : Int32).toInt = 48 from rfl, show (57 : Int32).toInt = 57 from rfl] at h
    rw [ti_le, ti_le, show (97 : Int32).toInt = 97 from rfl] at g
    omega
  · intro h
    refine Classical.byContradiction fun g => ?_
    rw [if_neg g] at h
    repeat' split at h
    all_goals exact absurd h (by decide)
theorem R_letterAt {i : Nat} {p : Int32} {Kf : Int32 → zM → Prop} (hT : Ux b F M) (hl : zmI M 30 0 10 = nI F) (hp : p.toInt = i) (h1 : i < F → rd_k (b i) = 1 → Kf 1 M) (h0 : ¬ (i < F ∧ rd_k (b i) = 1) → Kf 0 M) : zCalI l G Y_X9_isLetterAt 0 0 [vr 30 0, vi p] M Kf := by
  refine zm_X9_isLetterAt (R_byteR hT hl hp (fun hi => R_in2 (fun c => ⟨Or.inr rfl, h1 hi ((rd_k1 _).mp c)⟩) fun c => ⟨Or.inl rfl, h0 fun g => c ((rd_k1 _).mpr g.2)⟩) fun hi => R_in2 (fun c => ?_) fun c => ⟨Or.inl rfl, h0 fun g => by omega⟩)
  exact absurd c.1 (by decide)
theorem R_digitAt {i : Nat} {p : Int32} {Kf : Int32 → zM → Prop} (hT : Ux b F M) (hl : zmI M 30 0 10 = nI F) (hp : p.toInt = i) (h1 : i < F → rd_k (b i) = 2 → Kf 1 M) (h0 : ¬ (i < F ∧ rd_k (b i) = 2) → Kf 0 M) : zCalI l G Y_X9_isDigitAt 0 0 [vr 30 0, vi p] M Kf := by
  refine zm_X9_isDigitAt (R_byteR hT hl hp (fun hi => R_in2 (fun c => ⟨Or.inr rfl, h1 hi ((rd_k2 _).mp c)⟩) fun c => ⟨Or.inl rfl, h0 fun g => c ((rd_k2 _).mpr g.2)⟩) fun hi => R_in2 (fun c => ?_) fun c => ⟨Or.inl rfl, h0 fun g => by omega⟩)
  exact absurd c.1 (by decide)
theorem Ux.set (h : Ux b F M) (Q : Nat → Int32) : Ux b F (zsIr M 30 0 Q) := Ux.mk h.hF (fun j hj => by rw [zmO _ _ _ _ _ _ (by omega)]; exact h.byt j hj)
theorem R_adv {e : Nat} {ea : Int32} {Q0 : Nat → Int32} {Kf : zM → Prop} (hT : Ux b F M) (hl : zmI M 30 0 10 = nI F) (hn : zmI M 30 0 12 = nI e) (he : e ≤ F) (h5 : zmI M 30 0 15 = 0) (hfr : ∀ j, ¬ (11 ≤ j ∧ j ≤ 16) → zmI M 30 0 j = Q0 j) (h : ∀ Q, UK b F (rd_n b F e, 0, ea) Q0 Q → Kf (zsIr M 30 0 Q)) : zCalV l G Y_X9_advance 0 0 [vr 30 0] M Kf := by
  have hF := hT.hF
  have hnl := rd_n_le (b := b) he
  generalize hs : rd_n b F e = s at h hnl
  have hsk : rd_sk b F (F - e) e = s := hs
  have hgood : s < F → ¬ (b s = 32 ∨ b s = 10) := by
    have aux : ∀ d i, i + d = F → rd_sk b F d i < F → ¬ (b (rd_sk b F d i) = 32 ∨ b (rd_sk b F d i) = 10) := by
      intro d
      induction d with
      | zero =>
        intro i hi hlt
        unfold rd_sk at hlt
        omega
      | succ d ih =>
        intro i hi hlt
        unfold rd_sk at hlt ⊢
        split
        · next g =>
          rw [if_pos g] at hlt
          exact ih (i + 1) (by omega) hlt
        · next g => exact g
    intro hlt
    have := aux (F - e) e (by omega) (by rw [hsk]; exact hlt)
    rw [hsk] at this
    exact this
  have hend := rd_e_le (b := b) hnl.2
  have hk := rd_k_le (b s)
  -- letters
  have l87 : s < F → rd_k (b s) = 1 → ∀ d j : Nat, j + d = F → rd_sp b 1 d j = rd_e b F s → ∀ Q, Q 10 = nI F → Q 11 = nI s → Q 12 = nI j → Q 13 = 1 → Q 15 = 0 → (∀ j, ¬ (11 ≤ j ∧ j ≤ 16) → Q j = Q0 j) → zAt l G Y_X9_advance (zEV G Y_X9_advance Kf) 87 [(0, vr 30 0)] [] (zsIr M 30 0 Q) 0 0 := by
    intro hsF hk1 d
    have hkd : rd_kd b F s = 1 := by unfold rd_kd; rw [if_neg (by omega)]; exact hk1
    have fin : ∀ (j : Nat) (Q : Nat → Int32), j = rd_e b F s → Q 10 = nI F → Q 11 = nI s → Q 12 = nI j → Q 13 = 1 → Q 15 = 0 → (∀ j, ¬ (11 ≤ j ∧ j ≤ 16) → Q j = Q0 j) → Kf (zsIr M 30 0 Q) := fun j Q hj q10 q11 q12 q13 q15 qf =>
      h Q (UK.mk hnl.2 q10 q15 (fun g => absurd rfl g) (fun _ => Uk.mk q11 (by rw [q12, hj]) (by rw [q13, hkd]; rfl) (fun g => by rw [hkd] at g; exact absurd g (by decide))) qf)
    induction d with
    | zero =>
      intro j hj hq Q q10 q11 q12 q13 q15 qf
      refine zb_X9_advance_87 (R_letterAt (i := j) (hT.set Q) (by rw [zmU]; exact q10) (by rw [zmU, q12, ti_nI (by omega)]) (fun c => absurd c (by omega)) fun _ => ⟨fun _ => ?_, fun g => absurd rfl g⟩)
      exact fin j Q hq q10 q11 q12 q13 q15 qf
    | succ d ih =>
      intro j hj hq Q q10 q11 q12 q13 q15 qf
      unfold rd_sp at hq
      refine zb_X9_advance_87 (R_letterAt (i := j) (hT.set Q) (by rw [zmU]; exact q10) (by rw [zmU, q12, ti_nI (by omega)]) (fun _ c => ⟨fun g => absurd g (by decide), fun _ => ?_⟩) fun c => ⟨fun _ => ?_, fun g => absurd rfl g⟩)
      · rw [if_pos c] at hq
        rw [zmU, zsU]
        refine ih (j + 1) (by omega) hq _ ?_ ?_ ?_ ?_ ?_ ?_
        · rw [zup_ne _ _ (by omega)]; exact q10
        · rw [zup_ne _ _ (by omega)]; exact q11
        · rw [zup_self, q12]; exact nI_ofT (ti_inc (ti_nI (by omega)) (by omega))
        · rw [zup_ne _ _ (by omega)]; exact q13
        · rw [zup_ne _ _ (by omega)]; exact q15
        · intro i hi; rw [zup_ne _ _ (by omega)]; exact qf i hi
      · rw [if_neg (fun g => c ⟨by omega, g⟩)] at hq
        exact fin j Q hq q10 q11 q12 q13 q15 qf
  -- digits
  have l127 : s < F → rd_k (b s) = 2 → ∀ d j : Nat, s + j + d = F → rd_sp b 2 d (s + j) = rd_e b F s → ∀ Q, Q 10 = nI F → Q 11 = nI s → Q 12 = nI (s + j) → Q 13 = 2 → Q 14 = (if j ≤ 6 then rd_d b s j else 1000000) → Q 15 = 0 → (∀ j, ¬ (11 ≤ j ∧ j ≤ 16) → Q j = Q0 j) → zAt l G Y_X9_advance (zEV G Y_X9_advance Kf) 127 [(0, vr 30 0)] [] (zsIr M 30 0 Q) 0 0 := by
    intro hsF hk1 d
    have hkd : rd_kd b F s = 2 := by unfold rd_kd; rw [if_neg (by omega)]; exact hk1
    have fin : ∀ (j : Nat) (Q : Nat → Int32), s + j = rd_e b F s → Q 10 = nI F → Q 11 = nI s → Q 12 = nI (s + j) → Q 13 = 2 → Q 14 = (if j ≤ 6 then rd_d b s j else 1000000) → Q 15 = 0 → (∀ j, ¬ (11 ≤ j ∧ j ≤ 16) → Q j = Q0 j) → Kf (zsIr M 30 0 Q) := fun j Q hj q10 q11 q12 q13 q14 q15 qf =>
      h Q (UK.mk hnl.2 q10 q15 (fun g => absurd rfl g) (fun _ => Uk.mk q11 (by rw [q12, hj]) (by rw [q13, hkd]; rfl) (fun _ => by rw [q14]; unfold rd_w; rw [← hj, show s + j - s = j by omega])) qf)
    induction d with
    | zero =>
      intro j hj hq Q q10 q11 q12 q13 q14 q15 qf
      refine zb_X9_advance_127 (R_digitAt (i := s + j) (hT.set Q) (by rw [zmU]; exact q10) (by rw [zmU, q12, ti_nI (by omega)]) (fun c => absurd c (by omega)) fun _ => ⟨fun _ => ?_, fun g => absurd rfl g⟩)
      exact fin j Q hq q10 q11 q12 q13 q14 q15 qf
    | succ d ih =>
      intro j hj hq Q q10 q11 q12 q13 q14 q15 qf
      unfold rd_sp at hq
      have ej : (nI (s + j) - nI s).toInt = (j : Int) := by
        rw [ti_sub (by rw [ti_nI (by omega), ti_nI (by omega)]; omega), ti_nI (by omega), ti_nI (by omega)]
        omega
      refine zb_X9_advance_127 (R_digitAt (i := s + j) (hT.set Q) (by rw [zmU]; exact q10) (by rw [zmU, q12, ti_nI (by omega)]) (fun hi c => ⟨fun g => absurd g (by decide), fun _ => ?_⟩) fun c => ⟨fun _ => ?_, fun g => absurd rfl g⟩)
      · rw [if_pos c] at hq
        have go : ∀ v : Int32, v = (if j + 1 ≤ 6 then rd_d b s (j + 1) else 1000000) → zAt l G Y_X9_advance (zEV G Y_X9_advance Kf) 178 [(0, vr 30 0)] [vi v, vr 30 0] (zsIr M 30 0 Q) 0 0 := fun v hv => by
          refine zb_X9_advance_178 ?_
          rw [zsU M 30 0 Q, zmU, zsU M 30 0]
          refine ih (j + 1) (by omega) hq _ ?_ ?_ ?_ ?_ ?_ ?_ ?_
          · rw [zup_ne _ _ (by omega), zup_ne _ _ (by omega)]; exact q10
          · rw [zup_ne _ _ (by omega), zup_ne _ _ (by omega)]; exact q11
          · rw [zup_self, zup_ne _ _ (by omega), q12]; exact nI_ofT (ti_inc (k := s + j) (ti_nI (by omega)) (by omega))
          · rw [zup_ne _ _ (by omega), zup_ne _ _ (by omega)]; exact q13
          · rw [zup_ne _ _ (by omega), zup_self]; exact hv
          · rw [zup_ne _ _ (by omega), zup_ne _ _ (by omega)]; exact q15
          · intro i hi; rw [zup_ne _ _ (by omega), zup_ne _ _ (by omega)]; exact qf i hi
        refine ⟨fun g => go _ ?_, fun g => ⟨ti_in (by rw [zmU, q12, ti_nI (by omega)]; omega), go _ ?_⟩⟩
        · rw [zmU, q11, q12, ti_le, ej, show (6 : Int32).toInt = 6 from rfl] at g
          rw [if_neg (by omega)]
        · rw [zmU, q11, q12, ti_le, ej, show (6 : Int32).toInt = 6 from rfl] at g
          rw [zmU, q12, q14, if_pos (by omega), if_pos (by omega), zmO _ _ _ _ _ _ (by omega), ti_at (ti_nI (by omega)), hT.byt _ hi]
          rfl
      · rw [if_neg (fun g => c ⟨by omega, g⟩)] at hq
        exact fin j Q hq q10 q11 q12 q13 q14 q15 qf
  have l0 : ∀ d i : Nat, i + d = F → rd_sk b F d i = s → ∀ Q, Q 10 = nI F → Q 12 = nI i → Q 15 = 0 → (∀ j, ¬ (11 ≤ j ∧ j ≤ 16) → Q j = Q0 j) → zAt l G Y_X9_advance (zEV G Y_X9_advance Kf) 0 [(0, vr 30 0)] [] (zsIr M 30 0 Q) 0 0 := by
    intro d
    -- what begins at s
    have tok : ∀ Q, Q 10 = nI F → Q 12 = nI s → Q 15 = 0 → (∀ j, ¬ (11 ≤ j ∧ j ≤ 16) → Q j = Q0 j) →
        ((¬ (zmI (zsI (zsI (zsIr M 30 0 Q) 30 0 11 (zmI (zsIr M 30 0 Q) 30 0 12)) 30 0 14 0) 30 0 11) = (zmI (zsI (zsI (zsIr M 30 0 Q) 30 0 11 (zmI (zsIr M 30 0 Q) 30 0 12)) 30 0 14 0) 30 0 10) → (zCalI l G Y_X9_isLetterAt 0 0 [vr 30 0, vi (zmI (zsI (zsI (zsIr M 30 0 Q) 30 0 11 (zmI (zsIr M 30 0 Q) 30 0 12)) 30 0 14 0) 30 0 11)] (zsI (zsI (zsIr M 30 0 Q) 30 0 11 (zmI (zsIr M 30 0 Q) 30 0 12)) 30 0 14 0) (fun x6 M5 => ((x6 = 0 → (zCalI l G Y_X9_isDigitAt 0 0 [vr 30 0, vi (zmI M5 30 0 11)] M5 (fun x8 M7 => ((x8 = 0 → (vp_in (zmI M7 30 0 11) 500 ∧ (((zmI M7 37 0 (zmI M7 30 0 11).toNatClampNeg) = 59 → (Kf (zsI (zsI M7 30 0 13 3) 30 0 12 ((zmI (zsI M7 30 0 13 3) 30 0 12) + 1)))) ∧ (¬ (zmI M7 37 0 (zmI M7 30 0 11).toNatClampNeg) = 59 → (((zmI M7 37 0 (zmI M7 30 0 11).toNatClampNeg) = 40 → (Kf (zsI (zsI M7 30 0 13 3) 30 0 12 ((zmI (zsI M7 30 0 13 3) 30 0 12) + 1)))) ∧ (¬ (zmI M7 37 0 (zmI M7 30 0 11).toNatClampNeg) = 40 → ((¬ (zmI M7 37 0 (zmI M7 30 0 11).toNatClampNeg) = 41 → (Kf (zsI (zsI M7 30 0 13 4) 30 0 12 ((zmI (zsI M7 30 0 13 4) 30 0 12) + 1)))) ∧ ((zmI M7 37 0 (zmI M7 30 0 11).toNatClampNeg) = 41 → (Kf (zsI (zsI M7 30 0 13 3) 30 0 12 ((zmI (zsI M7 30 0 13 3) 30 0 12) + 1))))))))))) ∧ (¬ x8 = 0 → zAt l G Y_X9_advance (zEV G Y_X9_advance Kf) 127 [(0, vr 30 0)] [] (zsI M7 30 0 13 2) 0 0))))) ∧ (¬ x6 = 0 → zAt l G Y_X9_advance (zEV G Y_X9_advance Kf) 87 [(0, vr 30 0)] [] (zsI M5 30 0 13 1) 0 0))))) ∧ ((zmI (zsI (zsI (zsIr M 30 0 Q) 30 0 11 (zmI (zsIr M 30 0 Q) 30 0 12)) 30 0 14 0) 30 0 11) = (zmI (zsI (zsI (zsIr M 30 0 Q) 30 0 11 (zmI (zsIr M 30 0 Q) 30 0 12)) 30 0 14 0) 30 0 10) → (Kf (zsI (zsI (zsI (zsIr M 30 0 Q) 30 0 11 (zmI (zsIr M 30 0 Q) 30 0 12)) 30 0 14 0) 30 0 13 0)))) := by
      intro Q q10 q12 q15 qf
      have e1 : zsI (zsI (zsIr M 30 0 Q) 30 0 11 (zmI (zsIr M 30 0 Q) 30 0 12)) 30 0 14 0 = zsIr M 30 0 (zup (zup Q 11 (nI s)) 14 0) := by rw [zmU, zsU M 30 0 Q, zsU M 30 0, q12]
      rw [e1, zmU]
      generalize hQ1 : zup (zup Q 11 (nI s)) 14 0 = Q1
      have r10 : Q1 10 = nI F := by rw [← hQ1, zup_ne _ _ (by omega), zup_ne _ _ (by omega)]; exact q10
      have r11 : Q1 11 = nI s := by rw [← hQ1, zup_ne _ _ (by omega), zup_self]
      have r12 : Q1 12 = nI s := by rw [← hQ1, zup_ne _ _ (by omega), zup_ne _ _ (by omega)]; exact q12
      have r14 : Q1 14 = 0 := by rw [← hQ1, zup_self]
      have r15 : Q1 15 = 0 := by rw [← hQ1, zup_ne _ _ (by omega), zup_ne _ _ (by omega)]; exact q15
      have rf : ∀ j, ¬ (11 ≤ j ∧ j ≤ 16) → Q1 j = Q0 j := fun j hj => by rw [← hQ1, zup_ne _ _ (by omega), zup_ne _ _ (by omega)]; exact qf j hj
      have done : ∀ (t : Nat) (e : Nat), e = rd_e b F s → t = rd_t (rd_kd b F s) → ¬ rd_kd b F s = 2 → ∀ Q2, Q2 = zup (zup Q1 13 (nI t)) 12 (nI e) → Kf (zsIr M 30 0 Q2) := fun t e he2 ht hk2 Q2 hQ2 => by
        subst hQ2
        refine h _ (UK.mk hnl.2 ?_ ?_ (fun g => absurd rfl g) (fun _ => Uk.mk ?_ ?_ ?_ (fun g => absurd g hk2)) ?_)
        · rw [zup_ne _ _ (by omega), zup_ne _ _ (by omega)]; exact r10
        · rw [zup_ne _ _ (by omega), zup_ne _ _ (by omega)]; exact r15
        · rw [zup_ne _ _ (by omega), zup_ne _ _ (by omega)]; exact r11
        · rw [zup_self, he2]
        · rw [zup_ne _ _ (by omega), zup_self, ht]
        · intro j hj; rw [zup_ne _ _ (by omega), zup_ne _ _ (by omega)]; exact rf j hj
      have i11 : (zmI (zsIr M 30 0 Q1) 30 0 11).toInt = s := by rw [zmU, r11, ti_nI (by omega)]
      refine ⟨fun c => ?_, fun c => ?_⟩
      · have hsF : s < F := by
          rw [r10, r11] at c
          rcases Nat.lt_or_ge s F with g | g
          · exact g
          · exact absurd (by rw [show s = F by omega]) c
        have hkd : rd_kd b F s = rd_k (b s) := by unfold rd_kd; rw [if_neg (by omega)]
        refine R_letterAt (i := s) (hT.set Q1) (by rw [zmU]; exact r10) (by rw [r11, ti_nI (by omega)]) (fun _ k1 => ⟨fun g => absurd g (by decide), fun _ => ?_⟩) fun k1 => ⟨fun _ => R_digitAt (i := s) (hT.set Q1) (by rw [zmU]; exact r10) i11 (fun _ k2 => ⟨fun g => absurd g (by decide), fun _ => ?_⟩) fun k2 => ⟨fun _ => ⟨ti_in (by rw [i11]; omega), ?_⟩, fun g => absurd rfl g⟩, fun g => absurd rfl g⟩
        · rw [zsU]
          refine l87 hsF k1 (F - s) s (by omega) ?_ _ ?_ ?_ ?_ ?_ ?_ ?_
          · rw [show F - s = (F - (s + 1)) + 1 by omega]
            unfold rd_sp rd_e
            rw [if_pos k1, if_neg (by omega), if_pos (.inl k1), k1]
          · rw [zup_ne _ _ (by omega)]; exact r10
          · rw [zup_ne _ _ (by omega)]; exact r11
          · rw [zup_ne _ _ (by omega)]; exact r12
          · rw [zup_self]
          · rw [zup_ne _ _ (by omega)]; exact r15
          · intro j hj; rw [zup_ne _ _ (by omega)]; exact rf j hj
        · rw [zsU]
          refine l127 hsF k2 (F - s) 0 (by omega) ?_ _ ?_ ?_ ?_ ?_ ?_ ?_ ?_
          · rw [show F - s = (F - (s + 1)) + 1 by omega, show s + 0 = s from rfl]
            unfold rd_sp rd_e
            rw [if_pos k2, if_neg (by omega), if_pos (.inr k2), k2]
          · rw [zup_ne _ _ (by omega)]; exact r10
          · rw [zup_ne _ _ (by omega)]; exact r11
          · rw [zup_ne _ _ (by omega)]; exact r12
          · rw [zup_self]
          · rw [zup_ne _ _ (by omega), r14]; rfl
          · rw [zup_ne _ _ (by omega)]; exact r15
          · intro j hj; rw [zup_ne _ _ (by omega)]; exact rf j hj
        · have hk1 : ¬ rd_k (b s) = 1 := fun g => k1 ⟨hsF, g⟩
          have hk2 : ¬ rd_k (b s) = 2 := fun g => k2 ⟨hsF, g⟩
          have he1 : s + 1 = rd_e b F s := by
            unfold rd_e
            rw [if_neg (by omega), if_neg (fun g => g.elim hk1 hk2)]
          have eb : zmI (zsIr M 30 0 Q1) 37 0 (zmI (zsIr M 30 0 Q1) 30 0 11).toNatClampNeg = b s := by
            rw [ti_at i11, zmO _ _ _ _ _ _ (by omega), hT.byt s hsF]
          rw [eb]
          have go : ∀ t : Nat, t = rd_t (rd_kd b F s) → Kf (zsI (zsI (zsIr M 30 0 Q1) 30 0 13 (nI t)) 30 0 12 (zmI (zsI (zsIr M 30 0 Q1) 30 0 13 (nI t)) 30 0 12 + 1)) := fun t ht => by
            rw [zsU M 30 0 Q1, zmU, zsU M 30 0]
            refine done t (s + 1) he1 ht (by rw [hkd]; exact hk2) _ ?_
            rw [zup_ne _ _ (by omega), r12]
            congr 1
            exact nI_ofT (ti_inc (ti_nI (by omega)) (by omega))
          have n1 : ¬ (97 ≤ b s ∧ b s ≤ 122) := fun g => hk1 ((rd_k1 _).mp g)
          have n2 : ¬ (48 ≤ b s ∧ b s ≤ 57) := fun g => hk2 ((rd_k2 _).mp g)
          refine ⟨fun g => go 3 ?_, fun g3 => ⟨fun g => go 3 ?_, fun g4 => ⟨fun g5 => go 4 ?_, fun g => go 3 ?_⟩⟩⟩
          · rw [hkd]; unfold rd_k; rw [if_neg n1, if_neg n2, if_pos g]; rfl
          · rw [hkd]; unfold rd_k; rw [if_neg n1, if_neg n2, if_neg g3, if_pos g]; rfl
          · rw [hkd]; unfold rd_k; rw [if_neg n1, if_neg n2, if_neg g3, if_neg g4, if_neg g5]; rfl
          · rw [hkd]; unfold rd_k; rw [if_neg n1, if_neg n2, if_neg g3, if_neg g4, if_pos g]; rfl
      · have hsF : s = F := by
          rw [r10, r11] at c
          exact nI_inj (by omega) (by omega) c
        have hkd : rd_kd b F s = 0 := by unfold rd_kd; rw [if_pos (by omega)]
        rw [zsU]
        refine done 0 s (by unfold rd_e; rw [if_pos (by omega)]) (by rw [hkd]; rfl) (by rw [hkd]; decide) _ ?_
        funext j
        by_cases g : j = 12
        · rw [g, zup_self, zup_ne _ _ (by omega), r12]
        · rw [zup_ne (zup Q1 13 (nI 0)) _ g]; rfl
    induction d with
    | zero =>
      intro i hi hq Q q10 q12 q15 qf
      have hiF : i = F := by omega
      have his : i = s := hq
      have h12 : (zmI (zsIr M 30 0 Q) 30 0 12).toInt = i := by rw [zmU, q12, ti_nI (by omega)]
      refine zb_X9_advance_0 (R_byteR (hT.set Q) (by rw [zmU]; exact q10) h12 (fun c => absurd c (by omega)) fun _ => ⟨fun c => absurd c (by decide), fun _ => R_byteR (hT.set Q) (by rw [zmU]; exact q10) h12 (fun c => absurd c (by omega)) fun _ => ⟨fun _ => ?_, fun c => absurd c (by decide)⟩⟩)
      exact tok Q q10 (by rw [q12, his]) q15 qf
    | succ d ih =>
      intro i hi hq Q q10 q12 q15 qf
      unfold rd_sk at hq
      have h12 : (zmI (zsIr M 30 0 Q) 30 0 12).toInt = i := by rw [zmU, q12, ti_nI (by omega)]
      have l26 : b i = 32 ∨ b i = 10 → zAt l G Y_X9_advance (zEV G Y_X9_advance Kf) 26 [(0, vr 30 0)] [] (zsIr M 30 0 Q) 0 0 := fun g => by
        rw [if_pos g] at hq
        refine zb_X9_advance_26 ?_
        rw [zmU, zsU]
        refine ih (i + 1) (by omega) hq _ ?_ ?_ ?_ ?_
        · rw [zup_ne _ _ (by omega)]; exact q10
        · rw [zup_self, q12]; exact nI_ofT (ti_inc (ti_nI (by omega)) (by omega))
        · rw [zup_ne _ _ (by omega)]; exact q15
        · intro j hj; rw [zup_ne _ _ (by omega)]; exact qf j hj
      refine zb_X9_advance_0 (R_byteR (hT.set Q) (by rw [zmU]; exact q10) h12 (fun _ => ⟨fun c => l26 (.inl c), fun c => R_byteR (hT.set Q) (by rw [zmU]; exact q10) h12 (fun _ => ⟨fun c2 => ?_, fun c2 => l26 (.inr c2)⟩) fun g => absurd g (by omega)⟩) fun g => absurd g (by omega))
      rw [if_neg (fun g => g.elim c c2)] at hq
      exact tok Q q10 (by rw [q12, hq]) q15 qf
  refine zm_X9_advance ?_
  have := l0 (F - e) e (by omega) hsk (zmI M 30 0) hl hn h5 hfr
  rw [show zsIr M 30 0 (zmI M 30 0) = M from zsI0 M 30 0] at this
  exact this
end
