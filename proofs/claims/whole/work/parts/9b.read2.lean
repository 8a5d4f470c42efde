/-! THE READER'S STEPS: a place, a first error and where it was -/
section
variable {l : Launch} {G : zG} {M : zM} {A : Nat} {b : Nat → Int32} {F : Nat}
def t_fail (c : Int32) (S : Nat × Int32 × Int32) : Nat × Int32 × Int32 := if S.2.1 = 0 then (S.1, c, nI S.1) else S
def t_adv (b : Nat → Int32) (F : Nat) (S : Nat × Int32 × Int32) : Nat × Int32 × Int32 := (rd_n b F (rd_e b F S.1), S.2)
def t_exp (b : Nat → Int32) (F k : Nat) (S : Nat × Int32 × Int32) : Nat × Int32 × Int32 := if S.2.1 = 0 then (if rd_kd b F S.1 = k then t_adv b F S else (S.1, 1, nI S.1)) else S
def rd_d (b : Nat → Int32) (s : Nat) : Nat → Int32
  | 0 => 0
  | d + 1 => ((10 * rd_d b s d) + b (s + d)) - 48
def rd_v (b : Nat → Int32) (F s : Nat) : Int32 := if rd_e b F s - s ≤ 6 then rd_d b s (rd_e b F s - s) else -1
def t_num (b : Nat → Int32) (F : Nat) (lo hi : Int32) (S : Nat × Int32 × Int32) : Int32 × (Nat × Int32 × Int32) := if S.2.1 = 0 then (if rd_kd b F S.1 = 2 then (if lo ≤ rd_v b F S.1 ∧ rd_v b F S.1 ≤ hi then (rd_v b F S.1, t_adv b F S) else (lo, (S.1, 2, nI S.1))) else (lo, (S.1, 1, nI S.1))) else (lo, S)
abbrev TK (b : Nat → Int32) (F : Nat) (S : Nat × Int32 × Int32) (P : Nat → Int32) : Prop := Tk b F S.1 S.2.1 S.2.2 P
def rd_is (b : Nat → Int32) (F s : Nat) (t : List Nat) : Prop := rd_kd b F s = 1 ∧ rd_e b F s - s = t.length ∧ ∀ i, i < t.length → b (s + i) = nI (t.getD i 0)
theorem Tk.n {s : Nat} {er ea : Int32} {P : Nat → Int32} (h : Tk b F s er ea P) : s ≤ rd_e b F s ∧ rd_e b F s ≤ F ∧ (s < F → s < rd_e b F s) := rd_e_le h.hs
theorem C_failT {S : Nat × Int32 × Int32} {c : Int32} {Kf : zM → Prop} (hk : TK b F S (zmI M 1 0)) (h : ∀ P, TK b F (t_fail c S) P → Kf (zsIr M 1 0 P)) : zCalV l G Y_X4_fail 0 0 [vr 1 0, vi c] M Kf := by
  obtain ⟨s, er, ea⟩ := S
  have h5 : zmI M 1 0 5 = er := hk.err
  have h3 : zmI M 1 0 3 = nI s := hk.start
  unfold t_fail at h
  refine zm_X4_fail ⟨fun g => ?_, fun g => ?_⟩
  · rw [h5] at g
    rw [if_neg g] at h
    have := h (zmI M 1 0) hk
    rw [show zsIr M 1 0 (zmI M 1 0) = M from zsI0 M 1 0] at this
    exact this
  · rw [h5] at g
    rw [if_pos g] at h
    have e : zmI (zsI M 1 0 5 c) 1 0 3 = nI s := by
      show (zsIr M 1 0 (zup (zmI M 1 0) 5 c)).1 1 0 3 = _
      rw [zsI1, zup_ne _ _ (by omega)]
      exact h3
    rw [e]
    show Kf (zsIr (zsIr M 1 0 _) 1 0 (zup ((zsIr M 1 0 _).1 1 0) 6 _))
    rw [zsI1, zsI2]
    refine h _ ?_
    refine Tk.mk hk.hs ?_ ?_ ?_ ?_ ?_ ?_
    · rw [zup_ne _ _ (by omega), zup_ne _ _ (by omega)]; exact hk.len
    · rw [zup_ne _ _ (by omega), zup_ne _ _ (by omega)]; exact hk.kind
    · rw [zup_ne _ _ (by omega), zup_ne _ _ (by omega)]; exact hk.start
    · rw [zup_ne _ _ (by omega), zup_ne _ _ (by omega)]; exact hk.fin
    · rw [zup_ne _ _ (by omega), zup_self]
    · rw [zup_self]
theorem C_advT {S : Nat × Int32 × Int32} {Kf : zM → Prop} (hT : Tx b F M) (hk : TK b F S (zmI M 1 0)) (h : ∀ P, TK b F (t_adv b F S) P → Kf (zsIr M 1 0 P)) : zCalV l G Y_X4_advance 0 0 [vr 1 0] M Kf :=
  C_adv hT hk.fin hk.n.2.1 hk.err hk.era h
theorem zmI1 {P : Nat → Int32} : zmI (zsIr M 1 0 P) 1 0 = P := zsI1 M 1 0 P
theorem C_begT {Kf : zM → Prop} (hT : Tx b F M) (h : ∀ P, TK b F (rd_n b F 0, 0, -1) P → Kf (zsIr M 1 0 P)) : zCalV l G Y_X4_begin 0 0 [vr 1 0] M Kf := by
  have e : zsI (zsI (zsI M 1 0 5 0) 1 0 6 (-1)) 1 0 4 0 = zsIr M 1 0 (zup (zup (zup (zmI M 1 0) 5 0) 6 (-1)) 4 0) := by
    show zsIr (zsIr (zsIr M 1 0 _) 1 0 (zup ((zsIr M 1 0 _).1 1 0) 6 _)) 1 0 (zup ((zsIr (zsIr M 1 0 _) 1 0 (zup ((zsIr M 1 0 _).1 1 0) 6 _)).1 1 0) 4 _) = _
    rw [zsI1, zsI2, zsI1, zsI2]
  refine zm_X4_begin ?_
  rw [e]
  have hT2 : Tx b F (zsIr M 1 0 (zup (zup (zup (zmI M 1 0) 5 0) 6 (-1)) 4 0)) := hT.set (by rw [zup_ne _ _ (by omega), zup_ne _ _ (by omega), zup_ne _ _ (by omega)]; exact hT.len)
  refine C_adv (s := 0) (er := 0) (ea := -1) hT2 ?_ (Nat.zero_le _) ?_ ?_ fun P hP => ?_
  · rw [zmI1, zup_self]; rfl
  · rw [zmI1, zup_ne _ _ (by omega), zup_ne _ _ (by omega), zup_self]
  · rw [zmI1, zup_ne _ _ (by omega), zup_self]
  · rw [zsI2]
    exact h P hP
theorem C_expT {S : Nat × Int32 × Int32} {k : Nat} {c : Int32} {Kf : zM → Prop} (hT : Tx b F M) (hk : TK b F S (zmI M 1 0)) (hc : c = nI k) (hk6 : k ≤ 6) (h : ∀ P, TK b F (t_exp b F k S) P → Kf (zsIr M 1 0 P)) : zCalV l G Y_X4_expect 0 0 [vr 1 0, vi c] M Kf := by
  obtain ⟨s, er, ea⟩ := S
  have h5 : zmI M 1 0 5 = er := hk.err
  have h2 : zmI M 1 0 2 = nI (rd_kd b F s) := hk.kind
  have hlt := rd_kd_lt b F s
  have fin : ∀ (hh : TK b F (t_exp b F k (s, er, ea)) (zmI M 1 0)), Kf M := fun hh => by
    have := h (zmI M 1 0) hh
    rw [show zsIr M 1 0 (zmI M 1 0) = M from zsI0 M 1 0] at this
    exact this
  refine zm_X4_expect ⟨fun g => ?_, fun g => ?_⟩
  · rw [h2, hc] at g
    have g2 := nI_inj (by omega) (by omega) g
    refine zb_X4_expect_13 ⟨fun e => fin ?_, fun e => C_advT hT hk fun P hP => h P ?_⟩
    · rw [h5] at e
      unfold t_exp
      rw [if_neg e]
      exact hk
    · rw [h5] at e
      unfold t_exp
      rw [if_pos e, if_pos g2]
      exact hP
  · have g2 : ¬ rd_kd b F s = k := fun e => g (by rw [h2, hc, e])
    refine C_failT hk fun P hP => ?_
    have e6 : t_fail 1 (s, er, ea) = t_exp b F k (s, er, ea) := by
      unfold t_fail t_exp
      by_cases e : er = 0
      · rw [if_pos e, if_pos e, if_neg g2]
      · rw [if_neg e, if_neg e]
    refine zb_X4_expect_13 ⟨fun _ => h P (e6 ▸ hP), fun e => ?_⟩
    exfalso
    rw [zmI1] at e
    have e7 := hP.err
    rw [e] at e7
    unfold t_fail at e7
    by_cases f : er = 0
    · rw [if_pos f] at e7
      exact absurd (show (0 : Int32) = 1 from e7) (by decide)
    · rw [if_neg f] at e7
      exact f e7.symm
theorem C_valT {s : Nat} {er ea : Int32} {Kf : Int32 → zM → Prop} (hT : Tx b F M) (hk : Tk b F s er ea (zmI M 1 0)) (h : Kf (rd_v b F s) M) : zCalI l G Y_X4_value 0 0 [vr 1 0] M Kf := by
  have hF := hT.hF
  have hn := hk.n
  have e3 : zmI M 1 0 3 = nI s := hk.start
  have e4 : zmI M 1 0 4 = nI (rd_e b F s) := hk.fin
  have es : (nI (rd_e b F s) - nI s).toInt = ((rd_e b F s - s : Nat) : Int) := by
    rw [ti_sub (by rw [ti_nI (by omega), ti_nI (by omega)]; omega), ti_nI (by omega), ti_nI (by omega)]
    omega
  unfold rd_v at h
  have key : rd_e b F s - s ≤ 6 → ∀ d j : Nat, j + d = rd_e b F s - s → ∀ y : Int32, y.toInt = ((s + j : Nat) : Int) → zAt l G Y_X4_value (zEI G Y_X4_value Kf) 23 [(0, vr 1 0), (1, vi (rd_d b s j)), (2, vi y)] [] M 0 0 := by
    intro h6 d
    rw [if_pos h6] at h
    induction d with
    | zero =>
      intro j hj y hy
      refine zb_X4_value_23 ⟨fun _ => ?_, fun c => ?_⟩
      · rw [show j = rd_e b F s - s by omega]; exact h
      · exfalso
        rw [e4, ti_le, ti_nI (by omega)] at c
        omega
    | succ d ih =>
      intro j hj y hy
      refine zb_X4_value_23 ⟨fun c => ?_, fun _ => C_byteR hT hy (by omega) (ih (j + 1) (by omega) (y + 1) (ti_inc (k := s + j) hy (by omega)))⟩
      exfalso
      rw [e4, ti_le, ti_nI (by omega)] at c
      omega
  refine zm_X4_value ⟨fun c => ?_, fun c => ?_⟩
  · rw [e3, e4, ti_le, es, show (6 : Int32).toInt = 6 from rfl] at c
    exact key (by omega) (rd_e b F s - s) 0 (by omega) _ (by rw [e3, ti_nI (by omega)]; omega)
  · rw [e3, e4, ti_le, es, show (6 : Int32).toInt = 6 from rfl] at c
    rw [if_neg (by omega)] at h
    exact h
theorem C_numT {S : Nat × Int32 × Int32} {lo hi : Int32} {Kf : Int32 → zM → Prop} (hT : Tx b F M) (hk : TK b F S (zmI M 1 0)) (h : ∀ P, TK b F (t_num b F lo hi S).2 P → Kf (t_num b F lo hi S).1 (zsIr M 1 0 P)) : zCalI l G Y_X4_number 0 0 [vr 1 0, vi lo, vi hi] M Kf := by
  obtain ⟨s, er, ea⟩ := S
  have h5 : zmI M 1 0 5 = er := hk.err
  have h2 : zmI M 1 0 2 = nI (rd_kd b F s) := hk.kind
  have hlt := rd_kd_lt b F s
  unfold t_num at h
  refine zm_X4_number ⟨fun g => ?_, fun g => ?_⟩
  · have g2 : rd_kd b F s = 2 := by
      rw [h2] at g
      exact nI_inj (by omega) (by omega) g
    refine zb_X4_number_13 ⟨fun e => ?_, fun e => ?_⟩
    · rw [h5] at e
      rw [if_pos e, if_pos g2] at h
      refine C_valT hT hk ⟨fun c => ?_, fun c => ⟨fun d => ?_, fun d => ?_⟩⟩
      · rw [if_neg (fun q => by rw [ti_lt] at c; rw [ti_le] at q; omega)] at h
        refine zb_X4_number_37 (C_failT hk fun P hP => h P ?_)
        unfold t_fail at hP
        rw [if_pos e] at hP
        exact hP
      · rw [if_pos ⟨by rw [ti_lt] at c; rw [ti_le]; omega, d⟩] at h
        exact C_advT hT hk fun P hP => h P hP
      · rw [if_neg (fun q => d q.2)] at h
        refine zb_X4_number_37 (C_failT hk fun P hP => h P ?_)
        unfold t_fail at hP
        rw [if_pos e] at hP
        exact hP
    · rw [h5] at e
      rw [if_neg e] at h
      have := h (zmI M 1 0) hk
      rw [show zsIr M 1 0 (zmI M 1 0) = M from zsI0 M 1 0] at this
      exact this
  · have g2 : ¬ rd_kd b F s = 2 := fun e => g (by rw [h2, e]; rfl)
    refine C_failT hk fun P hP => ?_
    refine zb_X4_number_13 ⟨fun e => ?_, fun e => ?_⟩
    · exfalso
      rw [zmI1] at e
      have e7 := hP.err
      rw [e] at e7
      unfold t_fail at e7
      by_cases f : er = 0
      · rw [if_pos f] at e7
        exact absurd (show (0 : Int32) = 1 from e7) (by decide)
      · rw [if_neg f] at e7
        exact f e7.symm
    · by_cases f : er = 0
      · rw [if_pos f, if_neg g2] at h
        refine h P ?_
        unfold t_fail at hP
        rw [if_pos f] at hP
        exact hP
      · rw [if_neg f] at h
        refine h P ?_
        unfold t_fail at hP
        rw [if_neg f] at hP
        exact hP
theorem C_isW {s a : Nat} {er ea : Int32} {t : List Nat} {Kf : Int32 → zM → Prop} (hT : Tx b F M) (hk : Tk b F s er ea (zmI M 1 0)) (ht : zmT M a = some t) (h1 : rd_is b F s t → Kf 1 M) (h0 : ¬ rd_is b F s t → Kf 0 M) (hl : t.length < 1000) : zCalI l G Y_X4_isWord 0 0 [vr 1 0, va a] M Kf := by
  have hF := hT.hF
  have hn := hk.n
  have hlt := rd_kd_lt b F s
  have e2 : zmI M 1 0 2 = nI (rd_kd b F s) := hk.kind
  have e3 : zmI M 1 0 3 = nI s := hk.start
  have e4 : zmI M 1 0 4 = nI (rd_e b F s) := hk.fin
  have es : (nI (rd_e b F s) - nI s).toInt = ((rd_e b F s - s : Nat) : Int) := by
    rw [ti_sub (by rw [ti_nI (by omega), ti_nI (by omega)]; omega), ti_nI (by omega), ti_nI (by omega)]
    omega
  refine zm_X4_isWord ⟨fun g => ?_, fun g => ⟨⟨t, ht⟩, C_len ht ⟨fun c => ?_, fun c => ?_⟩⟩⟩
  · exact h0 fun e => g (by rw [e2, e.1]; rfl)
  · have g2 : rd_kd b F s = 1 := by
      rw [e2] at g
      exact nI_inj (by omega) (by omega) g
    have c2 : rd_e b F s - s = t.length := by
      rw [e3, e4, ti_eq, es, ti_nI (by omega)] at c
      omega
    have key : ∀ d j : Nat, j + d = t.length → (∀ i, i < j → b (s + i) = nI (t.getD i 0)) → ∀ y : Int32, y.toInt = j → zAt l G Y_X4_isWord (zEI G Y_X4_isWord Kf) 28 [(0, vr 1 0), (1, va a), (2, vi y)] [] M 0 0 := by
      intro d
      induction d with
      | zero =>
        intro j hj hq y hy
        refine zb_X4_isWord_28 ⟨⟨t, ht⟩, C_len ht ⟨fun _ => h1 ⟨g2, c2, fun i hi => hq i (by omega)⟩, fun c => ?_⟩⟩
        exfalso
        rw [ti_le, ti_nI (by omega)] at c
        omega
      | succ d ih =>
        intro j hj hq y hy
        refine zb_X4_isWord_28 ⟨⟨t, ht⟩, C_len ht ⟨fun c => ?_, fun _ => ?_⟩⟩
        · exfalso
          rw [ti_le, ti_nI (by omega)] at c
          omega
        · refine C_byteR (i := s + j) hT ?_ (by omega) ⟨⟨t, ht⟩, C_chr ht hy (by omega) fun hc => ⟨fun q => ?_, fun q => ?_⟩⟩
          · rw [e3, ti_add (by rw [ti_nI (by omega)]; omega), ti_nI (by omega)]
            omega
          · refine ih (j + 1) (by omega) (fun i hi => ?_) (y + 1) (ti_inc hy (by omega))
            rcases Nat.lt_or_ge i j with f | f
            · exact hq i f
            · rw [show i = j by omega]; exact q
          · exact h0 fun e => q (e.2.2 j (by omega))
    exact key t.length 0 (by omega) (fun i hi => absurd hi (by omega)) 0 rfl
  · refine h0 fun e => c ?_
    rw [e3, e4, ti_eq, es, ti_nI (by omega), e.2.1]
theorem C_isN {s : Nat} {er ea : Int32} {Kf : Int32 → zM → Prop} (hT : Tx b F M) (hk : Tk b F s er ea (zmI M 1 0)) (h1 : rd_kd b F s = 1 → rd_e b F s - s ≤ 8 → Kf 1 M) (h0 : ¬ (rd_kd b F s = 1 ∧ rd_e b F s - s ≤ 8) → Kf 0 M) : zCalI l G Y_X4_isName 0 0 [vr 1 0] M Kf := by
  have hF := hT.hF
  have hn := hk.n
  have hlt := rd_kd_lt b F s
  have e2 : zmI M 1 0 2 = nI (rd_kd b F s) := hk.kind
  have e3 : zmI M 1 0 3 = nI s := hk.start
  have e4 : zmI M 1 0 4 = nI (rd_e b F s) := hk.fin
  have es : (nI (rd_e b F s) - nI s).toInt = ((rd_e b F s - s : Nat) : Int) := by
    rw [ti_sub (by rw [ti_nI (by omega), ti_nI (by omega)]; omega), ti_nI (by omega), ti_nI (by omega)]
    omega
  refine zm_X4_isName ⟨fun g => h0 fun e => g (by rw [e2, e.1]; rfl), fun g => ⟨fun c => ?_, fun c => ?_⟩⟩
  · rw [e3, e4, ti_lt, es, show (8 : Int32).toInt = 8 from rfl] at c
    exact h0 fun e => absurd e.2 (by omega)
  · rw [e3, e4, ti_lt, es, show (8 : Int32).toInt = 8 from rfl] at c
    rw [e2] at g
    exact h1 (nI_inj (by omega) (by omega) g) (by omega)
end
