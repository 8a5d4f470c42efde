/-! SETUPS: a flow, the class -/
section
variable {l : Launch} {G : zG} {M M0 : zM} {A : Nat} {b : Nat → Int32} {F : Nat} {S S' : Nat × Int32 × Int32} {w : Nat → Int32} {t : Int32}
def rd_wl (w : Nat → Int32) (b : Nat → Int32) (n s len : Nat) : Nat → Nat → Int32
  | 0 => zup w (sf n 9) (nI len)
  | j + 1 => zup (rd_wl w b n s len j) (sf n (10 + j)) (b (s + j))
theorem rd_wl_o {n s len : Nat} : ∀ (j k : Nat), ¬ k = sf n 9 → ¬ (sf n 10 ≤ k ∧ k < sf n (10 + j)) → rd_wl w b n s len j k = w k := by
  intro j
  induction j with
  | zero => exact fun k h1 _ => zup_ne _ _ h1
  | succ j ih =>
    intro k h1 h2
    show zup (rd_wl w b n s len j) (sf n (10 + j)) (b (s + j)) k = w k
    unfold sf at *
    rw [zup_ne _ _ (by omega)]
    exact ih k (by omega) (by omega)
theorem rd_wl_9 {n s len : Nat} : ∀ j : Nat, rd_wl w b n s len j (sf n 9) = nI len := by
  intro j
  induction j with
  | zero => exact zup_self _ _ _
  | succ j ih =>
    show zup (rd_wl w b n s len j) (sf n (10 + j)) (b (s + j)) (sf n 9) = _
    rw [zup_ne _ _ (by unfold sf; omega)]
    exact ih
theorem rd_wl_l {n s len : Nat} : ∀ (j i : Nat), i < j → rd_wl w b n s len j (sf n (10 + i)) = b (s + i) := by
  intro j
  induction j with
  | zero => exact fun i h => absurd h (by omega)
  | succ j ih =>
    intro i hi
    show zup (rd_wl w b n s len j) (sf n (10 + j)) (b (s + j)) (sf n (10 + i)) = _
    rcases Nat.lt_or_ge i j with f | f
    · rw [zup_ne _ _ (by unfold sf; omega)]
      exact ih i f
    · rw [show i = j by omega, zup_self]
/-- the steps of a flow -/
noncomputable def f_2 (b : Nat → Int32) (F : Nat) (w : Nat → Int32) (S : Nat × Int32 × Int32) : Nat × Int32 × Int32 := s_name b F w (t_exp b F 1 S)
def f_n (b : Nat → Int32) (F : Nat) (S3 : Nat × Int32 × Int32) : Int32 × (Nat × Int32 × Int32) := t_num b F 1 99 S3
def f_p (b : Nat → Int32) (F : Nat) (S3 : Nat × Int32 × Int32) : Int32 × (Nat × Int32 × Int32) := t_num b F 1 50 (f_n b F S3).2
def f_s (b : Nat → Int32) (F : Nat) (S3 : Nat × Int32 × Int32) : Int32 × (Nat × Int32 × Int32) := t_num b F 1 9 (f_p b F S3).2
def f_c (b : Nat → Int32) (F : Nat) (S3 : Nat × Int32 × Int32) : Int32 × (Nat × Int32 × Int32) := t_num b F (f_s b F S3).1 9 (f_s b F S3).2
def f_mk (b : Nat → Int32) (F : Nat) (S3 : Nat × Int32 × Int32) : Prop := rd_is b F (f_c b F S3).2.1 [109, 97, 114, 107, 115]
noncomputable def f_8 (b : Nat → Int32) (F : Nat) (S3 : Nat × Int32 × Int32) : Nat × Int32 × Int32 := pif (f_mk b F S3) (t_exp b F 1 (f_c b F S3).2) (f_c b F S3).2
noncomputable def f_m (b : Nat → Int32) (F : Nat) (S3 : Nat × Int32 × Int32) : Int32 := pif (f_mk b F S3) 1 0
/-- the row with a flow more -/
noncomputable def f_w (b : Nat → Int32) (F : Nat) (w : Nat → Int32) (n s : Nat) (S3 : Nat × Int32 × Int32) : Nat → Int32 :=
  zup (zup (zup (zup (zup (zup (zup (zup (rd_wl w b n s (rd_e b F s - s) (rd_e b F s - s)) (sf n 0) (f_n b F S3).1) (sf n 1) (f_p b F S3).1) (sf n 2) (f_s b F S3).1) (sf n 3) (f_c b F S3).1) (sf n 6) (f_s b F S3).1) (sf n 5) 1) (sf n 4) (f_m b F S3)) 11 (w 11 + 1)
noncomputable def s_flow (b : Nat → Int32) (F : Nat) (X : (Nat × Int32 × Int32) × (Nat → Int32) × Int32) : (Nat × Int32 × Int32) × (Nat → Int32) × Int32 :=
  if X.2.1 11 = 6 then (t_fail 5 X.1, X.2) else (f_8 b F (t_exp b F 1 (f_2 b F X.2.1 X.1)), f_w b F X.2.1 (X.2.1 11).toInt.toNat (f_2 b F X.2.1 X.1).1 (t_exp b F 1 (f_2 b F X.2.1 X.1)), X.2.2)
theorem t_fail_e {c : Int32} (h : ¬ S.2.1 = 0) : t_fail c S = S := if_neg h
theorem t_exp_e {k : Nat} (h : ¬ S.2.1 = 0) : t_exp b F k S = S := if_neg h
theorem t_num_e {lo hi : Int32} (h : ¬ S.2.1 = 0) : t_num b F lo hi S = (lo, S) := if_neg h
theorem pif_same {α : Type} {p : Prop} {a : α} : pif p a a = a := by unfold pif; split <;> rfl
theorem s_name_e (h : ¬ S.2.1 = 0) : s_name b F w S = S := by
  unfold s_name
  rw [t_fail_e h, t_fail_e h, pif_same, pif_same]
theorem f_8_e (h : ¬ S.2.1 = 0) : f_8 b F S = S := by
  unfold f_8 f_c f_s f_p f_n
  simp only [t_num_e h, t_exp_e h, pif_same]
theorem s_name_0 (h : (s_name b F w S).2.1 = 0) : S.2.1 = 0 ∧ rd_kd b F S.1 = 1 ∧ rd_e b F S.1 - S.1 ≤ 8 ∧ ¬ rd_has b F w S.1 ∧ s_name b F w S = S := by
  rcases Classical.em (S.2.1 = 0) with g | g
  · unfold s_name at h ⊢
    rcases Classical.em (rd_kd b F S.1 = 1 ∧ rd_e b F S.1 - S.1 ≤ 8) with c | c
    · rw [pif_pos c] at h ⊢
      rcases Classical.em (rd_has b F w S.1) with d | d
      · rw [pif_pos d] at h
        unfold t_fail at h
        rw [if_pos g] at h
        exact absurd (show (3 : Int32) = 0 from h) (by decide)
      · rw [pif_neg d]
        exact ⟨g, c.1, c.2, d, rfl⟩
    · rw [pif_neg c] at h
      unfold t_fail at h
      rw [if_pos g] at h
      exact absurd (show (1 : Int32) = 0 from h) (by decide)
  · rw [s_name_e g] at h
    exact absurd h g
theorem f_8_0 (h : (f_8 b F S).2.1 = 0) : (f_c b F S).2.2.1 = 0 ∧ (f_s b F S).2.2.1 = 0 ∧ (f_p b F S).2.2.1 = 0 ∧ (f_n b F S).2.2.1 = 0 ∧ S.2.1 = 0 := by
  have h1 : (f_c b F S).2.2.1 = 0 := by
    unfold f_8 at h
    rcases Classical.em (f_mk b F S) with c | c
    · rw [pif_pos c] at h; exact t_exp_0 h
    · rw [pif_neg c] at h; exact h
  have h2 : (f_s b F S).2.2.1 = 0 := t_num_0 h1
  have h3 : (f_p b F S).2.2.1 = 0 := t_num_0 h2
  have h4 : (f_n b F S).2.2.1 = 0 := t_num_0 h3
  exact ⟨h1, h2, h3, h4, t_num_0 h4⟩
/-- the router aside has changed where the row doesn't look -/
theorem Rel.same {M' : zM} {e : Bool} (h : Rel M 0 w e) (h1 : ∀ s i, (s = 15 ∨ s = 19 ∨ s = 20 ∨ s = 21 ∨ s = 22) → i = 0 → M'.1 s i = M.1 s i) (h2 : ∀ i : Nat, (i : Int) < (w 11).toInt → M'.1 17 i = M.1 17 i ∧ M'.2.1 18 i = M.2.1 18 i ∧ M'.2.2.2.1 17 i = M.2.2.2.1 17 i) (h4 : ∀ a t, M.2.2.2.2.1 a = some t → M'.2.2.2.2.1 a = some t) : Rel M' 0 w e := by
  unfold Rel at *
  show RA (M'.1 15 0) w e ∧ (∀ i : Nat, (i : Int) < (w 11).toInt → RF (M'.1 17 (6 * 0 + i)) (M'.2.1 18 (6 * 0 + i)) (M'.2.2.2.2.1 (M'.2.2.2.1 17 (6 * 0 + i) 0)) w i) ∧ RQ (M'.1 19 0) (M'.1 20 0) w ∧ RD (M'.1 21 0) (M'.1 22 0) w e
  rw [h1 15 0 (by omega) rfl, h1 19 0 (by omega) rfl, h1 20 0 (by omega) rfl, h1 21 0 (by omega) rfl, h1 22 0 (by omega) rfl]
  refine ⟨h.1, fun i hi => ?_, h.2.2.1, h.2.2.2⟩
  obtain ⟨g1, g2, g3⟩ := h2 i hi
  rw [show 6 * 0 + i = i by omega, g1, g2, g3]
  obtain ⟨q1, q2, s, q3, q4⟩ := h.2.1 i hi
  rw [show 6 * 0 + i = i by omega] at q1 q2 q3
  exact ⟨q1, q2, s, h4 _ _ q3, q4⟩
/-- the class while it reads a flow: its place, its name, its numbers so far -/
def KF (b : Nat → Int32) (F : Nat) (M0 : zM) (S : Nat × Int32 × Int32) (w : Nat → Int32) (t : Int32) (n a : Nat) (tt : List Nat) (g : Nat → Int32) (M : zM) : Prop := (KS b F M0 S w t M) ∧ ((zmI M 15 0 12).toInt = n) ∧ (n < 6) ∧ (zmN M 17 n 0 = a) ∧ (zmT M a = some tt) ∧ (tt.length ≤ 8) ∧ (zmI M 17 n = g)
theorem KF.ks {b : Nat → Int32} {F : Nat} {M0 : zM} {S : Nat × Int32 × Int32} {w : Nat → Int32} {t : Int32} {n a : Nat} {tt : List Nat} {g : Nat → Int32} {M : zM} (h9 : KF b F M0 S w t n a tt g M) : KS b F M0 S w t M := h9.1
theorem KF.c {b : Nat → Int32} {F : Nat} {M0 : zM} {S : Nat × Int32 × Int32} {w : Nat → Int32} {t : Int32} {n a : Nat} {tt : List Nat} {g : Nat → Int32} {M : zM} (h9 : KF b F M0 S w t n a tt g M) : (zmI M 15 0 12).toInt = n := h9.2.1
theorem KF.n6 {b : Nat → Int32} {F : Nat} {M0 : zM} {S : Nat × Int32 × Int32} {w : Nat → Int32} {t : Int32} {n a : Nat} {tt : List Nat} {g : Nat → Int32} {M : zM} (h9 : KF b F M0 S w t n a tt g M) : n < 6 := h9.2.2.1
theorem KF.na {b : Nat → Int32} {F : Nat} {M0 : zM} {S : Nat × Int32 × Int32} {w : Nat → Int32} {t : Int32} {n a : Nat} {tt : List Nat} {g : Nat → Int32} {M : zM} (h9 : KF b F M0 S w t n a tt g M) : zmN M 17 n 0 = a := h9.2.2.2.1
theorem KF.ta {b : Nat → Int32} {F : Nat} {M0 : zM} {S : Nat × Int32 × Int32} {w : Nat → Int32} {t : Int32} {n a : Nat} {tt : List Nat} {g : Nat → Int32} {M : zM} (h9 : KF b F M0 S w t n a tt g M) : zmT M a = some tt := h9.2.2.2.2.1
theorem KF.l8 {b : Nat → Int32} {F : Nat} {M0 : zM} {S : Nat × Int32 × Int32} {w : Nat → Int32} {t : Int32} {n a : Nat} {tt : List Nat} {g : Nat → Int32} {M : zM} (h9 : KF b F M0 S w t n a tt g M) : tt.length ≤ 8 := h9.2.2.2.2.2.1
theorem KF.gg {b : Nat → Int32} {F : Nat} {M0 : zM} {S : Nat × Int32 × Int32} {w : Nat → Int32} {t : Int32} {n a : Nat} {tt : List Nat} {g : Nat → Int32} {M : zM} (h9 : KF b F M0 S w t n a tt g M) : zmI M 17 n = g := h9.2.2.2.2.2.2
theorem KF.mk {b : Nat → Int32} {F : Nat} {M0 : zM} {S : Nat × Int32 × Int32} {w : Nat → Int32} {t : Int32} {n a : Nat} {tt : List Nat} {g : Nat → Int32} {M : zM} (ks : KS b F M0 S w t M) (c : (zmI M 15 0 12).toInt = n) (n6 : n < 6) (na : zmN M 17 n 0 = a) (ta : zmT M a = some tt) (l8 : tt.length ≤ 8) (gg : zmI M 17 n = g) : KF b F M0 S w t n a tt g M := ⟨ks, c, n6, na, ta, l8, gg⟩
variable {n a : Nat} {tt : List Nat} {g : Nat → Int32}
theorem KF.rd {P : Nat → Int32} (h : KF b F M0 S w t n a tt g M) (k : KS b F M0 S' w t (zsIr M 1 0 P)) : KF b F M0 S' w t n a tt g (zsIr M 1 0 P) :=
  KF.mk k (by rw [zmO _ _ _ _ _ _ (by omega)]; exact h.c) h.n6 h.na h.ta h.l8 (by rw [zmO _ _ _ _ _ _ (by omega)]; exact h.gg)
theorem KF.put {j : Nat} {x : Int32} (h : KF b F M0 S w t n a tt g M) : KF b F M0 S w t n a tt (zup g j x) (zsI M 17 n j x) := by
  have k := h.ks
  have hc := h.c
  have h6 := h.n6
  refine KF.mk ?_ (by rw [zmO _ _ _ _ _ _ (by omega)]; exact h.c) h.n6 h.na h.ta h.l8 (by rw [zmU, h.gg])
  refine KS.mk (Tx.mk k.tx.hF (by rw [zmO _ _ _ _ _ _ (by omega)]; exact k.tx.len) (fun i hi => by rw [zmO _ _ _ _ _ _ (by omega)]; exact k.tx.byt i hi)) (by rw [zmO _ _ _ _ _ _ (by omega)]; exact k.tk) (k.fr.I (.inl (by have := inR17 (r := 0) h.n6; rw [show 6 * 0 + n = n by omega] at this; exact this))) (by rw [zmO _ _ _ _ _ _ (by omega)]; exact k.fc) (fun i hi => ?_) (fun q => ?_)
  · rw [zmO _ _ _ _ _ _ (by omega)] at hi
    exact k.nm i hi
  · have w11 := k.w11 q
    refine ⟨(k.ok q).1.same (fun s i hs hi => zsIo _ _ _ _ _ _ (by omega)) (fun i hi => ⟨zsIo _ _ _ _ _ _ (by rw [w11, hc] at hi; omega), rfl, rfl⟩) (fun _ _ e => e), ?_⟩
    rw [zmO _ _ _ _ _ _ (by omega)]
    exact (k.ok q).2
theorem KF.exp {k : Nat} {c : Int32} {Kf : zM → Prop} (h : KF b F M0 S w t n a tt g M) (hc : c = nI k) (hk : k ≤ 6) (hK : ∀ M', KF b F M0 (t_exp b F k S) w t n a tt g M' → Kf M') : zCalV l G Y_X4_expect 0 0 [vr 1 0, vi c] M Kf :=
  K_exp h.ks hc hk fun _ k2 => hK _ (h.rd k2)
theorem KF.num {lo hi : Int32} {Kf : Int32 → zM → Prop} (h : KF b F M0 S w t n a tt g M) (hK : ∀ M', KF b F M0 (t_num b F lo hi S).2 w t n a tt g M' → Kf (t_num b F lo hi S).1 M') : zCalI l G Y_X4_number 0 0 [vr 1 0, vi lo, vi hi] M Kf :=
  K_num h.ks fun _ k2 => hK _ (h.rd k2)
end
