/-! SCRIPTS: the order step, the reference -/
section
variable {l : Launch} {G : zG} {M M0 Mz M' : zM} {A : Nat} {b : Nat → Int32} {F : Nat} {S S' : Nat × Int32 × Int32} {w f Q Q0 : Nat → Int32} {t : Int32}
variable {n told L a : Nat} {sk r : List Nat} {st : Nat → List Nat} {o z : Nat → Int32} {Y : SY}
noncomputable def o_s1 (b : Nat → Int32) (F : Nat) (w : Nat → Int32) (kd : Int32) (S : Nat × Int32 × Int32) : Nat × Int32 × Int32 :=
  if kd = 0 then (t_num b F 1 50 S).2 else if kd = 1 then g_f b F w S else if kd = 2 then (t_num b F 0 39 S).2 else if kd = 3 then (t_num b F 0 65536 S).2 else if kd = 4 then (t_num b F 0 10 S).2 else if kd = 5 then (t_num b F 0 1 S).2 else if kd = 8 then (t_num b F 0 20 S).2 else g_f b F w S
theorem UK.put {j : Nat} {v : Int32} (h : UK b F S Q Q) (hj : ¬ (10 ≤ j ∧ j ≤ 16)) : UK b F S (zup Q j v) (zup Q j v) := by
  have e : ∀ k, 10 ≤ k → k ≤ 16 → zup Q j v k = Q k := fun k _ _ => zup_ne _ _ (by omega)
  refine UK.mk h.hs (by rw [e 10 (by omega) (by omega)]; exact h.len) (by rw [e 15 (by omega) (by omega)]; exact h.er) (by rw [e 16 (by omega) (by omega)]; exact h.ea) (fun g => ?_) (fun _ _ => rfl)
  have q := h.tk g
  exact Uk.mk (by rw [e 11 (by omega) (by omega)]; exact q.beg) (by rw [e 12 (by omega) (by omega)]; exact q.nxt) (by rw [e 13 (by omega) (by omega)]; exact q.tok) (by rw [e 14 (by omega) (by omega)]; exact q.val)
theorem kd_cases {kd : Int32} (hk : 0 ≤ kd.toInt ∧ kd.toInt ≤ 8) : kd = 0 ∨ kd = 1 ∨ kd = 2 ∨ kd = 3 ∨ kd = 4 ∨ kd = 5 ∨ kd = 6 ∨ kd = 7 ∨ kd = 8 := by
  simp only [ti_eq, ti_0, ti_1, show (2 : Int32).toInt = 2 from rfl, show (3 : Int32).toInt = 3 from rfl, show (4 : Int32).toInt = 4 from rfl, show (5 : Int32).toInt = 5 from rfl, show (6 : Int32).toInt = 6 from rfl, show (7 : Int32).toInt = 7 from rfl, show (8 : Int32).toInt = 8 from rfl]
  omega
theorem R_first {kd : Int32} {Kf : Int32 → zM → Prop} (hT : Ux b F M) (hU : UK b F S Q0 (zmI M 30 0)) (h0 : S.2.1 = 0) (hw : zmI M 31 0 = w) (hn : (w 11).toInt = n) (h6 : n ≤ 6) (hl : ∀ i, i < n → 0 ≤ (w (sf i 9)).toInt ∧ (w (sf i 9)).toInt ≤ 8) (hk : 0 ≤ kd.toInt ∧ kd.toInt ≤ 8)
    (h : ∀ Q x, UK b F (o_s1 b F w kd S) Q0 Q → ((o_s1 b F w kd S).2.1 = 0 → x = (o_num b F w kd S).1) → (kd = 2 → x = (t_num b F 0 39 S).1) → Kf x (zsIr M 30 0 Q)) : zCalI l G Y_X9_firstHere 0 0 [vr 30 0, vi kd] M Kf := by
  have num : ∀ lo hi : Int32, 0 ≤ lo.toInt → hi.toInt < 1000000 → o_s1 b F w kd S = (t_num b F lo hi S).2 → (o_num b F w kd S).1 = (t_num b F lo hi S).1 → (kd = 2 → lo = 0 ∧ hi = 39) → zCalI l G Y_X9_number 0 0 [vr 30 0, vi lo, vi hi] M (fun x M1 => Kf x M1) := fun lo hi g1 g2 e1 e2 e3 => by
    refine R_numT hT hU g1 g2 fun Q k => h Q _ (by rw [e1]; exact k) (fun _ => e2.symm) fun e => ?_
    rw [(e3 e).1, (e3 e).2]
  have nam : o_s1 b F w kd S = g_f b F w S → (o_num b F w kd S).1 = g_ix b F w S.1 → ¬ kd = 2 → zAt l G Y_X9_firstHere (zEI G Y_X9_firstHere Kf) 56 [(0, vr 30 0)] [] M 0 0 := fun e1 e2 e3 => by
    refine zb_X9_firstHere_56 (R_g hT hU h0 hw hn h6 hl fun Q x k hx => h Q x (by rw [e1]; exact k) (fun g => ?_) fun e => absurd e e3)
    rw [e1] at g
    rw [e2]
    exact hx g
  refine zm_X9_firstHere ⟨fun e => num 1 50 (by decide) (by decide) (by rw [e]; rfl) (by rw [e]; rfl) (fun g => ?_), fun e => nam (by rw [e]; rfl) (by rw [e]; rfl) (by rw [e]; decide), fun e => num 0 39 (by decide) (by decide) (by rw [e]; rfl) (by rw [e]; rfl) (fun _ => ⟨rfl, rfl⟩), fun e => num 0 65536 (by decide) (by decide) (by rw [e]; rfl) (by rw [e]; rfl) (fun g => ?_), fun e => num 0 10 (by decide) (by decide) (by rw [e]; rfl) (by rw [e]; rfl) (fun g => ?_), fun e => num 0 1 (by decide) (by decide) (by rw [e]; rfl) (by rw [e]; rfl) (fun g => ?_), fun e => nam (by rw [e]; rfl) (by rw [e]; rfl) (by rw [e]; decide), fun e => nam (by rw [e]; rfl) (by rw [e]; rfl) (by rw [e]; decide), fun e => ?_⟩
  · rw [e] at g; exact absurd g (by decide)
  · rw [e] at g; exact absurd g (by decide)
  · rw [e] at g; exact absurd g (by decide)
  · rw [e] at g; exact absurd g (by decide)
  · have e8 : kd = 8 := by
      obtain ⟨n0, n1, n2, n3, n4, n5, n6, n7⟩ := e
      rcases kd_cases hk with g | g | g | g | g | g | g | g | g
      · exact absurd g n0
      · exact absurd g n1
      · exact absurd g n2
      · exact absurd g n3
      · exact absurd g n4
      · exact absurd g n5
      · exact absurd g n6
      · exact absurd g n7
      · exact g
    refine num 0 20 (by decide) (by decide) (by rw [e8]; rfl) (by rw [e8]; rfl) (fun g => ?_)
    rw [e8] at g; exact absurd g (by decide)
theorem t_num_b {lo hi : Int32} : (t_num b F lo hi S).1 = lo ∨ (lo ≤ (t_num b F lo hi S).1 ∧ (t_num b F lo hi S).1 ≤ hi) := by
  unfold t_num
  split
  · split
    · split
      · next c => exact .inr c
      · exact .inl rfl
    · exact .inl rfl
  · exact .inl rfl
theorem R_second {kd x : Int32} {Kf : Int32 → zM → Prop} (hT : Ux b F M) (hU : UK b F (o_s1 b F w kd S) Q0 (zmI M 30 0)) (hx : kd = 2 → x = (t_num b F 0 39 S).1) (hk : 0 ≤ kd.toInt ∧ kd.toInt ≤ 8)
    (h : ∀ Q, UK b F (o_num b F w kd S).2.2 Q0 Q → Kf (o_num b F w kd S).2.1 (zsIr M 30 0 Q)) : zCalI l G Y_X9_secondHere 0 0 [vr 30 0, vi kd, vi x] M Kf := by
  refine zm_X9_secondHere ⟨fun c1 => ⟨fun c2 => ?_, fun c2 => ?_⟩, fun c1 => ?_⟩
  · have e : (o_num b F w kd S).2.2 = o_s1 b F w kd S ∧ (o_num b F w kd S).2.1 = 0 := by
      rcases kd_cases hk with g | g | g | g | g | g | g | g | g
      · rw [g]; exact ⟨rfl, rfl⟩
      · exact absurd g c1
      · exact absurd g c2
      · rw [g]; exact ⟨rfl, rfl⟩
      · rw [g]; exact ⟨rfl, rfl⟩
      · rw [g]; exact ⟨rfl, rfl⟩
      · rw [g]; exact ⟨rfl, rfl⟩
      · rw [g]; exact ⟨rfl, rfl⟩
      · rw [g]; exact ⟨rfl, rfl⟩
    have := h (zmI M 30 0) (by rw [e.1]; exact hU)
    rw [zs30, e.2] at this
    exact this
  · have ex := hx c2
    have hb := t_num_b (b := b) (F := F) (S := S) (lo := 0) (hi := 39)
    rw [← ex] at hb
    have hx0 : 0 ≤ x.toInt ∧ x.toInt ≤ 39 := by
      rcases hb with g | g
      · rw [g]; decide
      · rw [ti_le, ti_le, ti_0, show (39 : Int32).toInt = 39 from rfl] at g
        exact g
    have e1 : o_s1 b F w kd S = (t_num b F 0 39 S).2 := by rw [c2]; rfl
    rw [e1] at hU
    refine R_numT hT hU (by rw [ti_add (by rw [ti_1]; omega), ti_1]; omega) (by decide) fun Q k => ?_
    have := h Q (by rw [c2, show (o_num b F w 2 S).2.2 = (t_num b F ((t_num b F 0 39 S).1 + 1) 40 (t_num b F 0 39 S).2).2 from rfl, ← ex]; exact k)
    rw [c2, show (o_num b F w 2 S).2.1 = (t_num b F ((t_num b F 0 39 S).1 + 1) 40 (t_num b F 0 39 S).2).1 from rfl, ← ex] at this
    exact this
  · have e1 : o_s1 b F w kd S = g_f b F w S := by rw [c1]; rfl
    rw [e1] at hU
    refine R_numT hT hU (by decide) (by decide) fun Q k => ?_
    have := h Q (by rw [c1]; exact k)
    rw [c1] at this
    exact this
/-- the reference while it reads -/
def UY (b : Nat → Int32) (F : Nat) (Mz : zM) (Y : SY) (M : zM) : Prop := Ux b F M ∧ UK b F Y.1 (zmI M 30 0) (zmI M 30 0) ∧ rFr Mz M ∧ (Y.1.2.1 = 0 → UR Y.2.1.1 Y.2.1.2 Y.2.2.1 Y.2.2.2.2.1 Y.2.2.2.2.2.1 Y.2.2.2.2.2.2 M)
theorem Ux.I {s : Nat} {g : Nat → Int32} (h : Ux b F M) (hs : 38 ≤ s) : Ux b F (zsIr M s 0 g) := Ux.mk h.hF (fun j hj => by rw [zmO _ _ _ _ _ _ (by omega)]; exact h.byt j hj)
theorem y_order_w (h : ¬ (y_word b F Y.2.1.1 Y.1).2.1 = 0) : (y_order b F w Y).1 = y_word b F Y.2.1.1 Y.1 := by
  show (if _ then _ else _) = _
  rw [o_num_e h, y_open_e h, t_exp_e h]
  split <;> rfl
theorem R_order {Kf : zM → Prop} (hY : UY b F Mz Y M) (h0 : Y.1.2.1 = 0) (hJ : YI n Y) (hw : zmI Mz 31 0 = w) (hn : (w 11).toInt = n) (h6 : n ≤ 6) (hl : ∀ i, i < n → 0 ≤ (w (sf i 9)).toInt ∧ (w (sf i 9)).toInt ≤ 8) (h : ∀ M', UY b F Mz (y_order b F w Y) M' → Kf M') : zCalV l G Y_X9_readsOrder 0 0 [vr 30 0] M Kf := by
  obtain ⟨hT, hU, hf, hR⟩ := hY
  have hR := hR h0
  have hF := hT.hF
  have hcn := hJ.cnt
  have htl := hJ.tol
  have hdp := hJ.dep
  have kr := o_kind_rng b F Y.1.1
  generalize hkd : o_kind b F Y.1.1 = kd at kr
  generalize htd : Y.2.1.1 = told at hcn htl hR
  generalize hLL : Y.2.1.2 = L at hcn hR
  generalize hsk : Y.2.2.1 = sk at hcn hdp hR
  have hL : L ≤ 60 := by omega
  -- an error of the word
  have bad : ∀ (c : Int32) (Q : Nat → Int32), ¬ c = 0 → UK b F (Y.1.1, c, nI Y.1.1) (zmI M 30 0) Q → y_word b F told Y.1 = (Y.1.1, c, nI Y.1.1) → Kf (zsIr M 30 0 Q) := fun c Q hc k e => by
    have e2 : ¬ (y_word b F Y.2.1.1 Y.1).2.1 = 0 := by rw [htd, e]; exact hc
    have e3 : (y_order b F w Y).1 = (Y.1.1, c, nI Y.1.1) := by rw [y_order_w e2, htd, e]
    refine h _ ⟨hT.set Q, by rw [e3, zmU]; exact k.self, hf.k fun j g1 _ => k.fr j g1, fun g => ?_⟩
    rw [e3] at g
    exact absurd g hc
  have main : ¬ kd = -1 → told < 30 → zAt l G Y_X9_readsOrder (zEV G Y_X9_readsOrder Kf) 38 [(0, vr 30 0), (1, vi kd)] [vi 0, vr 30 0] M 0 0 := fun nk ht => by
    have hk8 : 0 ≤ kd.toInt ∧ kd.toInt ≤ 8 := by
      rcases kr.1 with g | g
      · exact absurd g nk
      · exact g
    have ew : y_word b F told Y.1 = t_adv b F Y.1 := by
      unfold y_word
      rw [hkd, if_neg nk, if_neg (by omega)]
      unfold t_exp
      rw [if_pos h0, if_pos (kr.2 nk)]
    refine zb_X9_readsOrder_38 (R_wrT hU (by decide) (fun _ _ => ⟨fun _ => ?_, fun d => absurd rfl d⟩) (fun _ d => absurd rfl d) fun d => absurd h0 d)
    have R1 := hR.more (by omega)
    have f1 : rFr Mz (zsI M 30 0 26 (zmI M 30 0 26 + 1)) := hf.v (by omega)
    have T1 : Ux b F (zsI M 30 0 26 (zmI M 30 0 26 + 1)) := hT.set _
    have U1 : UK b F Y.1 (zmI (zsI M 30 0 26 (zmI M 30 0 26 + 1)) 30 0) (zmI (zsI M 30 0 26 (zmI M 30 0 26 + 1)) 30 0) := by rw [zmU]; exact hU.put (by omega)
    generalize zsI M 30 0 26 (zmI M 30 0 26 + 1) = M1 at R1 f1 T1 U1 ⊢
    refine R_advT T1 U1 h0 fun Q3 k3 => ?_
    have R3 := R1.k k3.fr
    have f3 : rFr Mz (zsIr M1 30 0 Q3) := f1.k fun j g1 _ => k3.fr j g1
    have T3 : Ux b F (zsIr M1 30 0 Q3) := T1.set Q3
    have U3 : UK b F (t_adv b F Y.1) (zmI (zsIr M1 30 0 Q3) 30 0) (zmI (zsIr M1 30 0 Q3) 30 0) := by rw [zmU]; exact k3.self
    generalize zsIr M1 30 0 Q3 = M3 at R3 f3 T3 U3 ⊢
    have e0 : (t_adv b F Y.1).2.1 = 0 := h0
    generalize t_adv b F Y.1 = S1 at U3 ew e0
    have c25 : (zmI M3 30 0 25).toNatClampNeg = L := ti_at (by rw [R3.len, ti_nI (by omega)])
    have i25 : vp_in (zmI M3 30 0 25) 64 := ti_in (by rw [R3.len, ti_nI (by omega)]; omega)
    refine ⟨i25, ?_⟩
    rw [c25]
    have R4 : UR (told + 1) L sk _ _ _ (zsI M3 38 0 L kd) := R3.at_ (v := kd) (.inl rfl)
    have f4 : rFr Mz (zsI M3 38 0 L kd) := f3.I (by omega)
    have T4 : Ux b F (zsI M3 38 0 L kd) := T3.I (by omega)
    have e4 : zmI (zsI M3 38 0 L kd) 30 0 = zmI M3 30 0 := zmO _ _ _ _ _ _ (by omega)
    have U4 : UK b F S1 (zmI (zsI M3 38 0 L kd) 30 0) (zmI (zsI M3 38 0 L kd) 30 0) := by rw [e4]; exact U3
    have k4 : zmI (zsI M3 38 0 L kd) 38 0 L = kd := by rw [zmU, zup_self]
    rw [← e4] at c25 i25
    generalize zsI M3 38 0 L kd = M4 at R4 f4 T4 U4 k4 c25 i25 ⊢
    refine R_first (w := w) (n := n) T4 U4 e0 ((f4.1 31 0 (by omega)).trans hw) hn h6 hl hk8 fun Q5 x6 k5 hx6 hx2 => ⟨i25, ?_⟩
    rw [c25]
    have R5 := R4.k k5.fr
    have f5 : rFr Mz (zsIr M4 30 0 Q5) := f4.k fun j g1 _ => k5.fr j g1
    have T5 : Ux b F (zsIr M4 30 0 Q5) := T4.set Q5
    have U5 : UK b F (o_s1 b F w kd S1) (zmI (zsIr M4 30 0 Q5) 30 0) (zmI (zsIr M4 30 0 Q5) 30 0) := by rw [zmU]; exact k5.self
    have k5' : zmI (zsIr M4 30 0 Q5) 38 0 L = kd := by rw [zmO _ _ _ _ _ _ (by omega)]; exact k4
    generalize zsIr M4 30 0 Q5 = M5 at R5 f5 T5 U5 k5' ⊢
    have R6 : UR (told + 1) L sk _ _ _ (zsI M5 39 0 L x6) := R5.at_ (v := x6) (.inr (.inl rfl))
    have f6 : rFr Mz (zsI M5 39 0 L x6) := f5.I (by omega)
    have T6 : Ux b F (zsI M5 39 0 L x6) := T5.I (by omega)
    have e6 : zmI (zsI M5 39 0 L x6) 30 0 = zmI M5 30 0 := zmO _ _ _ _ _ _ (by omega)
    have U6 : UK b F (o_s1 b F w kd S1) (zmI (zsI M5 39 0 L x6) 30 0) (zmI (zsI M5 39 0 L x6) 30 0) := by rw [e6]; exact U5
    have k6 : zmI (zsI M5 39 0 L x6) 38 0 L = kd := by rw [zmO _ _ _ _ _ _ (by omega)]; exact k5'
    have l6 : zmI (zsI M5 39 0 L x6) 39 0 L = x6 := by rw [zmU, zup_self]
    generalize zsI M5 39 0 L x6 = M6 at R6 f6 T6 U6 k6 l6 ⊢
    have c6 : (zmI M6 30 0 25).toNatClampNeg = L := ti_at (by rw [R6.len, ti_nI (by omega)])
    have i6 : vp_in (zmI M6 30 0 25) 64 := ti_in (by rw [R6.len, ti_nI (by omega)]; omega)
    refine ⟨i6, ?_⟩
    rw [c6, l6]
    refine R_second (S := S1) T6 U6 hx2 hk8 fun Q7 k7 => ⟨i6, ?_⟩
    have R7 := R6.k k7.fr
    have f7 : rFr Mz (zsIr M6 30 0 Q7) := f6.k fun j g1 _ => k7.fr j g1
    have T7 : Ux b F (zsIr M6 30 0 Q7) := T6.set Q7
    have U7 : UK b F (o_num b F w kd S1).2.2 (zmI (zsIr M6 30 0 Q7) 30 0) (zmI (zsIr M6 30 0 Q7) 30 0) := by rw [zmU]; exact k7.self
    have k7' : zmI (zsIr M6 30 0 Q7) 38 0 L = kd := by rw [zmO _ _ _ _ _ _ (by omega)]; exact k6
    have l7 : zmI (zsIr M6 30 0 Q7) 39 0 L = x6 := by rw [zmO _ _ _ _ _ _ (by omega)]; exact l6
    generalize zsIr M6 30 0 Q7 = M7 at R7 f7 T7 U7 k7' l7 ⊢
    have R8 : UR (told + 1) L sk _ _ _ (zsI M7 40 0 L (o_num b F w kd S1).2.1) := R7.at_ (v := (o_num b F w kd S1).2.1) (.inr (.inr rfl))
    have f8 : rFr Mz (zsI M7 40 0 L (o_num b F w kd S1).2.1) := f7.I (by omega)
    have T8 : Ux b F (zsI M7 40 0 L (o_num b F w kd S1).2.1) := T7.I (by omega)
    have e8 : zmI (zsI M7 40 0 L (o_num b F w kd S1).2.1) 30 0 = zmI M7 30 0 := zmO _ _ _ _ _ _ (by omega)
    have U8 : UK b F (o_num b F w kd S1).2.2 (zmI (zsI M7 40 0 L (o_num b F w kd S1).2.1) 30 0) (zmI (zsI M7 40 0 L (o_num b F w kd S1).2.1) 30 0) := by rw [e8]; exact U7
    have k8 : zmI (zsI M7 40 0 L (o_num b F w kd S1).2.1) 38 0 L = kd := by rw [zmO _ _ _ _ _ _ (by omega)]; exact k7'
    have l8 : zmI (zsI M7 40 0 L (o_num b F w kd S1).2.1) 39 0 L = x6 := by rw [zmO _ _ _ _ _ _ (by omega)]; exact l7
    have m8 : zmI (zsI M7 40 0 L (o_num b F w kd S1).2.1) 40 0 L = (o_num b F w kd S1).2.1 := by rw [zmU, zup_self]
    generalize zsI M7 40 0 L (o_num b F w kd S1).2.1 = M8 at R8 f8 T8 U8 k8 l8 m8 ⊢
    -- the first number is the row's, where there is no error
    have xs : (o_num b F w kd S1).2.2.2.1 = 0 → x6 = (o_num b F w kd S1).1 := fun g => by
      refine hx6 ?_
      rcases kd_cases hk8 with q | q | q | q | q | q | q | q | q
      · rw [q] at g ⊢; exact g
      · rw [q] at g ⊢; exact t_num_0 (S := g_f b F w S1) g
      · rw [q] at g ⊢; exact t_num_0 (S := (t_num b F 0 39 S1).2) g
      · rw [q] at g ⊢; exact g
      · rw [q] at g ⊢; exact g
      · rw [q] at g ⊢; exact g
      · rw [q] at g ⊢; exact g
      · rw [q] at g ⊢; exact g
      · rw [q] at g ⊢; exact g
    have hY1 : (y_order b F w Y).1 = if kd = 8 then y_open b F sk.length (o_num b F w kd S1).2.2 else t_exp b F 3 (o_num b F w kd S1).2.2 := by
      show (if _ then _ else _) = _
      rw [hkd, htd, ew, hsk]
    generalize hE : o_num b F w kd S1 = E at *
    refine ⟨fun c8 => ?_, fun c8 => ?_⟩
    · have hY1 : (y_order b F w Y).1 = y_open b F sk.length E.2.2 := by rw [hY1, if_pos c8]
      have i27 : zmI M8 30 0 27 = nI sk.length := R8.dep
      -- what is left at the end
      have fin_ : ∀ M', Ux b F M' → UK b F (y_open b F sk.length E.2.2) (zmI M' 30 0) (zmI M' 30 0) → rFr Mz M' → ((y_open b F sk.length E.2.2).2.1 = 0 → UR (told + 1) (L + 1) (L :: sk) (zup Y.2.2.2.2.1 L 8) (zup Y.2.2.2.2.2.1 L x6) (zup Y.2.2.2.2.2.2 L E.2.1) M') → Kf M' := fun M' a1 a2 a3 a4 => by
        refine h M' ⟨a1, by rw [hY1]; exact a2, a3, fun g => ?_⟩
        rw [hY1] at g
        have q := a4 g
        rw [xs (y_open_0 g).1] at q
        show UR (Y.2.1.1 + 1) (Y.2.1.2 + 1) (if o_kind b F Y.1.1 = 8 then Y.2.1.2 :: Y.2.2.1 else Y.2.2.1) (zup Y.2.2.2.2.1 Y.2.1.2 (o_kind b F Y.1.1)) (zup Y.2.2.2.2.2.1 Y.2.1.2 (o_num b F w (o_kind b F Y.1.1) (y_word b F Y.2.1.1 Y.1)).1) (zup Y.2.2.2.2.2.2 Y.2.1.2 (o_num b F w (o_kind b F Y.1.1) (y_word b F Y.2.1.1 Y.1)).2.1) M'
        rw [hkd, htd, hLL, hsk, ew, hE, if_pos c8, c8]
        exact q
      -- the bracket
      have l153 : ¬ (E.2.2.2.1 = 0 ∧ rd_kd b F E.2.2.1 = 4 ∧ 2 ≤ sk.length) → zAt l G Y_X9_readsOrder (zEV G Y_X9_readsOrder Kf) 153 [(0, vr 30 0)] [vi 0, vr 30 0] M8 0 0 := fun nb => by
        refine zb_X9_readsOrder_153 (R_wrT U8 (by decide) (fun g0 _ => ⟨fun _ => ?_, fun d => absurd rfl d⟩) (fun _ d => absurd rfl d) fun g0 => ⟨fun d => absurd d (by decide), fun _ => ?_⟩)
        · have eo : y_open b F sk.length E.2.2 = t_exp b F 4 E.2.2 := by
            unfold y_open
            rw [if_neg fun q => nb ⟨g0, q⟩]
          refine R_takT (k := 4) T8 U8 (by omega) rfl fun Q9 k9 => ?_
          rw [← eo] at k9
          have R9 := R8.k k9.fr
          have f9 : rFr Mz (zsIr M8 30 0 Q9) := f8.k fun j g1 _ => k9.fr j g1
          have T9 : Ux b F (zsIr M8 30 0 Q9) := T8.set Q9
          have U9 : UK b F (y_open b F sk.length E.2.2) (zmI (zsIr M8 30 0 Q9) 30 0) (zmI (zsIr M8 30 0 Q9) 30 0) := by rw [zmU]; exact k9.self
          have k9' : zmI (zsIr M8 30 0 Q9) 38 0 L = 8 := by rw [zmO _ _ _ _ _ _ (by omega), ← c8]; exact k8
          have l9 : zmI (zsIr M8 30 0 Q9) 39 0 L = x6 := by rw [zmO _ _ _ _ _ _ (by omega)]; exact l8
          generalize zsIr M8 30 0 Q9 = M9 at R9 f9 T9 U9 k9' l9 ⊢
          have q27 : zmI M9 30 0 27 = nI sk.length := R9.dep
          have q25 : zmI M9 30 0 25 = nI L := R9.len
          rw [q27, q25]
          have iv : (if (1 : Int32) < nI sk.length then (1 : Int32) else nI sk.length).toInt = ((if sk.length < 2 then sk.length else 1 : Nat) : Int) := by
            by_cases c : sk.length < 2
            · rw [if_pos c, if_neg (by rw [ti_lt, ti_1, ti_nI (by omega)]; omega), ti_nI (by omega)]
            · rw [if_neg c, if_pos (by rw [ti_lt, ti_1, ti_nI (by omega)]; omega)]
              rfl
          refine ⟨ti_in ?_, ?_⟩
          · rw [iv]
            split <;> omega
          rw [ti_at iv]
          have b27 : zmI (zsI M9 42 0 (if sk.length < 2 then sk.length else 1) (nI L)) 30 0 = zmI M9 30 0 := zmO _ _ _ _ _ _ (by omega)
          have n27 : nI sk.length + 1 = nI (sk.length + 1) := nI_ofT (ti_inc (ti_nI (by omega)) (by omega))
          have n25 : nI L + 1 = nI (L + 1) := nI_ofT (ti_inc (ti_nI (by omega)) (by omega))
          rw [b27, q27, n27]
          have b25 : zmI (zsI (zsI M9 42 0 (if sk.length < 2 then sk.length else 1) (nI L)) 30 0 27 (nI (sk.length + 1))) 30 0 25 = nI L := by
            rw [zmU, zup_ne _ _ (by omega), b27, q25]
          rw [b25, n25]
          refine fin_ _ (((T9.I (by omega)).set _).set _) ?_ (((f9.I (by omega)).v (by omega)).v (by omega)) fun g => ?_
          · have e3 : zmI (zsI (zsI (zsI M9 42 0 (if sk.length < 2 then sk.length else 1) (nI L)) 30 0 27 (nI (sk.length + 1))) 30 0 25 (nI (L + 1))) 30 0 = zup (zup (zmI M9 30 0) 27 (nI (sk.length + 1))) 25 (nI (L + 1)) := by
              rw [zmU, zmU, b27]
            rw [e3]
            exact (U9.put (by omega)).put (by omega)
          · have hd := (y_open_0 g).2.2
            exact R9.open_ (by omega) hd k9' l9 (by rw [if_pos hd])
        · have eo : y_open b F sk.length E.2.2 = E.2.2 := y_open_e g0
          refine fin_ M8 T8 (by rw [eo]; exact U8) f8 fun g => ?_
          rw [eo] at g
          exact absurd g g0
      have l152 : ¬ (E.2.2.2.1 = 0 ∧ rd_kd b F E.2.2.1 = 4 ∧ 2 ≤ sk.length) → zAt l G Y_X9_readsOrder (zEV G Y_X9_readsOrder Kf) 152 [(0, vr 30 0)] [vr 30 0] M8 0 0 := fun nb => zb_X9_readsOrder_152 (l153 nb)
      refine R_sgnT (k := 4) T8 U8 (by omega) rfl (fun g0 g4 => ⟨fun d => absurd d (by decide), fun _ => ?_⟩) fun ng => ⟨fun _ => l152 fun q => ng ⟨q.1, q.2.1⟩, fun d => absurd rfl d⟩
      rw [i27]
      refine ⟨fun d => l152 fun q => d ?_, fun d => ?_⟩
      · have : sk.length = 2 := by omega
        rw [this]; rfl
      · have s2 := nI_inj (c := 2) (by omega) (by omega) d
        refine zb_X9_readsOrder_153 (R_wrT U8 (by decide) (fun _ d => absurd d (by decide)) (fun _ _ Q9 k9 => ⟨fun d => absurd d (by decide), fun _ => ?_⟩) fun d => absurd g0 d)
        have eo : y_open b F sk.length E.2.2 = (E.2.2.1, 5, nI E.2.2.1) := by
          unfold y_open
          rw [if_pos ⟨g4, by omega⟩]
          have : t_fail 5 E.2.2 = (E.2.2.1, 5, nI E.2.2.1) := if_pos g0
          rw [this]
          exact t_exp_e (show ¬ (5 : Int32) = 0 by decide)
        refine fin_ _ (T8.set _) (by rw [eo, zmU]; exact k9.self) (f8.k fun j g1 _ => k9.fr j g1) fun g => ?_
        rw [eo] at g
        exact absurd (show (5 : Int32) = 0 from g) (by decide)
    · have hY1 : (y_order b F w Y).1 = t_exp b F 3 E.2.2 := by rw [hY1, if_neg c8]
      have k9 : ¬ kd = 9 := fun g => by
        rw [g] at hk8
        exact absurd hk8.2 (by decide)
      have R9 := R8.add (by omega) c8 k9 k8 l8 m8
      have f9 : rFr Mz (zsI M8 30 0 25 (zmI M8 30 0 25 + 1)) := f8.v (by omega)
      have T9 : Ux b F (zsI M8 30 0 25 (zmI M8 30 0 25 + 1)) := T8.set _
      have U9 : UK b F E.2.2 (zmI (zsI M8 30 0 25 (zmI M8 30 0 25 + 1)) 30 0) (zmI (zsI M8 30 0 25 (zmI M8 30 0 25 + 1)) 30 0) := by rw [zmU]; exact U8.put (by omega)
      generalize zsI M8 30 0 25 (zmI M8 30 0 25 + 1) = M9 at R9 f9 T9 U9 ⊢
      refine R_takT (k := 3) T9 U9 (by omega) rfl fun Q10 k10 => h _ ⟨T9.set Q10, by rw [hY1, zmU]; exact k10.self, f9.k fun j g1 _ => k10.fr j g1, fun g => ?_⟩
      rw [hY1] at g
      have q := R9.k k10.fr
      rw [xs (t_exp_0 g)] at q
      show UR (Y.2.1.1 + 1) (Y.2.1.2 + 1) (if o_kind b F Y.1.1 = 8 then Y.2.1.2 :: Y.2.2.1 else Y.2.2.1) (zup Y.2.2.2.2.1 Y.2.1.2 (o_kind b F Y.1.1)) (zup Y.2.2.2.2.2.1 Y.2.1.2 (o_num b F w (o_kind b F Y.1.1) (y_word b F Y.2.1.1 Y.1)).1) (zup Y.2.2.2.2.2.2 Y.2.1.2 (o_num b F w (o_kind b F Y.1.1) (y_word b F Y.2.1.1 Y.1)).2.1) _
      rw [hkd, htd, hLL, hsk, ew, hE, if_neg c8]
      exact q
  refine zm_X9_readsOrder (R_kind hT hU h0 ?_)
  rw [hkd]
  refine ⟨fun nk => zb_X9_readsOrder_16 (R_wrT hU (by decide) (fun _ _ => ⟨fun d => absurd rfl d, fun _ => ?_⟩) (fun _ d => absurd rfl d) fun d => absurd h0 d), fun nk => zb_X9_readsOrder_16 (R_wrT hU (by decide) (fun _ d => absurd d (by decide)) (fun _ _ Q k => ⟨fun _ => bad 1 Q (by decide) k ?_, fun d => absurd d (by decide)⟩) fun d => absurd h0 d)⟩
  · rw [hR.tol]
    refine ⟨fun d => main nk ?_, fun d => ?_⟩
    · refine Nat.lt_of_le_of_ne htl fun e => d ?_
      rw [e]; rfl
    · have e30 := nI_inj (c := 30) (by omega) (by omega) d
      refine zb_X9_readsOrder_38 (R_wrT hU (by decide) (fun _ d => absurd d (by decide)) (fun _ _ Q k => ⟨fun d => absurd d (by decide), fun _ => bad 5 Q (by decide) k ?_⟩) fun d => absurd h0 d)
      unfold y_word
      rw [hkd, if_neg nk, if_pos (by omega)]
      have : t_fail 5 Y.1 = (Y.1.1, 5, nI Y.1.1) := if_pos h0
      rw [this]
      exact t_exp_e (show ¬ (5 : Int32) = 0 by decide)
  · unfold y_word
    rw [hkd, if_pos nk]
    have : t_fail 1 Y.1 = (Y.1.1, 1, nI Y.1.1) := if_pos h0
    rw [this]
    exact t_exp_e (show ¬ (1 : Int32) = 0 by decide)
end
