/-! SETUPS: from the first word on, the reference; where there is no error, none is told -/
section
variable {l : Launch} {G : zG} {M Mz : zM} {A : Nat} {b : Nat → Int32} {F : Nat} {S S' : Nat × Int32 × Int32} {w w' f f' Qz Q Q0 : Nat → Int32} {t : Int32} {X : SX}
def wB0 : Nat → Int32 := zup (zup (zup (zup (zup (zup (fun _ => 0) 2 5) 3 15) 4 6554) 5 4) 10 (-1)) 13 1
theorem wB0_00 {k : Nat} (h0 : ¬ k = 0) (h1 : ¬ k = 1) : wB0 k = w00 k := by
  unfold wB0 w00
  simp only [zup_at]
  repeat' split
  all_goals first | rfl | omega
theorem R_begins {Kf : zM → Prop} (h : ∀ f, ag484 f wB0 → Kf (zsIr M 31 0 f)) : zCalV l G Y_X9_begins 0 0 [vr 30 0] M Kf := by
  have key : ∀ d j : Nat, j + d = 484 → ∀ (y : Int32) (g : Nat → Int32), y.toInt = j → (∀ k, k < j → g k = 0) → zAt l G Y_X9_begins (zEV G Y_X9_begins Kf) 2 [(0, vr 30 0), (1, vi y)] [] (zsIr M 31 0 g) 0 0 := by
    intro d
    induction d with
    | zero =>
      intro j hj y g hy hg
      refine zb_X9_begins_2 ⟨fun _ => ?_, fun c => ?_⟩
      · have e : zsI (zsI (zsI (zsI (zsI (zsI (zsIr M 31 0 g) 31 0 2 5) 31 0 3 15) 31 0 4 6554) 31 0 5 4) 31 0 10 (-1)) 31 0 13 1 = zsIr M 31 0 (zup (zup (zup (zup (zup (zup g 2 5) 3 15) 4 6554) 5 4) 10 (-1)) 13 1) := by
          rw [zsU M 31 0 g, zsU M 31 0, zsU M 31 0, zsU M 31 0, zsU M 31 0, zsU M 31 0]
        rw [e]
        refine h _ ?_
        have h0 : ag484 g (fun _ => 0) := fun k hk => hg k (by omega)
        exact (((((h0.up).up).up).up).up).up
      · exfalso
        rw [ti_le, show (484 : Int32).toInt = 484 from rfl] at c
        omega
    | succ d ih =>
      intro j hj y g hy hg
      refine zb_X9_begins_2 ⟨fun c => ?_, fun _ => ⟨ti_in (by omega), ?_⟩⟩
      · exfalso
        rw [ti_le, show (484 : Int32).toInt = 484 from rfl] at c
        omega
      · rw [zsU M 31 0 g, ti_at hy]
        refine ih (j + 1) (by omega) (y + 1) _ (ti_inc hy (by omega)) fun k hk => ?_
        by_cases e : k = j
        · rw [e, zup_self]
        · rw [zup_ne _ _ e]; exact hg k (by omega)
  have := key 484 0 (by omega) 0 (zmI M 31 0) rfl (fun k hk => absurd hk (by omega))
  rw [show zsIr M 31 0 (zmI M 31 0) = M from zsI0 M 31 0] at this
  exact zm_X9_begins this
theorem V_setup {Kf : zM → Prop} (hT : Ux b F Mz) (hl : zmI Mz 30 0 10 = nI F) (h : ∀ f' Q', UV b F (zmI Mz 30 0) (s_setup b F) f' Q' → ¬ Q' 15 = 0 ∨ Q' 15 = 0 → Kf (mk2 Mz f' Q')) : zCalV l G Y_X9_setup 0 0 [vr 30 0] Mz Kf := by
  have hF := hT.hF
  have e0 : zsI (zsI (zsI Mz 30 0 12 0) 30 0 15 0) 30 0 18 0 = mk2 Mz (zmI Mz 31 0) (zup (zup (zup (zmI Mz 30 0) 12 0) 15 0) 18 0) := by
    have e1 : zsI Mz 30 0 12 0 = zsIr Mz 30 0 (zup (zmI Mz 30 0) 12 0) := rfl
    rw [e1, zsU Mz 30 0, zsU Mz 30 0]
    unfold mk2
    rw [show zsIr Mz 31 0 (zmI Mz 31 0) = Mz from zsI0 Mz 31 0]
  refine zm_X9_setup ?_
  rw [e0]
  refine R_adv (e := 0) (ea := -1) (Q0 := zup (zup (zup (zmI Mz 30 0) 12 0) 15 0) 18 0) hT.k2 ?_ ?_ (Nat.zero_le _) ?_ (fun j _ => by rw [mk_30]) fun Q1 k1 => ?_
  · rw [mk_30, zup_ne _ _ (by omega), zup_ne _ _ (by omega), zup_ne _ _ (by omega)]; exact hl
  · rw [mk_30, zup_ne _ _ (by omega), zup_ne _ _ (by omega), zup_self]; rfl
  · rw [mk_30, zup_ne _ _ (by omega), zup_self]
  rw [mk_s30]
  refine R_begins fun f1 a1 => ?_
  rw [mk_s31]
  have v1 : UV b F (zmI Mz 30 0) ((rd_n b F 0, 0, -1), wB0, 0) f1 Q1 := by
    refine UV.mk k1.self (fun j h1 h2 => (k1.fr j h1).trans ?_) (fun _ => (k1.fr 18 (by omega)).trans (zup_self _ _ _)) (fun _ => ⟨0, by omega, rfl⟩) (fun _ => a1)
    rw [zup_ne _ _ h2, zup_ne _ _ (by omega), zup_ne _ _ (by omega)]
  refine fun a3 t3 => V_key hT v1 t3 (by decide) (fun _ q => ⟨fun _ => ?_, fun d => absurd d (by decide)⟩) (fun n => ⟨fun d => absurd rfl d, fun _ => ?_⟩)
  · have q : rd_is b F (rd_n b F 0) [114, 111, 117, 116, 101, 114] := q
    have e2 : h_2 b F = t_adv b F (rd_n b F 0, 0, -1) := by
      unfold h_2
      rw [pif_pos q]
      unfold t_exp
      rw [if_pos rfl, if_pos q.1]
    refine zb_X9_setup_39 (V_wr v1 (by decide) (fun _ _ => ⟨fun _ => V_adv hT v1 rfl fun Q2 v2 => ?_, fun d => absurd rfl d⟩) (fun _ d => absurd rfl d) fun d => absurd rfl d)
    have v2 : UV b F (zmI Mz 30 0) (t_adv b F (rd_n b F 0, 0, -1), wB0, 0) f1 Q2 := v2
    rw [← e2] at v2
    refine V_num hT v2 (by decide) (by decide) fun Q3 v3 => ?_
    have v3 : UV b F (zmI Mz 30 0) ((h_n b F).2, wB0, 0) f1 Q3 := v3
    have e4 : (t_num b F 1 40 ((h_2 b F, wB0, 0) : SX).1).1 = (h_n b F).1 := rfl
    rw [e4, mk_z31]
    have v4 : UV b F (zmI Mz 30 0) ((h_n b F).2, zup wB0 0 (h_n b F).1, 0) (zup f1 0 (h_n b F).1) Q3 := v3.row fun _ => a1.up
    refine V_num hT v4 (by decide) (by decide) fun Q5 v5 => ?_
    have v5 : UV b F (zmI Mz 30 0) ((h_r b F).2, zup wB0 0 (h_n b F).1, 0) (zup f1 0 (h_n b F).1) Q5 := v5
    have e6 : (t_num b F 1 9 (((h_n b F).2, zup wB0 0 (h_n b F).1, 0) : SX).1).1 = (h_r b F).1 := rfl
    rw [e6, mk_z31]
    have v6 : UV b F (zmI Mz 30 0) (s_head b F) (zup (zup f1 0 (h_n b F).1) 1 (h_r b F).1) Q5 := by
      refine v5.row fun _ k hk => ?_
      show zup (zup f1 0 (h_n b F).1) 1 (h_r b F).1 k = zup (zup w00 0 (h_n b F).1) 1 (h_r b F).1 k
      by_cases c1 : k = 1
      · rw [c1, zup_self, zup_self]
      · rw [zup_ne _ _ c1, zup_ne _ _ c1]
        by_cases c0 : k = 0
        · rw [c0, zup_self, zup_self]
        · rw [zup_ne _ _ c0, zup_ne _ _ c0, a1 k hk, wB0_00 c0 c1]
    exact V_loop hT 500 0 (s_head b F) _ Q5 (by omega) v6 s_head_ok (fun _ => by omega) fun f' Q' v => h f' Q' v (Classical.em (Q' 15 = 0)).symm
  · have n : ¬ rd_is b F (rd_n b F 0) [114, 111, 117, 116, 101, 114] := fun q => n ⟨rfl, q⟩
    have n1 : ¬ ((rd_n b F 0, 1, nI (rd_n b F 0)) : Nat × Int32 × Int32).2.1 = 0 := show ¬ (1 : Int32) = 0 by decide
    have e2 : h_2 b F = (rd_n b F 0, 1, nI (rd_n b F 0)) := by
      unfold h_2
      rw [pif_neg n]
      have : t_fail 1 (rd_n b F 0, 0, -1) = (rd_n b F 0, 1, nI (rd_n b F 0)) := if_pos rfl
      rw [this]
      exact t_exp_e n1
    have e3 : (s_head b F).1 = (rd_n b F 0, 1, nI (rd_n b F 0)) := by
      show (t_num b F 1 9 (t_num b F 1 40 (h_2 b F)).2).2 = _
      rw [e2, t_num_e n1, t_num_e n1]
    have n3 : ¬ (s_head b F).1.2.1 = 0 := by rw [e3]; exact n1
    refine zb_X9_setup_39 (V_wr v1 (by decide) (fun _ d => absurd d (by decide)) (fun _ _ Q' v => ⟨fun d => absurd d (by decide), fun _ => h f1 Q' ?_ (Classical.em (Q' 15 = 0)).symm⟩) fun d => absurd rfl d)
    have es : s_setup b F = s_head b F := s_loop_e n3
    rw [es]
    have v : UV b F (zmI Mz 30 0) ((rd_n b F 0, 1, nI (rd_n b F 0)), wB0, 0) f1 Q' := v
    have := v.any (f' := f1) (Y := (s_head b F).2) n1
    have this : UV b F (zmI Mz 30 0) ((rd_n b F 0, 1, nI (rd_n b F 0)), (s_head b F).2) f1 Q' := this
    rw [← e3] at this
    exact this
/-- without an error, the place of one is as it was -/
theorem ea_exp {k : Nat} (h : (t_exp b F k S).2.1 = 0) : (t_exp b F k S).2.2 = S.2.2 := by
  unfold t_exp at h ⊢
  split at h
  · next c =>
    rw [if_pos c]
    split at h
    · next d => rw [if_pos d]; rfl
    · exact absurd (show (1 : Int32) = 0 from h) (by decide)
  · next c => rw [if_neg c]
theorem ea_num {lo hi : Int32} (h : (t_num b F lo hi S).2.2.1 = 0) : (t_num b F lo hi S).2.2.2 = S.2.2 := by
  unfold t_num at h ⊢
  split at h
  · next c =>
    rw [if_pos c]
    split at h
    · next d =>
      rw [if_pos d]
      split at h
      · next e => rw [if_pos e]; rfl
      · exact absurd (show (2 : Int32) = 0 from h) (by decide)
    · exact absurd (show (1 : Int32) = 0 from h) (by decide)
  · next c => rw [if_neg c]
theorem ea_once {bit : Int32} (h : (s_once b F bit t S).2.1 = 0) : (s_once b F bit t S).2.2 = S.2.2 := by
  have e := (s_once_t h).1
  rw [e] at h ⊢
  exact ea_exp h
theorem ea_8 (h : (f_8 b F S).2.1 = 0) : (f_8 b F S).2.2 = S.2.2 := by
  obtain ⟨r4, r3, r2, r1, r0⟩ := f_8_0 h
  have e4 : (f_8 b F S).2.2 = (f_c b F S).2.2.2 := by
    unfold f_8 at h ⊢
    rcases Classical.em (f_mk b F S) with c | c
    · rw [pif_pos c] at h ⊢; exact ea_exp h
    · rw [pif_neg c]
  have e3 : (f_c b F S).2.2.2 = (f_s b F S).2.2.2 := by unfold f_c at r4 ⊢; exact ea_num r4
  have e2 : (f_s b F S).2.2.2 = (f_p b F S).2.2.2 := by unfold f_s at r3 ⊢; exact ea_num r3
  have e1 : (f_p b F S).2.2.2 = (f_n b F S).2.2.2 := by unfold f_p at r2 ⊢; exact ea_num r2
  have e0 : (f_n b F S).2.2.2 = S.2.2 := by unfold f_n at r1 ⊢; exact ea_num r1
  rw [e4, e3, e2, e1, e0]
theorem ea_stmt (h : (s_stmt b F (S, w, t)).1.2.1 = 0) : (s_stmt b F (S, w, t)).1.2.2 = S.2.2 := by
  have er0 := s_stmt_0 h
  have st : ∀ (bit : Int32) (j : Nat) (hi : Int32), (s_set b F bit j hi (S, w, t)).1.2.1 = 0 → (s_set b F bit j hi (S, w, t)).1.2.2 = S.2.2 := fun bit j hi q => (ea_num (S := s_once b F bit t S) q).trans (ea_once (t_num_0 q))
  unfold s_stmt at h ⊢
  rcases Classical.em (rd_is b F (S, w, t).1.1 [108, 105, 109, 105, 116, 115]) with c | c
  · rw [pif_pos c] at h ⊢
    have h2 : (t_num b F 0 39 (s_once b F 1 t S)).2.2.1 = 0 := t_num_0 h
    exact (ea_num (S := (t_num b F 0 39 (s_once b F 1 t S)).2) h).trans ((ea_num h2).trans (ea_once (t_num_0 h2)))
  rw [pif_neg c] at h ⊢
  rcases Classical.em (rd_is b F (S, w, t).1.1 [116, 111, 112]) with c | c
  · rw [pif_pos c] at h ⊢; exact st _ _ _ h
  rw [pif_neg c] at h ⊢
  rcases Classical.em (rd_is b F (S, w, t).1.1 [119, 101, 105, 103, 104, 116]) with c | c
  · rw [pif_pos c] at h ⊢; exact st _ _ _ h
  rw [pif_neg c] at h ⊢
  rcases Classical.em (rd_is b F (S, w, t).1.1 [103, 101, 110, 116, 108, 101]) with c | c
  · rw [pif_pos c] at h ⊢; exact st _ _ _ h
  rw [pif_neg c] at h ⊢
  rcases Classical.em (rd_is b F (S, w, t).1.1 [115, 101, 101, 100]) with c | c
  · rw [pif_pos c] at h ⊢; exact st _ _ _ h
  rw [pif_neg c] at h ⊢
  rcases Classical.em (rd_is b F (S, w, t).1.1 [102, 108, 111, 119]) with c | c
  · rw [pif_pos c] at h ⊢
    unfold s_flow at h ⊢
    by_cases d : w 11 = 6
    · rw [if_pos d] at h
      unfold t_fail at h
      rw [if_pos er0] at h
      exact absurd (show (5 : Int32) = 0 from h) (by decide)
    · rw [if_neg d] at h ⊢
      have h1 := (f_8_0 h).2.2.2.2
      have h2 := t_exp_0 h1
      obtain ⟨q1, -, -, -, q5⟩ := s_name_0 h2
      have e5 : f_2 b F w S = t_exp b F 1 S := q5
      refine (ea_8 h).trans ((ea_exp h1).trans ?_)
      rw [e5]
      exact ea_exp q1
  · rw [pif_neg c] at h
    unfold t_fail at h
    rw [if_pos (show (S, w, t).1.2.1 = 0 from er0)] at h
    exact absurd (show (1 : Int32) = 0 from h) (by decide)
theorem ea_loop : ∀ (d : Nat) (X : SX), (s_loop b F d X).1.2.1 = 0 → (s_loop b F d X).1.2.2 = X.1.2.2 := by
  intro d
  induction d with
  | zero => exact fun X _ => rfl
  | succ d ih =>
    intro X h
    obtain ⟨S, w, t⟩ := X
    unfold s_loop at h ⊢
    split at h
    · next c =>
      rw [if_pos c]
      have g : (s_step b F (S, w, t)).1.2.1 = 0 := by
        refine Classical.byContradiction fun n => ?_
        rw [s_loop_e n] at h
        exact n h
      rw [ih _ h]
      exact (ea_stmt g).trans (ea_exp (s_stmt_0 g))
    · next c => rw [if_neg c]
theorem ea_setup (h : (s_setup b F).1.2.1 = 0) : (s_setup b F).1.2.2 = -1 := by
  have e := ea_loop 500 (s_head b F) h
  have h0 : (s_head b F).1.2.1 = 0 := by
    refine Classical.byContradiction fun n => ?_
    have : s_setup b F = s_head b F := s_loop_e n
    rw [this] at h
    exact n h
  have h1 : (h_r b F).2.2.1 = 0 := h0
  have h2 : (h_n b F).2.2.1 = 0 := by unfold h_r at h1; exact t_num_0 h1
  have h3 : (h_2 b F).2.1 = 0 := by unfold h_n at h2; exact t_num_0 h2
  have e1 : (h_r b F).2.2.2 = (h_n b F).2.2.2 := by unfold h_r at h1 ⊢; exact ea_num h1
  have e2 : (h_n b F).2.2.2 = (h_2 b F).2.2 := by unfold h_n at h2 ⊢; exact ea_num h2
  have e3 : (h_2 b F).2.2 = -1 := by
    unfold h_2 at h3 ⊢
    rw [ea_exp h3]
    have h4 := t_exp_0 h3
    rcases Classical.em (rd_is b F (rd_n b F 0) [114, 111, 117, 116, 101, 114]) with c | c
    · rw [pif_pos c]
    · rw [pif_neg c] at h4
      exact absurd (show (1 : Int32) = 0 from h4) (by decide)
  rw [show (s_setup b F).1.2.2 = (s_head b F).1.2.2 from e]
  exact e1.trans (e2.trans e3)
end
