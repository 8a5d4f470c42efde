/-! LOAD, the pair -/
section
variable {l : Launch} {G : zG} {M M0 : zM} {A : Nat} {b : Nat → Int32} {F : Nat} {S S' : Nat × Int32 × Int32} {w w' f : Nat → Int32} {t : Int32} {X : SX}
/-- an error's number -/
def eb (S : Nat × Int32 × Int32) : Prop := 0 ≤ S.2.1.toInt ∧ S.2.1.toInt ≤ 5
theorem eb_c {s : Nat} {c x : Int32} (h : 0 ≤ c.toInt ∧ c.toInt ≤ 5) : eb (s, c, x) := h
theorem pif_ind {α : Type} {P : α → Prop} {p : Prop} {a c : α} (h1 : p → P a) (h2 : ¬ p → P c) : P (pif p a c) := by
  rcases Classical.em p with h | h
  · rw [pif_pos h]; exact h1 h
  · rw [pif_neg h]; exact h2 h
theorem eb_fail {c : Int32} (h : eb S) (hc : 0 ≤ c.toInt ∧ c.toInt ≤ 5) : eb (t_fail c S) := by
  unfold t_fail
  split
  · exact hc
  · exact h
theorem eb_exp {k : Nat} (h : eb S) : eb (t_exp b F k S) := by
  unfold t_exp
  split
  · split
    · exact h
    · exact eb_c ⟨by decide, by decide⟩
  · exact h
theorem eb_num {lo hi : Int32} (h : eb S) : eb (t_num b F lo hi S).2 := by
  unfold t_num
  repeat' split
  all_goals first | exact h | exact eb_c ⟨by decide, by decide⟩
theorem eb_once {bit : Int32} (h : eb S) : eb (s_once b F bit t S) := by
  unfold s_once
  split
  · split
    · exact eb_exp h
    · exact eb_c ⟨by decide, by decide⟩
  · exact h
theorem eb_name (h : eb S) : eb (s_name b F w S) := by
  unfold s_name pif
  repeat' split
  all_goals first | exact h | exact eb_fail h ⟨by decide, by decide⟩
theorem eb_8 (h : eb S) : eb (f_8 b F S) := by
  have h4 : eb (f_c b F S).2 := by
    unfold f_c f_s f_p f_n
    exact eb_num (eb_num (eb_num (eb_num h)))
  unfold f_8
  rcases Classical.em (f_mk b F S) with c | c
  · rw [pif_pos c]; exact eb_exp h4
  · rw [pif_neg c]; exact h4
theorem eb_stmt (h : eb S) : eb (s_stmt b F (S, w, t)).1 := by
  have st : ∀ bit j hi, eb (s_set b F bit j hi (S, w, t)).1 := fun bit j hi => eb_num (S := s_once b F bit t S) (eb_once h)
  have lm : eb (s_lim b F (S, w, t)).1 := eb_num (S := (t_num b F 0 39 (s_once b F 1 t S)).2) (eb_num (eb_once h))
  have fl : eb (s_flow b F (S, w, t)).1 := by
    unfold s_flow
    split
    · exact eb_fail h ⟨by decide, by decide⟩
    · exact eb_8 (eb_exp (eb_name (eb_exp h)))
  unfold s_stmt
  refine pif_ind (P := fun X : SX => eb X.1) (fun _ => lm) fun _ => pif_ind (P := fun X : SX => eb X.1) (fun _ => st _ _ _) fun _ => pif_ind (P := fun X : SX => eb X.1) (fun _ => st _ _ _) fun _ => pif_ind (P := fun X : SX => eb X.1) (fun _ => st _ _ _) fun _ => pif_ind (P := fun X : SX => eb X.1) (fun _ => st _ _ _) fun _ => pif_ind (P := fun X : SX => eb X.1) (fun _ => fl) fun _ => eb_fail h ⟨by decide, by decide⟩
theorem eb_loop : ∀ (d : Nat) (X : SX), eb X.1 → eb (s_loop b F d X).1 := by
  intro d
  induction d with
  | zero => exact fun X h => h
  | succ d ih =>
    intro X h
    obtain ⟨S, w, t⟩ := X
    unfold s_loop
    split
    · exact ih _ (eb_stmt (eb_exp h))
    · exact h
theorem eb_setup : eb (s_setup b F).1 := by
  refine eb_loop 500 _ ?_
  show eb (h_r b F).2
  unfold h_r h_n h_2
  refine eb_num (eb_num (eb_exp ?_))
  have e0 : eb (rd_n b F 0, 0, -1) := eb_c ⟨by decide, by decide⟩
  unfold pif
  split
  · exact e0
  · exact eb_fail e0 ⟨by decide, by decide⟩
theorem Sav.lf {M M' : zM} (h : Sav M A) (hL : LF M M') (h1 : M'.1 13 0 = M.1 13 0) (h2 : M'.1 36 0 = M.1 36 0) : Sav M' A := by
  intro s hs
  obtain ⟨a1, a2, a3⟩ := h s hs
  rw [h1, h2, hL.2.2.2 35 (by omega)]
  exact ⟨a1, a2, fun c => hL.row (a3 c) (by omega) (by omega)⟩
theorem P_load (hW : WordC l G) (hFl : FillC l G) (hI : Inv M A) : zCalI l G Y_X8_load 753 5020 [vr 0 0] M (fun x M1 => zCalI l G Y_X9_load 0 0 [vr 30 0] M1 (fun y M2 => y = x ∧ Good A 0 M2)) := by
  obtain ⟨hRow, hpl, hRing, hSav, ⟨F, hF, r1, r2, r3, r4⟩, hPg⟩ := hI
  have hb : ∀ j, j < F → 1 ≤ (M.1 37 0 j).toInt ∧ (M.1 37 0 j).toInt ≤ 255 := fun j hj => (r3 j hj).2
  have hTx : Tx (M.1 37 0) F M := Tx.mk hF r1 (fun j hj => (r3 j hj).1)
  generalize hbb : M.1 37 0 = b at hb hTx r3
  have ebs := eb_setup (b := b) (F := F)
  refine zm_X8_load ⟨753, 5020, by omega, by omega, K_readAll hW hFl hTx hb fun M3 k3 ok3 => ⟨by omega, by omega, zm_X4_empty ⟨fun g => ?_, fun g => ?_⟩⟩⟩
  · -- the setup is in use
    have h0 : (s_setup b F).1.2.1 = 0 := by
      refine Classical.byContradiction fun n => g ?_
      rw [if_neg n]
    have hZ := ok3 h0
    obtain ⟨hRel, -⟩ := k3.ok h0
    have hOK := hZ.ok
    have hn6 := hZ.ws.n
    have hRel5 : Rel (zsI M3 1 0 1 0) 0 (s_setup b F).2.1 true := hRel.low hn6.2 (by omega)
    refine ⟨by omega, by omega, C_copy (p := 0) (r := 1) hOK hRel5 (by decide) fun M6 f6 r6 => ⟨by omega, by omega, zm_X2_forget ?_⟩⟩
    refine zb_X8_load_53 ⟨fun c => absurd c (by decide), fun _ => ⟨ti_in ⟨by decide, by decide⟩, zb_X8_load_53 ⟨fun c => absurd c (by decide), fun _ => ⟨ti_in ⟨by decide, by decide⟩, zb_X8_load_53 ⟨fun _ => ⟨by omega, by omega, ?_⟩, fun c => absurd (by decide) c⟩⟩⟩⟩⟩
    generalize hM8 : zsI (zsI (zsI M6 10 0 2 0) 13 0 (0 : Int32).toNatClampNeg 0) 13 0 ((0 : Int32) + 1).toNatClampNeg 0 = M8
    have L5 : LF M (zsI M3 1 0 1 0) := (LF.p k3.fr).I (.inl rfl)
    have L6 : LF M M6 := L5.trans (LF.z (by omega) f6)
    have L8 : LF M M8 := by
      rw [← hM8]
      exact ((L6.I (.inr (.inr (.inl rfl)))).I (.inr (.inr (.inr (.inl rfl))))).I (.inr (.inr (.inr (.inl rfl))))
    have I8 : ∀ s, 30 ≤ s → M8.1 s 0 = M.1 s 0 := fun s hs => by
      rw [← hM8, zsIo _ _ _ _ _ _ (by omega), zsIo _ _ _ _ _ _ (by omega), zsIo _ _ _ _ _ _ (by omega), f6.1 s 0 (by unfold inR; omega), zsIo _ _ _ _ _ _ (by omega), k3.fr.1 s 0 (by unfold inR; omega) (by omega) (by omega)]
    have r8 : Rel M8 1 (s_setup b F).2.1 true := by
      rw [← hM8]
      exact ((r6.low hn6.2 (by omega)).low hn6.2 (by omega)).low hn6.2 (by omega)
    have hUx : Ux b F M8 := Ux.mk hF (fun j hj => by show M8.1 37 0 j = b j; rw [I8 37 (by omega), hbb])
    refine R_load hUx (by show M8.1 30 0 10 = _; rw [I8 30 (by omega)]; exact r2) (fun _ o f Q ag qf q6 q7 q10 q17 => ?_) (fun n => absurd h0 n) (.inl h0)
    have qf : ∀ j, ¬ (11 ≤ j ∧ j ≤ 16) → ¬ j = 6 → ¬ j = 7 → ¬ j = 10 → ¬ j = 17 → ¬ j = 18 → Q j = M.1 30 0 j := fun j a c d e p q => by rw [qf j a c d e p q]; show M8.1 30 0 j = _; rw [I8 30 (by omega)]
    generalize hM2 : zsI (zsI (mk2 (zsIr (zsI M8 30 0 7 0) 32 0 o) f Q) 36 0 0 0) 36 0 1 0 = M2
    have J : ∀ s i, ¬ s = 30 → ¬ s = 31 → ¬ s = 32 → ¬ s = 36 → M2.1 s i = M8.1 s i := fun s i a c d e => by
      rw [← hM2]
      unfold mk2
      rw [zsIo _ _ _ _ _ _ (by omega), zsIo _ _ _ _ _ _ (by omega), zsIo _ _ _ _ _ _ (by omega), zsIo _ _ _ _ _ _ (by omega), zsIo _ _ _ _ _ _ (by omega), zsIo _ _ _ _ _ _ (by omega)]
    have J30 : M2.1 30 0 = Q := by
      rw [← hM2, zsIo _ _ _ _ _ _ (by omega), zsIo _ _ _ _ _ _ (by omega)]
      exact mk_30
    have J31 : zmI M2 31 0 = f := by
      show M2.1 31 0 = f
      rw [← hM2, zsIo _ _ _ _ _ _ (by omega), zsIo _ _ _ _ _ _ (by omega)]
      exact mk_31
    have L2 : LF M M2 := by
      rw [← hM2]
      unfold mk2
      exact (((((L8.I (by omega)).I (by omega)).I (by omega)).I (by omega)).I (by omega)).I (by omega)
    have r2' : Rel M2 1 (s_setup b F).2.1 true := by
      refine r8.kept hn6.2 (fun s i hi => J s i (by unfold inR at hi; omega) (by unfold inR at hi; omega) (by unfold inR at hi; omega) (by unfold inR at hi; omega)) (fun _ _ _ => by rw [← hM2]; rfl) (fun _ _ _ => by rw [← hM2]; rfl) (fun a t q => by rw [← hM2]; exact q)
    have x13 : ∀ s : Nat, s < 2 → M2.1 13 0 s = 0 := fun s hs => by
      rw [J 13 0 (by omega) (by omega) (by omega) (by omega), ← hM8]
      show (zsIr (zsIr (zsI M6 10 0 2 0) 13 0 (zup (zmI (zsI M6 10 0 2 0) 13 0) 0 0)) 13 0 (zup ((zsIr (zsI M6 10 0 2 0) 13 0 (zup (zmI (zsI M6 10 0 2 0) 13 0) 0 0)).1 13 0) 1 0)).1 13 0 s = 0
      rw [zsI1, zsI1]
      have : s = 0 ∨ s = 1 := by omega
      rcases this with e | e <;> subst e
      · rw [zup_ne _ _ (by omega), zup_self]
      · rw [zup_self]
    have x36 : ∀ s : Nat, s < 2 → M2.1 36 0 s = 0 := fun s hs => by
      rw [← hM2]
      show (zsIr (zsIr (mk2 (zsIr (zsI M8 30 0 7 0) 32 0 o) f Q) 36 0 _) 36 0 (zup ((zsIr (mk2 (zsIr (zsI M8 30 0 7 0) 32 0 o) f Q) 36 0 (zup (zmI (mk2 (zsIr (zsI M8 30 0 7 0) 32 0 o) f Q) 36 0) 0 0)).1 36 0) 1 0)).1 36 0 s = 0
      rw [zsI1, zsI1]
      have : s = 0 ∨ s = 1 := by omega
      rcases this with e | e <;> subst e
      · rw [zup_ne _ _ (by omega), zup_self]
      · rw [zup_self]
    refine ⟨?_, by rw [J30]; exact q7, ?_, ?_, ?_, ?_, ?_, ?_⟩
    · rw [ag 11 (by omega)]
      exact r8.1.2.2.2.2.2.symm
    · rw [J31]
      refine Row.cong (w := (s_setup b F).2.1) ⟨((s_setup b F).2.1 11).toInt.toNat, r2', ?_⟩ (fun k hk => ag k hk)
      rw [hZ.tim]
      exact hOK.mono (by omega) (by omega) (by omega)
    · rw [J30, qf 8 (by omega) (by omega) (by omega) (by omega) (by omega) (by omega)]; exact hpl
    · obtain ⟨P, U, p1, p2, p3, p4, p5, p6⟩ := hRing
      refine ⟨P, 0, p1, by omega, ?_, ?_, by rw [J30, q6]; rfl, fun j hj => absurd hj (by omega)⟩
      · rw [J 10 0 (by omega) (by omega) (by omega) (by omega), ← hM8, zsIo _ _ _ _ _ _ (by omega), zsIo _ _ _ _ _ _ (by omega), zsI1, zup_ne _ _ (by omega)]
        show M6.1 10 0 1 = _
        rw [f6.1 10 0 (by unfold inR; omega), zsIo _ _ _ _ _ _ (by omega), k3.fr.1 10 0 (by unfold inR; omega) (by omega) (by omega)]
        exact p3
      · rw [J 10 0 (by omega) (by omega) (by omega) (by omega), ← hM8, zsIo _ _ _ _ _ _ (by omega), zsIo _ _ _ _ _ _ (by omega), zsI1, zup_self]
        rfl
    · intro s hs
      rw [x13 s hs, x36 s hs]
      exact ⟨.inl rfl, rfl, fun d => absurd d (by decide)⟩
    · refine ⟨0, by omega, ?_, by rw [J30, q10]; rfl, fun j hj => absurd hj (by omega), ?_⟩
      · rw [J 1 0 (by omega) (by omega) (by omega) (by omega), ← hM8, zsIo _ _ _ _ _ _ (by omega), zsIo _ _ _ _ _ _ (by omega), zsIo _ _ _ _ _ _ (by omega), f6.1 1 0 (by unfold inR; omega), zsI1, zup_self]
        rfl
      · rw [J30, q17, J 1 0 (by omega) (by omega) (by omega) (by omega), ← hM8, zsIo _ _ _ _ _ _ (by omega), zsIo _ _ _ _ _ _ (by omega), zsIo _ _ _ _ _ _ (by omega), f6.1 1 0 (by unfold inR; omega), zsI1, zup_ne _ _ (by omega)]
        have := k3.tk.era
        rw [ea_setup h0] at this
        exact this
    · unfold Pg at hPg ⊢
      rw [L2.2.2.1, L2.2.2.2 44 (by omega), J30, qf 29 (by omega) (by omega) (by omega) (by omega) (by omega) (by omega)]
      exact hPg
  · -- the setup has an error
    have n0 : ¬ (s_setup b F).1.2.1 = 0 := fun e => by
      rw [if_pos e] at g
      exact absurd g (by decide)
    obtain ⟨b1, b2⟩ := ebs
    have nb : ¬ 0 ≤ (-10 - (s_setup b F).1.2.1 : Int32) := fun e => by
      rw [ti_le, ti_0, ti_sub (by rw [show (-10 : Int32).toInt = -10 from rfl]; omega), show (-10 : Int32).toInt = -10 from rfl] at e
      omega
    have e5 : zmI (zsI M3 1 0 1 0) 1 0 5 = (s_setup b F).1.2.1 := by
      rw [zmU, zup_ne _ _ (by omega)]
      exact k3.tk.err
    rw [e5]
    refine ⟨by omega, by omega, ?_⟩
    generalize hM8 : zsI M3 1 0 1 0 = M8
    have L8 : LF M M8 := by
      rw [← hM8]
      exact (LF.p k3.fr).I (.inl rfl)
    have I8 : ∀ s i, ¬ inR 0 s i → ¬ s = 1 → ¬ s = 3 → M8.1 s i = M.1 s i := fun s i a c d => by
      rw [← hM8, zsIo _ _ _ _ _ _ (by omega), k3.fr.1 s i a c d]
    have i0 : ∀ s, 23 ≤ s → ¬ inR 0 s 0 := fun s hs => by unfold inR; omega
    have hUx : Ux b F M8 := Ux.mk hF (fun j hj => by show M8.1 37 0 j = b j; rw [I8 37 0 (i0 37 (by omega)) (by omega) (by omega), hbb])
    refine R_load hUx (by show M8.1 30 0 10 = _; rw [I8 30 0 (i0 30 (by omega)) (by omega) (by omega)]; exact r2) (fun n => absurd n n0) (fun _ o f Q ag qf q7 q10 q17 => ?_) (.inr nb)
    have qf : ∀ j, ¬ (11 ≤ j ∧ j ≤ 16) → ¬ j = 7 → ¬ j = 10 → ¬ j = 17 → ¬ j = 18 → Q j = M.1 30 0 j := fun j a c d e p => by rw [qf j a c d e p]; show M8.1 30 0 j = _; rw [I8 30 0 (i0 30 (by omega)) (by omega) (by omega)]
    have ag : ag484 f (zmI M 31 0) := fun k hk => by rw [ag k hk]; show M8.1 31 0 k = _; rw [I8 31 0 (i0 31 (by omega)) (by omega) (by omega)]
    generalize hM2 : mk2 (zsIr (zsI M8 30 0 7 0) 32 0 o) f Q = M2
    have J : ∀ s i, ¬ s = 30 → ¬ s = 31 → ¬ s = 32 → M2.1 s i = M8.1 s i := fun s i a c d => by
      rw [← hM2]
      unfold mk2
      rw [zsIo _ _ _ _ _ _ (by omega), zsIo _ _ _ _ _ _ (by omega), zsIo _ _ _ _ _ _ (by omega), zsIo _ _ _ _ _ _ (by omega)]
    have J30 : M2.1 30 0 = Q := by
      rw [← hM2]
      exact mk_30
    have J31 : zmI M2 31 0 = f := by
      rw [← hM2]
      exact mk_31
    have L2 : LF M M2 := by
      rw [← hM2]
      unfold mk2
      exact (((L8.I (by omega)).I (by omega)).I (by omega)).I (by omega)
    have K2 : M2.2 = M3.2 := by
      rw [← hM2, ← hM8]
      rfl
    refine ⟨rfl, by rw [J30]; exact q7, ?_, ?_, ?_, ?_, ?_, ?_⟩
    · refine hRow.main (fun s i hi => ?_) L2.2.1 (fun k hk => ?_)
      · have n := inR_ne hi (show 1 ≠ 0 by omega)
        refine ⟨?_, ?_, ?_⟩
        · rw [J s i (by unfold inR at hi; omega) (by unfold inR at hi; omega) (by unfold inR at hi; omega)]
          exact I8 s i n (by unfold inR at hi; omega) (by unfold inR at hi; omega)
        · rw [K2]; exact k3.fr.2.1 s i n
        · rw [K2]; exact k3.fr.2.2.2.1 s i n
      · show zmI M2 31 0 k = _
        rw [J31]
        exact ag k hk
    · rw [J30, qf 8 (by omega) (by omega) (by omega) (by omega) (by omega)]; exact hpl
    · obtain ⟨P, U, p1, p2, p3, p4, p5, p6⟩ := hRing
      have e10 : M2.1 10 0 = M.1 10 0 := by rw [J 10 0 (by omega) (by omega) (by omega), I8 10 0 (by unfold inR; omega) (by omega) (by omega)]
      refine ⟨P, U, p1, p2, by rw [e10]; exact p3, by rw [e10]; exact p4, by rw [J30, qf 6 (by omega) (by omega) (by omega) (by omega) (by omega)]; exact p5, fun j hj => ?_⟩
      rw [L2.2.2.2 34 (by omega)]
      exact L2.row (p6 j hj) (by omega) (by omega)
    · exact hSav.lf L2 (by rw [J 13 0 (by omega) (by omega) (by omega), I8 13 0 (by unfold inR; omega) (by omega) (by omega)]) (by rw [J 36 0 (by omega) (by omega) (by omega), I8 36 0 (i0 36 (by omega)) (by omega) (by omega)])
    · refine ⟨0, by omega, ?_, by rw [J30, q10]; rfl, fun j hj => absurd hj (by omega), ?_⟩
      · rw [J 1 0 (by omega) (by omega) (by omega), ← hM8, zsI1, zup_self]
        rfl
      · rw [J30, q17, J 1 0 (by omega) (by omega) (by omega), ← hM8, zsI1, zup_ne _ _ (by omega)]
        exact k3.tk.era
    · unfold Pg at hPg ⊢
      rw [L2.2.2.1, L2.2.2.2 44 (by omega), J30, qf 29 (by omega) (by omega) (by omega) (by omega) (by omega)]
      exact hPg
end
