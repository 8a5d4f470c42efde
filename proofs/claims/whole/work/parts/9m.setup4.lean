/-! SETUPS: from the first word on, the class -/
section
variable {l : Launch} {G : zG} {M M0 : zM} {A : Nat} {b : Nat → Int32} {F : Nat} {S S' : Nat × Int32 × Int32} {w w' : Nat → Int32} {t : Int32}
def w00 : Nat → Int32 := zup (zup (zup (zup (zup (zup (zup (zup (fun _ => 0) 0 20) 1 1) 2 5) 3 15) 4 6554) 5 4) 10 (-1)) 13 1
theorem w00_0 {k : Nat} (h : ¬ (k ≤ 5 ∨ k = 10 ∨ k = 13)) : w00 k = 0 := by
  unfold w00
  rw [zup_ne _ _ (by omega), zup_ne _ _ (by omega), zup_ne _ _ (by omega), zup_ne _ _ (by omega), zup_ne _ _ (by omega), zup_ne _ _ (by omega), zup_ne _ _ (by omega), zup_ne _ _ (by omega)]
theorem w00_ok : OKZ w00 := by
  have e11 : (w00 11).toInt = 0 := by rw [w00_0 (by omega)]; rfl
  refine OKZ.mk (WS.mk ⟨by omega, by omega⟩ (fun i hi => ?_) (w00_0 (by omega)) (fun i _ _ k _ => w00_0 (by unfold sf; omega))) ⟨by decide, by decide⟩ ⟨by decide, by decide⟩ ⟨by decide, by decide, by decide⟩ ⟨by decide, by decide⟩ ⟨by decide, by decide⟩ (.inl (by decide)) (by decide) (by decide) (fun i hi => ?_)
  · rw [e11] at hi; omega
  · rw [e11] at hi; omega
theorem OKZ.head {u v : Int32} (h1 : 1 ≤ u.toInt ∧ u.toInt ≤ 40) (h2 : 1 ≤ v.toInt ∧ v.toInt ≤ 9) : OKZ (zup (zup w00 0 u) 1 v) := by
  have h := w00_ok
  have e : ∀ k, ¬ k = 0 → ¬ k = 1 → zup (zup w00 0 u) 1 v k = w00 k := fun k h1 h2 => by rw [zup_ne _ _ h2, zup_ne _ _ h1]
  have e11 : (zup (zup w00 0 u) 1 v 11).toInt = 0 := by rw [e 11 (by omega) (by omega), w00_0 (by omega)]; rfl
  refine OKZ.mk ((h.ws.set (by omega)).set (by omega)) ?_ ?_ ?_ (by rw [e 4 (by omega) (by omega)]; exact h.top) (by rw [e 5 (by omega) (by omega)]; exact h.wt) (by rw [e 6 (by omega) (by omega)]; exact h.gen) (by rw [e 7 (by omega) (by omega)]; exact h.tim) (by rw [e 12 (by omega) (by omega)]; exact h.nd) (fun i hi => ?_)
  · rw [zup_ne _ _ (by omega), zup_self]; exact h1
  · rw [zup_self]; exact h2
  · unfold sp_mm
    rw [e 2 (by omega) (by omega), e 3 (by omega) (by omega)]
    exact h.mm
  · rw [e11] at hi; omega
/-- the first words of a setup -/
noncomputable def h_2 (b : Nat → Int32) (F : Nat) : Nat × Int32 × Int32 := t_exp b F 1 (pif (rd_is b F (rd_n b F 0) [114, 111, 117, 116, 101, 114]) (rd_n b F 0, 0, -1) (t_fail 1 (rd_n b F 0, 0, -1)))
noncomputable def h_n (b : Nat → Int32) (F : Nat) : Int32 × (Nat × Int32 × Int32) := t_num b F 1 40 (h_2 b F)
noncomputable def h_r (b : Nat → Int32) (F : Nat) : Int32 × (Nat × Int32 × Int32) := t_num b F 1 9 (h_n b F).2
noncomputable def s_head (b : Nat → Int32) (F : Nat) : (Nat × Int32 × Int32) × (Nat → Int32) × Int32 := ((h_r b F).2, zup (zup w00 0 (h_n b F).1) 1 (h_r b F).1, 0)
noncomputable def s_setup (b : Nat → Int32) (F : Nat) : (Nat × Int32 × Int32) × (Nat → Int32) × Int32 := s_loop b F 500 (s_head b F)
theorem s_head_ok (h : (s_head b F).1.2.1 = 0) : OKZ (s_head b F).2.1 := by
  have h1 : (h_r b F).2.2.1 = 0 := h
  have h2 : (h_n b F).2.2.1 = 0 := by
    unfold h_r at h1
    exact t_num_0 h1
  have m1 : 1 ≤ (h_r b F).1.toInt ∧ (h_r b F).1.toInt ≤ 9 := by
    unfold h_r at h1 ⊢
    have m := t_num_v h1
    rw [ti_le, ti_le, ti_1, show (9 : Int32).toInt = 9 from rfl] at m
    exact ⟨m.1, m.2.1⟩
  have m2 : 1 ≤ (h_n b F).1.toInt ∧ (h_n b F).1.toInt ≤ 40 := by
    unfold h_n at h2 ⊢
    have m := t_num_v h2
    rw [ti_le, ti_le, ti_1, show (40 : Int32).toInt = 40 from rfl] at m
    exact ⟨m.1, m.2.1⟩
  exact OKZ.head m2 m1
theorem C_rbegin {Kf : zM → Prop} (h : ∀ M', zFr 0 M M' → Rel M' 0 w00 true → (zmI M' 15 0 12).toInt = 0 → Kf M') : zCalV l G Y_X5_begin 0 0 [vr 15 0] M Kf := by
  refine zm_X5_begin (zm_X0_forget (h _ ?_ ?_ ?_))
  · exact (((((((((((((((((zFr.refl 0 M).I (inR15 0)).I (inR15 0)).I (inR15 0)).I (inR15 0)).I (inR15 0)).I (inR15 0)).I (inR15 0)).I (inR15 0)).I (inR15 0)).I (inR15 0)).I (inR15 0)).I (inR15 0)).I (inR15 0)).I (inR19 0)).I (inR21 0)).I (inR21 0))
  · refine ⟨?_, fun i hi => ?_, ?_, ?_⟩
    · simp only [zmI, zmI_sI, zsI2, Nat.reduceEqDiff, false_and, and_false, and_self, if_false, if_true, zsI1]
      refine ⟨fun k hk => ?_, ?_, fun _ => ?_, ?_, ?_, ?_⟩
      · have hk8 : k = 0 ∨ k = 1 ∨ k = 2 ∨ k = 3 ∨ k = 4 ∨ k = 5 ∨ k = 6 ∨ k = 7 := by omega
        rcases hk8 with e | e | e | e | e | e | e | e <;> subst e <;> rfl
      · rfl
      · rfl
      · rfl
      · rfl
      · rfl
    · rw [w00_0 (by omega)] at hi
      exact absurd hi (by rw [ti_0]; omega)
    · refine ⟨?_, fun j hj => ?_⟩
      · simp only [zmI, zmI_sI, zsI2, Nat.reduceEqDiff, false_and, and_false, and_self, if_false, if_true, zsI1]
        rfl
      · rw [w00_0 (by omega)] at hj
        exact absurd hj (by rw [ti_0]; omega)
    · refine ⟨0, 0, by omega, by omega, ?_, ?_, fun _ => ⟨rfl, fun k q hk _ => absurd hk (by omega)⟩⟩
      · simp only [zmI, zmI_sI, zsI2, Nat.reduceEqDiff, false_and, and_false, and_self, if_false, if_true, zsI1]
        rfl
      · simp only [zmI, zmI_sI, zsI2, Nat.reduceEqDiff, false_and, and_false, and_self, if_false, if_true, zsI1]
        rfl
  · simp only [zmI, zmI_sI, zsI2, Nat.reduceEqDiff, false_and, and_false, and_self, if_false, if_true, zsI1]
    rfl
theorem K_readAll {Kf : Int32 → zM → Prop} (hW : WordC l G) (hFl : FillC l G) (hT : Tx b F M) (hb : ∀ j, j < F → 1 ≤ (b j).toInt ∧ (b j).toInt ≤ 255)
    (hK : ∀ M', KS b F M (s_setup b F).1 (s_setup b F).2.1 (s_setup b F).2.2 M' → ((s_setup b F).1.2.1 = 0 → OKZ (s_setup b F).2.1) → Kf (if (s_setup b F).1.2.1 = 0 then 1 else 0) M') : zCalI l G Y_X7_readAll 753 5020 [vr 3 0] M Kf := by
  refine zm_X7_readAll ⟨by omega, by omega, C_rbegin fun M1 f1 r1 n1 => ⟨by omega, by omega, ?_⟩⟩
  have p1 : pFr M M1 := by
    have p0 : pFr M (zsI M 3 0 2 0) := (pFr.refl M).I (.inr (.inr rfl))
    exact p0.trans ⟨fun s i a _ _ => f1.1 s i a, f1.2.1, f1.2.2.1, f1.2.2.2.1, fun a t q => by rw [f1.2.2.2.2]; exact q, by rw [f1.2.2.2.2]⟩
  have hT1 : Tx b F M1 := by
    refine Tx.mk hT.hF ?_ (fun j hj => ?_)
    · show M1.1 1 0 1 = _
      rw [f1.1 1 0 (by unfold inR; omega)]
      show (zsIr M 3 0 _).1 1 0 1 = _
      rw [zsIo _ _ _ _ _ _ (by omega)]
      exact hT.len
    · show M1.1 2 0 j = _
      rw [f1.1 2 0 (by unfold inR; omega)]
      show (zsIr M 3 0 _).1 2 0 j = _
      rw [zsIo _ _ _ _ _ _ (by omega)]
      exact hT.byt j hj
  have t1 : zmI M1 3 0 2 = 0 := by
    show M1.1 3 0 2 = 0
    rw [f1.1 3 0 (by unfold inR; omega)]
    show (zsIr M 3 0 _).1 3 0 2 = 0
    rw [zsI1, zup_self]
  have W0 : WS w00 := w00_ok.ws
  refine C_begT hT1 fun P hP => ?_
  have k0 : KS b F M (rd_n b F 0, 0, -1) w00 0 (zsIr M1 1 0 P) := by
    refine KS.mk (hT1.set hP.len) (by rw [zmU]; exact hP) (p1.I (.inr (.inl rfl))) ?_ (fun i hi => ?_) (fun _ => ⟨r1.low W0.n.2 (by omega), ?_⟩)
    · rw [zmO _ _ _ _ _ _ (by omega)]; omega
    · rw [zmO _ _ _ _ _ _ (by omega)] at hi
      omega
    · rw [zmO _ _ _ _ _ _ (by omega)]; exact t1
  have l39 : ∀ P', KS b F M (pif (rd_is b F (rd_n b F 0) [114, 111, 117, 116, 101, 114]) (rd_n b F 0, 0, -1) (t_fail 1 (rd_n b F 0, 0, -1))) w00 0 (zsIr (zsIr M1 1 0 P) 1 0 P') → zAt l G Y_X7_readAll (zEM G Y_X7_readAll 753 5020 (zKI Kf, none)) 39 [(0, vr 3 0)] [] (zsIr (zsIr M1 1 0 P) 1 0 P') 0 0 := by
    intro P' k1
    refine zb_X7_readAll_39 ⟨by omega, by omega, K_exp (k := 1) k1 rfl (by decide) fun P2 k2 => ⟨by omega, by omega, K_num k2 fun P3 k3 => ⟨by omega, by omega, ?_⟩⟩⟩
    have k3 : KS b F M (h_n b F).2 w00 0 _ := k3
    have k4 := k3.set8 (k := 0) (x := (h_n b F).1) (fun _ => W0) (by decide)
    refine K_num k4 fun P5 k5 => ?_
    have k5 : KS b F M (h_r b F).2 _ 0 _ := k5
    have k6 := k5.set8 (k := 1) (x := (h_r b F).1) (fun _ => W0.set (by omega)) (by decide)
    exact K_loop (X := s_head b F) hW hFl hb 500 0 0 _ 0 0 (by omega) rfl k6 s_head_ok (fun _ => by omega) (by omega) (by omega) (by omega) (by omega) hK
  have self := show zsIr (zsIr M1 1 0 P) 1 0 (zmI (zsIr M1 1 0 P) 1 0) = zsIr M1 1 0 P from zsI0 _ 1 0
  refine fun a3 h3 => ⟨by omega, by omega, C_isW k0.tx k0.tk h3 (fun q => ⟨fun _ => ?_, fun d => absurd d (by decide)⟩) (fun q => ⟨fun d => absurd rfl d, fun _ => ⟨by omega, by omega, K_fail k0 (by decide) fun P' k1 => l39 P' ?_⟩⟩) (by decide)⟩
  · have := l39 (zmI (zsIr M1 1 0 P) 1 0)
    rw [self] at this
    refine this ?_
    rw [pif_pos q]
    exact k0
  · rw [pif_neg q]
    exact k1
end
