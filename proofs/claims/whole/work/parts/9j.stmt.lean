/-! SETUPS: a statement, the class -/
section
variable {l : Launch} {G : zG} {M M0 : zM} {A : Nat} {b : Nat → Int32} {F : Nat} {S S' : Nat × Int32 × Int32} {w w' : Nat → Int32} {t : Int32}
noncomputable def s_stmt (b : Nat → Int32) (F : Nat) (X : (Nat × Int32 × Int32) × (Nat → Int32) × Int32) : (Nat × Int32 × Int32) × (Nat → Int32) × Int32 :=
  pif (rd_is b F X.1.1 [108, 105, 109, 105, 116, 115]) (s_lim b F X) (pif (rd_is b F X.1.1 [116, 111, 112]) (s_set b F 2 4 65536 X) (pif (rd_is b F X.1.1 [119, 101, 105, 103, 104, 116]) (s_set b F 4 5 10 X) (pif (rd_is b F X.1.1 [103, 101, 110, 116, 108, 101]) (s_set b F 8 6 1 X) (pif (rd_is b F X.1.1 [115, 101, 101, 100]) (s_set b F 16 13 9999 X) (pif (rd_is b F X.1.1 [102, 108, 111, 119]) (s_flow b F X) (t_fail 1 X.1, X.2))))))
theorem K_set8 {bit hi : Int32} {j : Nat} {Kf : zM → Prop} (h : KS b F M0 S w t M) (hw : S.2.1 = 0 → WS w) (hj : j < 8) (hK : ∀ M', KS b F M0 (s_set b F bit j hi (S, w, t)).1 (s_set b F bit j hi (S, w, t)).2.1 (s_set b F bit j hi (S, w, t)).2.2 M' → Kf M') : zCalV l G Y_X7_readOnce 0 0 [vr 3 0, vi bit] M (fun M23 => zCalI l G Y_X4_number 0 0 [vr 1 0, vi 0, vi hi] M23 (fun x25 M24 => Kf (zsI M24 15 0 j x25))) :=
  K_once h fun _ k1 => K_num k1 fun _ k2 => hK _ (k2.set8 (fun q => hw (s_once_0 (t_num_0 q)).1) hj)
theorem K_set13 {bit hi : Int32} {Kf : zM → Prop} (h : KS b F M0 S w t M) (hw : S.2.1 = 0 → WS w) (hK : ∀ M', KS b F M0 (s_set b F bit 13 hi (S, w, t)).1 (s_set b F bit 13 hi (S, w, t)).2.1 (s_set b F bit 13 hi (S, w, t)).2.2 M' → Kf M') : zCalV l G Y_X7_readOnce 0 0 [vr 3 0, vi bit] M (fun M23 => zCalI l G Y_X4_number 0 0 [vr 1 0, vi 0, vi hi] M23 (fun x25 M24 => Kf (zsI M24 15 0 10 x25))) :=
  K_once h fun _ k1 => K_num k1 fun _ k2 => hK _ (k2.set13 (fun q => hw (s_once_0 (t_num_0 q)).1))
theorem K_lim {Kf : zM → Prop} (h : KS b F M0 S w t M) (hw : S.2.1 = 0 → WS w) (hK : ∀ M', KS b F M0 (s_lim b F (S, w, t)).1 (s_lim b F (S, w, t)).2.1 (s_lim b F (S, w, t)).2.2 M' → Kf M') : zCalV l G Y_X7_readOnce 0 0 [vr 3 0, vi 1] M (fun M35 => zCalI l G Y_X4_number 0 0 [vr 1 0, vi 0, vi 39] M35 (fun x37 M36 => zCalI l G Y_X4_number 0 0 [vr 1 0, vi ((zmI (zsI M36 15 0 2 x37) 15 0 2) + 1), vi 40] (zsI M36 15 0 2 x37) (fun x39 M38 => Kf (zsI M38 15 0 3 x39)))) := by
  refine K_once h fun _ k1 => K_num k1 fun _ k2 => ?_
  have k3 := k2.set8 (k := 2) (x := (t_num b F 0 39 (s_once b F 1 t S)).1) (fun q => hw (s_once_0 (t_num_0 q)).1) (by decide)
  rw [zmU, zup_self]
  exact K_num k3 fun _ k4 => hK _ (k4.set8 (k := 3) (fun q => (hw (s_once_0 (t_num_0 (t_num_0 q))).1).set (.inl (by decide))) (by decide))
/-- a call's room may be asked for all along -/
theorem K_stmt {Kf : zM → Prop} (hW : WordC l G) (hFl : FillC l G) (h : KS b F M0 S w t M) (hw : S.2.1 = 0 → WS w) (hb : ∀ j, j < F → 1 ≤ (b j).toInt ∧ (b j).toInt ≤ 255)
    (hK : ∀ M', KS b F M0 (s_stmt b F (S, w, t)).1 (s_stmt b F (S, w, t)).2.1 (s_stmt b F (S, w, t)).2.2 M' → Kf M') : zCalV l G Y_X7_readStatement 3 20 [vr 3 0] M Kf := by
  have nk : ∀ {Y : zY} {av : List zV} {c : zM → Prop}, zCalV l G Y 0 0 av M c → (0 ≤ 3 ∧ 0 ≤ 20 ∧ zCalV l G Y 0 0 av M c) := fun h => ⟨by omega, by omega, h⟩
  have w1 : ∀ {c : Prop}, c → (0 ≤ 3 ∧ 0 ≤ 20 ∧ c) := fun h => ⟨by omega, by omega, h⟩
  unfold s_stmt at hK
  refine zm_X7_readStatement fun a1 t1 => w1 (C_isW h.tx h.tk t1 (fun q => ⟨fun d => absurd d (by decide), fun _ => ?_⟩) (fun q1 => ⟨fun _ => ?_, fun d => absurd rfl d⟩) (by decide))
  · rw [show (S, w, t).1.1 = S.1 from rfl, pif_pos q] at hK
    refine w1 ?_
    have := K_lim (l := l) (G := G) (Kf := Kf) h hw hK
    refine K_once h fun _ k1 => w1 (K_num k1 fun _ k2 => ?_)
    have k3 := k2.set8 (k := 2) (x := (t_num b F 0 39 (s_once b F 1 t S)).1) (fun q => hw (s_once_0 (t_num_0 q)).1) (by decide)
    rw [zmU, zup_self]
    exact w1 (K_num k3 fun _ k4 => w1 (hK _ (k4.set8 (k := 3) (fun q => (hw (s_once_0 (t_num_0 (t_num_0 q))).1).set (.inl (by decide))) (by decide))))
  rw [show (S, w, t).1.1 = S.1 from rfl, pif_neg q1] at hK
  refine fun a2 t2 => w1 (C_isW h.tx h.tk t2 (fun q => ⟨fun d => absurd d (by decide), fun _ => ?_⟩) (fun q2 => ⟨fun _ => ?_, fun d => absurd rfl d⟩) (by decide))
  · rw [pif_pos q] at hK
    exact w1 (K_once h fun _ k1 => w1 (K_num k1 fun _ k2 => w1 (hK _ (k2.set8 (fun q => hw (s_once_0 (t_num_0 q)).1) (by decide)))))
  rw [pif_neg q2] at hK
  refine fun a3 t3 => w1 (C_isW h.tx h.tk t3 (fun q => ⟨fun d => absurd d (by decide), fun _ => ?_⟩) (fun q3 => ⟨fun _ => ?_, fun d => absurd rfl d⟩) (by decide))
  · rw [pif_pos q] at hK
    exact w1 (K_once h fun _ k1 => w1 (K_num k1 fun _ k2 => w1 (hK _ (k2.set8 (fun q => hw (s_once_0 (t_num_0 q)).1) (by decide)))))
  rw [pif_neg q3] at hK
  refine fun a4 t4 => w1 (C_isW h.tx h.tk t4 (fun q => ⟨fun d => absurd d (by decide), fun _ => ?_⟩) (fun q4 => ⟨fun _ => ?_, fun d => absurd rfl d⟩) (by decide))
  · rw [pif_pos q] at hK
    exact w1 (K_once h fun _ k1 => w1 (K_num k1 fun _ k2 => w1 (hK _ (k2.set8 (fun q => hw (s_once_0 (t_num_0 q)).1) (by decide)))))
  rw [pif_neg q4] at hK
  refine fun a5 t5 => w1 (C_isW h.tx h.tk t5 (fun q => ⟨fun d => absurd d (by decide), fun _ => ?_⟩) (fun q5 => ⟨fun _ => ?_, fun d => absurd rfl d⟩) (by decide))
  · rw [pif_pos q] at hK
    exact w1 (K_once h fun _ k1 => w1 (K_num k1 fun _ k2 => w1 (hK _ (k2.set13 (fun q => hw (s_once_0 (t_num_0 q)).1)))))
  rw [pif_neg q5] at hK
  refine fun a6 t6 => w1 (C_isW h.tx h.tk t6 (fun q => ⟨fun d => absurd d (by decide), fun _ => ?_⟩) (fun q6 => ⟨fun _ => ?_, fun d => absurd rfl d⟩) (by decide))
  · rw [pif_pos q] at hK
    refine ⟨3, 20, by omega, by omega, K_flow hW hFl h hw hb fun M' k' => ⟨by omega, by omega, hK _ ?_⟩⟩
    have e : (s_flow b F (S, w, t)).2.2 = t := by
      show (if w 11 = 6 then _ else _ : (Nat × Int32 × Int32) × (Nat → Int32) × Int32).2.2 = _
      split <;> rfl
    rw [e]
    exact k'
  · rw [pif_neg q6] at hK
    exact w1 (K_fail h (by decide) fun _ k1 => w1 (hK _ k1))
/-- the settings of a row, once there is no error -/
theorem s_once_t {bit : Int32} (h : (s_once b F bit t S).2.1 = 0) : s_once b F bit t S = t_exp b F 1 S ∧ S.2.1 = 0 := by
  obtain ⟨h1, h2⟩ := s_once_0 h
  unfold s_once
  rw [if_pos h1, if_pos h2]
  exact ⟨rfl, h1⟩
theorem t_num_v {lo hi : Int32} (h : (t_num b F lo hi S).2.2.1 = 0) : lo ≤ (t_num b F lo hi S).1 ∧ (t_num b F lo hi S).1 ≤ hi ∧ S.2.1 = 0 := by
  have h0 := t_num_0 h
  unfold t_num at h ⊢
  rw [if_pos h0] at h ⊢
  split at h
  · next c =>
    split at h
    · next d =>
      rw [if_pos c, if_pos d]
      exact ⟨d.1, d.2, h0⟩
    · exact absurd (show (2 : Int32) = 0 from h) (by decide)
  · exact absurd (show (1 : Int32) = 0 from h) (by decide)
end
