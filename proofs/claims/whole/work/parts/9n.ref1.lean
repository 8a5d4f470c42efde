/-! SETUPS: the reference -/
section
abbrev SX : Type := (Nat × Int32 × Int32) × (Nat → Int32) × Int32
variable {l : Launch} {G : zG} {M Mz : zM} {A : Nat} {b : Nat → Int32} {F : Nat} {S S' : Nat × Int32 × Int32} {w w' f f' Qz Q Q0 : Nat → Int32} {t : Int32}
def mk2 (M : zM) (f Q : Nat → Int32) : zM := zsIr (zsIr M 31 0 f) 30 0 Q
theorem mk_30 : zmI (mk2 Mz f Q) 30 0 = Q := zmU _ _ _ _
theorem mk_31 : zmI (mk2 Mz f Q) 31 0 = f := by
  unfold mk2
  rw [zmO _ _ _ _ _ _ (by omega), zmU]
theorem mk_o {s i : Nat} (h : ¬ s = 30) (h2 : ¬ s = 31) : zmI (mk2 Mz f Q) s i = zmI Mz s i := by
  unfold mk2
  rw [zmO _ _ _ _ _ _ (by omega), zmO _ _ _ _ _ _ (by omega)]
theorem mk_s30 {Q' : Nat → Int32} : zsIr (mk2 Mz f Q) 30 0 Q' = mk2 Mz f Q' := zsI2 _ _ _ _ _
theorem mk_s31 {f' : Nat → Int32} : zsIr (mk2 Mz f Q) 31 0 f' = mk2 Mz f' Q := by
  unfold mk2 zsIr zrw
  refine Prod.ext ?_ rfl
  funext s i
  show (if _ then _ else if _ then _ else if _ then _ else _) = (if _ then _ else if _ then _ else _)
  by_cases h1 : s = 31 ∧ i = 0
  · rw [if_pos h1, if_neg (by omega), if_pos h1]
  · rw [if_neg h1, if_neg h1, if_neg h1]
theorem mk_z31 {k : Nat} {v : Int32} : zsI (mk2 Mz f Q) 31 0 k v = mk2 Mz (zup f k v) Q := by
  show zsIr (mk2 Mz f Q) 31 0 (zup (zmI (mk2 Mz f Q) 31 0) k v) = _
  rw [mk_31, mk_s31]
theorem mk_z30 {k : Nat} {v : Int32} : zsI (mk2 Mz f Q) 30 0 k v = mk2 Mz f (zup Q k v) := by
  show zsIr (mk2 Mz f Q) 30 0 (zup (zmI (mk2 Mz f Q) 30 0) k v) = _
  rw [mk_30, mk_s30]
theorem mk_T : zmT (mk2 Mz f Q) = zmT Mz := rfl
theorem Ux.k2 (h : Ux b F Mz) : Ux b F (mk2 Mz f Q) := Ux.mk h.hF (fun j hj => by rw [mk_o (by omega) (by omega)]; exact h.byt j hj)
/-- the reference between two statements -/
def UV (b : Nat → Int32) (F : Nat) (Qz : Nat → Int32) (X : SX) (f Q : Nat → Int32) : Prop := (UK b F X.1 Q Q) ∧ (∀ j, ¬ (11 ≤ j ∧ j ≤ 16) → ¬ j = 18 → Q j = Qz j) ∧ (X.1.2.1 = 0 → Q 18 = X.2.2) ∧ (X.1.2.1 = 0 → ∃ k : Nat, k < 32 ∧ X.2.2 = nI k) ∧ (X.1.2.1 = 0 → ∀ k, k < 484 → f k = X.2.1 k)
theorem UV.uk {b : Nat → Int32} {F : Nat} {Qz : Nat → Int32} {X : SX} {f Q : Nat → Int32} (h9 : UV b F Qz X f Q) : UK b F X.1 Q Q := h9.1
theorem UV.fr {b : Nat → Int32} {F : Nat} {Qz : Nat → Int32} {X : SX} {f Q : Nat → Int32} (h9 : UV b F Qz X f Q) : ∀ j, ¬ (11 ≤ j ∧ j ≤ 16) → ¬ j = 18 → Q j = Qz j := h9.2.1
theorem UV.tl {b : Nat → Int32} {F : Nat} {Qz : Nat → Int32} {X : SX} {f Q : Nat → Int32} (h9 : UV b F Qz X f Q) : X.1.2.1 = 0 → Q 18 = X.2.2 := h9.2.2.1
theorem UV.tb {b : Nat → Int32} {F : Nat} {Qz : Nat → Int32} {X : SX} {f Q : Nat → Int32} (h9 : UV b F Qz X f Q) : X.1.2.1 = 0 → ∃ k : Nat, k < 32 ∧ X.2.2 = nI k := h9.2.2.2.1
theorem UV.fw {b : Nat → Int32} {F : Nat} {Qz : Nat → Int32} {X : SX} {f Q : Nat → Int32} (h9 : UV b F Qz X f Q) : X.1.2.1 = 0 → ∀ k, k < 484 → f k = X.2.1 k := h9.2.2.2.2
theorem UV.mk {b : Nat → Int32} {F : Nat} {Qz : Nat → Int32} {X : SX} {f Q : Nat → Int32} (uk : UK b F X.1 Q Q) (fr : ∀ j, ¬ (11 ≤ j ∧ j ≤ 16) → ¬ j = 18 → Q j = Qz j) (tl : X.1.2.1 = 0 → Q 18 = X.2.2) (tb : X.1.2.1 = 0 → ∃ k : Nat, k < 32 ∧ X.2.2 = nI k) (fw : X.1.2.1 = 0 → ∀ k, k < 484 → f k = X.2.1 k) : UV b F Qz X f Q := ⟨uk, fr, tl, tb, fw⟩
variable {X : (Nat × Int32 × Int32) × (Nat → Int32) × Int32}
theorem UK.self (h : UK b F S Q0 Q) : UK b F S Q Q := UK.mk h.hs h.len h.er h.ea h.tk (fun _ _ => rfl)
theorem UV.next {Q' : Nat → Int32} (h : UV b F Qz X f Q) (k : UK b F S' Q Q') (h0 : S'.2.1 = 0 → X.1.2.1 = 0) : UV b F Qz (S', X.2) f Q' :=
  UV.mk k.self (fun j h1 h2 => (k.fr j h1).trans (h.fr j h1 h2)) (fun g => (k.fr 18 (by omega)).trans (h.tl (h0 g))) (fun g => h.tb (h0 g)) (fun g => h.fw (h0 g))
theorem UV.any {Y : (Nat → Int32) × Int32} (h : UV b F Qz X f Q) (h0 : ¬ X.1.2.1 = 0) : UV b F Qz (X.1, Y) f' Q :=
  UV.mk h.uk h.fr (fun g => absurd g h0) (fun g => absurd g h0) (fun g => absurd g h0)
theorem V_num {lo hi : Int32} {Kf : Int32 → zM → Prop} (hT : Ux b F Mz) (hV : UV b F Qz X f Q) (hlo : 0 ≤ lo.toInt) (hhi : hi.toInt < 1000000) (h : ∀ Q', UV b F Qz ((t_num b F lo hi X.1).2, X.2) f Q' → Kf (t_num b F lo hi X.1).1 (mk2 Mz f Q')) : zCalI l G Y_X9_number 0 0 [vr 30 0, vi lo, vi hi] (mk2 Mz f Q) Kf := by
  refine R_numT (Q0 := Q) hT.k2 (by rw [mk_30]; exact hV.uk) hlo hhi fun Q' k => ?_
  rw [mk_s30]
  exact h Q' (hV.next k t_num_0)
theorem V_adv {Kf : zM → Prop} (hT : Ux b F Mz) (hV : UV b F Qz X f Q) (h0 : X.1.2.1 = 0) (h : ∀ Q', UV b F Qz (t_adv b F X.1, X.2) f Q' → Kf (mk2 Mz f Q')) : zCalV l G Y_X9_advance 0 0 [vr 30 0] (mk2 Mz f Q) Kf := by
  refine R_advT (S := X.1) (Q0 := Q) hT.k2 (by rw [mk_30]; exact hV.uk) h0 fun Q' k => ?_
  rw [mk_s30]
  exact h Q' (hV.next k fun _ => h0)
theorem V_wr {p c : Int32} {Kf : Int32 → zM → Prop} (hV : UV b F Qz X f Q) (hc : ¬ c = 0) (h0 : X.1.2.1 = 0 → p = 0 → Kf 0 (mk2 Mz f Q)) (h1 : X.1.2.1 = 0 → ¬ p = 0 → ∀ Q', UV b F Qz ((X.1.1, c, nI X.1.1), X.2) f Q' → Kf 1 (mk2 Mz f Q')) (h2 : ¬ X.1.2.1 = 0 → Kf 1 (mk2 Mz f Q)) : zCalI l G Y_X9_wrong 0 0 [vr 30 0, vi p, vi c] (mk2 Mz f Q) Kf := by
  refine R_wrT (S := X.1) (Q0 := Q) (by rw [mk_30]; exact hV.uk) hc h0 (fun g1 g2 Q' k => ?_) h2
  rw [mk_s30]
  exact h1 g1 g2 Q' (hV.next k fun _ => g1)
theorem V_key {a : Nat} {tt : List Nat} {Kf : Int32 → zM → Prop} (hT : Ux b F Mz) (hV : UV b F Qz X f Q) (ht : zmT (mk2 Mz f Q) a = some tt) (hl : tt.length < 1000) (h1 : X.1.2.1 = 0 → rd_is b F X.1.1 tt → Kf 1 (mk2 Mz f Q)) (h0 : ¬ (X.1.2.1 = 0 ∧ rd_is b F X.1.1 tt) → Kf 0 (mk2 Mz f Q)) : zCalI l G Y_X9_isKey 0 0 [vr 30 0, va a] (mk2 Mz f Q) Kf :=
  R_keyT (S := X.1) (Q0 := Q) hT.k2 (by rw [mk_30]; exact hV.uk) ht hl h1 h0
theorem bit_5 : ∀ k, k < 32 → ∀ p, p < 5 → ((((nI k) >>> ((nI p) &&& 31)) &&& 1 = 1) ↔ ¬ (nI k) &&& (nI (2 ^ p)) = 0) ∧ (nI k) ||| (1 <<< ((nI p) &&& 31)) = (nI k) ||| (nI (2 ^ p)) ∧ ∃ j, j < 32 ∧ (nI k) ||| (nI (2 ^ p)) = nI j := by
  have h : ∀ k, k < 32 → ∀ p, p < 5 → ((((nI k) >>> ((nI p) &&& 31)) &&& 1 = 1) ↔ ¬ (nI k) &&& (nI (2 ^ p)) = 0) ∧ (nI k) ||| (1 <<< ((nI p) &&& 31)) = (nI k) ||| (nI (2 ^ p)) ∧ (nI k) ||| (nI (2 ^ p)) = nI (k ||| 2 ^ p) ∧ (k ||| 2 ^ p) < 32 := by decide
  intro k hk p hp
  obtain ⟨h1, h2, h3, h4⟩ := h k hk p hp
  exact ⟨h1, h2, _, h4, h3⟩
theorem V_once {p : Nat} {Kf : zM → Prop} (hT : Ux b F Mz) (hV : UV b F Qz X f Q) (h0 : X.1.2.1 = 0) (hk : rd_kd b F X.1.1 = 1) (hp : p < 5) (h : ∀ Q', UV b F Qz (s_once b F (nI (2 ^ p)) X.2.2 X.1, X.2.1, X.2.2 ||| nI (2 ^ p)) f Q' → Kf (mk2 Mz f Q')) : zCalV l G Y_X9_once 0 0 [vr 30 0, vi (nI p)] (mk2 Mz f Q) Kf := by
  obtain ⟨k, hk32, ek⟩ := hV.tb h0
  have eQ : Q 18 = nI k := (hV.tl h0).trans ek
  obtain ⟨b1, b2, j, hj, b3⟩ := bit_5 k hk32 p hp
  refine zm_X9_once ⟨fun c => ?_, fun c => ?_⟩
  · rw [mk_30, eQ] at c
    have c2 : X.2.2 &&& nI (2 ^ p) = 0 := by
      rw [ek]
      exact Classical.byContradiction fun g => c (b1.mpr g)
    have e1 : s_once b F (nI (2 ^ p)) X.2.2 X.1 = t_adv b F X.1 := by
      unfold s_once t_exp
      rw [if_pos h0, if_pos c2, if_pos h0, if_pos hk]
    rw [e1] at h
    refine zb_X9_once_18 (V_wr hV (by decide) (fun _ _ => ⟨fun _ => ?_, fun d => absurd rfl d⟩) (fun _ d => absurd rfl d) fun d => absurd h0 d)
    rw [mk_z30, mk_30, eQ, b2]
    have hU2 : UK b F X.1 (zup Q 18 (nI k ||| nI (2 ^ p))) (zup Q 18 (nI k ||| nI (2 ^ p))) := by
      have u := hV.uk
      refine UK.mk u.hs ?_ ?_ (fun d => absurd h0 d) (fun g => ?_) (fun _ _ => rfl)
      · rw [zup_ne _ _ (by omega)]; exact u.len
      · rw [zup_ne _ _ (by omega)]; exact u.er
      · have q := u.tk g
        refine Uk.mk ?_ ?_ ?_ (fun d => ?_)
        · rw [zup_ne _ _ (by omega)]; exact q.beg
        · rw [zup_ne _ _ (by omega)]; exact q.nxt
        · rw [zup_ne _ _ (by omega)]; exact q.tok
        · rw [zup_ne _ _ (by omega)]; exact q.val d
    have hV2 : UV b F Qz (X.1, X.2.1, X.2.2 ||| nI (2 ^ p)) f (zup Q 18 (nI k ||| nI (2 ^ p))) := by
      refine UV.mk hU2 (fun i h1 h2 => ?_) (fun _ => ?_) (fun _ => ⟨j, hj, ?_⟩) hV.fw
      · rw [zup_ne _ _ h2]; exact hV.fr i h1 h2
      · rw [zup_self, ek]
      · show X.2.2 ||| nI (2 ^ p) = _
        rw [ek, b3]
    exact V_adv hT hV2 h0 h
  · rw [mk_30, eQ] at c
    have c2 : ¬ X.2.2 &&& nI (2 ^ p) = 0 := by
      rw [ek]
      exact b1.mp c
    have e1 : s_once b F (nI (2 ^ p)) X.2.2 X.1 = (X.1.1, 3, nI X.1.1) := by
      unfold s_once
      rw [if_pos h0, if_neg c2]
    rw [e1] at h
    refine zb_X9_once_18 (V_wr hV (by decide) (fun _ d => absurd d (by decide)) (fun _ _ Q' v => ⟨fun d => absurd d (by decide), fun _ => h Q' (v.any (show ¬ (3 : Int32) = 0 by decide))⟩) fun d => absurd h0 d)
theorem V_set {p j : Nat} {hi : Int32} {Kf : zM → Prop} (hT : Ux b F Mz) (hV : UV b F Qz X f Q) (h0 : X.1.2.1 = 0) (hk : rd_kd b F X.1.1 = 1) (hp : p < 5) (hj : j < 484) (hhi : hi.toInt < 1000000) (h : ∀ f' Q', UV b F Qz (s_set b F (nI (2 ^ p)) j hi X) f' Q' → Kf (mk2 Mz f' Q')) : zCalV l G Y_X9_setting 0 0 [vr 30 0, vi (nI p), vi (nI j), vi hi] (mk2 Mz f Q) Kf := by
  refine zm_X9_setting (V_once hT hV h0 hk hp fun Q1 v1 => ⟨fun g => ?_, fun g => V_num hT v1 (by decide) hhi fun Q2 v2 => ⟨ti_in (by rw [ti_nI (by omega)]; omega), ?_⟩⟩)
  · rw [mk_30, v1.uk.er] at g
    have e : (s_set b F (nI (2 ^ p)) j hi X).1 = s_once b F (nI (2 ^ p)) X.2.2 X.1 := by
      show (t_num b F 0 hi (s_once b F (nI (2 ^ p)) X.2.2 X.1)).2 = _
      rw [t_num_e g]
    refine h f Q1 ?_
    have := v1.any (f' := f) (Y := (s_set b F (nI (2 ^ p)) j hi X).2) g
    rw [show ((s_once b F (nI (2 ^ p)) X.2.2 X.1, X.2.1, X.2.2 ||| nI (2 ^ p)) : (Nat × Int32 × Int32) × (Nat → Int32) × Int32).1 = (s_set b F (nI (2 ^ p)) j hi X).1 from e.symm] at this
    exact this
  · rw [ti_at (ti_nI (by omega)), mk_z31]
    refine h _ Q2 ?_
    refine UV.mk v2.uk v2.fr v2.tl v2.tb (fun g k hk2 => ?_)
    show zup f j _ k = zup X.2.1 j _ k
    by_cases c : k = j
    · rw [c, zup_self, zup_self]
    · rw [zup_ne _ _ c, zup_ne _ _ c]
      exact v2.fw g k hk2
end
