/-! SETUPS: the class's reading of the settings -/
section
variable {l : Launch} {G : zG} {M M0 : zM} {A : Nat} {b : Nat → Int32} {F : Nat} {S S' : Nat × Int32 × Int32} {w : Nat → Int32} {t : Int32}
/-- what reading may change: the reader, what is told, the router aside, and new texts -/
def pFr (M M' : zM) : Prop := (∀ s i, ¬ inR 0 s i → ¬ s = 1 → ¬ s = 3 → M'.1 s i = M.1 s i) ∧ (∀ s i, ¬ inR 0 s i → M'.2.1 s i = M.2.1 s i) ∧ M'.2.2.1 = M.2.2.1 ∧ (∀ s i, ¬ inR 0 s i → M'.2.2.2.1 s i = M.2.2.2.1 s i) ∧ (∀ a t, M.2.2.2.2.1 a = some t → M'.2.2.2.2.1 a = some t) ∧ M'.2.2.2.2.2 = M.2.2.2.2.2
theorem pFr.refl (M : zM) : pFr M M := ⟨fun _ _ _ _ _ => rfl, fun _ _ _ => rfl, rfl, fun _ _ _ => rfl, fun _ _ h => h, rfl⟩
theorem pFr.trans {M M' M'' : zM} (h : pFr M M') (g : pFr M' M'') : pFr M M'' :=
  ⟨fun s i a b c => (g.1 s i a b c).trans (h.1 s i a b c), fun s i a => (g.2.1 s i a).trans (h.2.1 s i a), g.2.2.1.trans h.2.2.1, fun s i a => (g.2.2.2.1 s i a).trans (h.2.2.2.1 s i a), fun a t q => g.2.2.2.2.1 a t (h.2.2.2.2.1 a t q), g.2.2.2.2.2.trans h.2.2.2.2.2⟩
theorem pFr.I {M M' : zM} {s i : Nat} {f : Nat → Int32} (h : pFr M M') (hin : inR 0 s i ∨ s = 1 ∨ s = 3) : pFr M (zsIr M' s i f) :=
  ⟨fun s' i' a b c => (zsIo M' s i f s' i' (fun e => by
    rcases hin with q | q | q
    · exact a (by rw [e.1, e.2]; exact q)
    · exact b (by omega)
    · exact c (by omega))).trans (h.1 s' i' a b c), h.2.1, h.2.2.1, h.2.2.2.1, h.2.2.2.2.1, h.2.2.2.2.2⟩
theorem pFr.L {M M' : zM} {s i : Nat} {f : Nat → Int64} (h : pFr M M') (hin : inR 0 s i) : pFr M (zsLr M' s i f) :=
  ⟨h.1, fun s' i' q => (show (zsLr M' s i f).2.1 s' i' = M'.2.1 s' i' from if_neg (fun e => q (by rw [e.1, e.2]; exact hin))).trans (h.2.1 s' i' q), h.2.2.1, h.2.2.2.1, h.2.2.2.2.1, h.2.2.2.2.2⟩
theorem pFr.N {M M' : zM} {s i : Nat} {f : Nat → Nat} (h : pFr M M') (hin : inR 0 s i) : pFr M (zsNr M' s i f) :=
  ⟨h.1, h.2.1, h.2.2.1, fun s' i' q => (show (zsNr M' s i f).2.2.2.1 s' i' = M'.2.2.2.1 s' i' from if_neg (fun e => q (by rw [e.1, e.2]; exact hin))).trans (h.2.2.2.1 s' i' q), h.2.2.2.2.1, h.2.2.2.2.2⟩
/-- the class between two statements -/
def KS (b : Nat → Int32) (F : Nat) (M0 : zM) (S : Nat × Int32 × Int32) (w : Nat → Int32) (t : Int32) (M : zM) : Prop := (Tx b F M) ∧ (TK b F S (zmI M 1 0)) ∧ (pFr M0 M) ∧ (0 ≤ (zmI M 15 0 12).toInt ∧ (zmI M 15 0 12).toInt ≤ 6) ∧ (∀ i : Nat, (i : Int) < (zmI M 15 0 12).toInt → ∃ s : List Nat, zmT M (zmN M 17 i 0) = some s ∧ s.length ≤ 8) ∧ (S.2.1 = 0 → Rel M 0 w true ∧ zmI M 3 0 2 = t)
theorem KS.tx {b : Nat → Int32} {F : Nat} {M0 : zM} {S : Nat × Int32 × Int32} {w : Nat → Int32} {t : Int32} {M : zM} (h9 : KS b F M0 S w t M) : Tx b F M := h9.1
theorem KS.tk {b : Nat → Int32} {F : Nat} {M0 : zM} {S : Nat × Int32 × Int32} {w : Nat → Int32} {t : Int32} {M : zM} (h9 : KS b F M0 S w t M) : TK b F S (zmI M 1 0) := h9.2.1
theorem KS.fr {b : Nat → Int32} {F : Nat} {M0 : zM} {S : Nat × Int32 × Int32} {w : Nat → Int32} {t : Int32} {M : zM} (h9 : KS b F M0 S w t M) : pFr M0 M := h9.2.2.1
theorem KS.fc {b : Nat → Int32} {F : Nat} {M0 : zM} {S : Nat × Int32 × Int32} {w : Nat → Int32} {t : Int32} {M : zM} (h9 : KS b F M0 S w t M) : 0 ≤ (zmI M 15 0 12).toInt ∧ (zmI M 15 0 12).toInt ≤ 6 := h9.2.2.2.1
theorem KS.nm {b : Nat → Int32} {F : Nat} {M0 : zM} {S : Nat × Int32 × Int32} {w : Nat → Int32} {t : Int32} {M : zM} (h9 : KS b F M0 S w t M) : ∀ i : Nat, (i : Int) < (zmI M 15 0 12).toInt → ∃ s : List Nat, zmT M (zmN M 17 i 0) = some s ∧ s.length ≤ 8 := h9.2.2.2.2.1
theorem KS.ok {b : Nat → Int32} {F : Nat} {M0 : zM} {S : Nat × Int32 × Int32} {w : Nat → Int32} {t : Int32} {M : zM} (h9 : KS b F M0 S w t M) : S.2.1 = 0 → Rel M 0 w true ∧ zmI M 3 0 2 = t := h9.2.2.2.2.2
theorem KS.mk {b : Nat → Int32} {F : Nat} {M0 : zM} {S : Nat × Int32 × Int32} {w : Nat → Int32} {t : Int32} {M : zM} (tx : Tx b F M) (tk : TK b F S (zmI M 1 0)) (fr : pFr M0 M) (fc : 0 ≤ (zmI M 15 0 12).toInt ∧ (zmI M 15 0 12).toInt ≤ 6) (nm : ∀ i : Nat, (i : Int) < (zmI M 15 0 12).toInt → ∃ s : List Nat, zmT M (zmN M 17 i 0) = some s ∧ s.length ≤ 8) (ok : S.2.1 = 0 → Rel M 0 w true ∧ zmI M 3 0 2 = t) : KS b F M0 S w t M := ⟨tx, tk, fr, fc, nm, ok⟩
theorem Rel.low {s0 i0 : Nat} {f : Nat → Int32} {r : Nat} {e : Bool} (h : Rel M r w e) (hn : (w 11).toInt ≤ 6) (hs : s0 < 15) : Rel (zsIr M s0 i0 f) r w e := by
  refine h.kept hn (fun s i hi => zsIo _ _ _ _ _ _ ?_) (fun _ _ _ => rfl) (fun _ _ _ => rfl) (fun _ _ ht => ht)
  intro q
  unfold inR at hi
  omega
theorem KS.w11 (h : KS b F M0 S w t M) (h0 : S.2.1 = 0) : w 11 = zmI M 15 0 12 := (h.ok h0).1.1.2.2.2.2.2.symm
theorem KS.rd {P : Nat → Int32} (h : KS b F M0 S w t M) (hP : TK b F S' P) (h0 : S'.2.1 = 0 → S.2.1 = 0) : KS b F M0 S' w t (zsIr M 1 0 P) := by
  refine KS.mk (h.tx.set hP.len) (by rw [zmU]; exact hP) (h.fr.I (.inr (.inl rfl))) ?_ (fun i hi => ?_) (fun g => ?_)
  · rw [zmO _ _ _ _ _ _ (by omega)]; exact h.fc
  · rw [zmO _ _ _ _ _ _ (by omega)] at hi
    exact h.nm i hi
  · have g2 := h0 g
    have q := h.ok g2
    have hc := h.fc
    rw [← h.w11 g2] at hc
    refine ⟨q.1.low hc.2 (by omega), ?_⟩
    rw [zmO _ _ _ _ _ _ (by omega)]
    exact q.2
theorem t_fail_0 {c : Int32} (hc : ¬ c = 0) (h : (t_fail c S).2.1 = 0) : S.2.1 = 0 := by
  unfold t_fail at h
  refine Classical.byContradiction fun g => ?_
  rw [if_neg g] at h
  exact g h
theorem t_exp_0 {k : Nat} (h : (t_exp b F k S).2.1 = 0) : S.2.1 = 0 := by
  unfold t_exp at h
  refine Classical.byContradiction fun g => ?_
  rw [if_neg g] at h
  exact g h
theorem t_num_0 {lo hi : Int32} (h : (t_num b F lo hi S).2.2.1 = 0) : S.2.1 = 0 := by
  unfold t_num at h
  refine Classical.byContradiction fun g => ?_
  rw [if_neg g] at h
  exact g h
theorem K_fail {c : Int32} {Kf : zM → Prop} (h : KS b F M0 S w t M) (hc : ¬ c = 0) (hK : ∀ P, KS b F M0 (t_fail c S) w t (zsIr M 1 0 P) → Kf (zsIr M 1 0 P)) : zCalV l G Y_X4_fail 0 0 [vr 1 0, vi c] M Kf :=
  C_failT h.tk fun _ hP => hK _ (h.rd hP (t_fail_0 hc))
theorem K_exp {k : Nat} {c : Int32} {Kf : zM → Prop} (h : KS b F M0 S w t M) (hc : c = nI k) (hk : k ≤ 6) (hK : ∀ P, KS b F M0 (t_exp b F k S) w t (zsIr M 1 0 P) → Kf (zsIr M 1 0 P)) : zCalV l G Y_X4_expect 0 0 [vr 1 0, vi c] M Kf :=
  C_expT h.tx h.tk hc hk fun _ hP => hK _ (h.rd hP t_exp_0)
theorem K_num {lo hi : Int32} {Kf : Int32 → zM → Prop} (h : KS b F M0 S w t M) (hK : ∀ P, KS b F M0 (t_num b F lo hi S).2 w t (zsIr M 1 0 P) → Kf (t_num b F lo hi S).1 (zsIr M 1 0 P)) : zCalI l G Y_X4_number 0 0 [vr 1 0, vi lo, vi hi] M Kf :=
  C_numT h.tx h.tk fun _ hP => hK _ (h.rd hP t_num_0)
theorem Rel.set8 {k : Nat} {x : Int32} {e : Bool} (h : Rel M 0 w e) (hn : (w 11).toInt ≤ 6) (hk : k < 8) (hf : ∀ i : Nat, (i : Int) < (w 11).toInt → (w (sf i 9)).toInt ≤ 8) (hq : (w 8).toInt ≤ 40) : Rel (zsI M 15 0 k x) 0 (zup w k x) e := by
  obtain ⟨a, f, q, d⟩ := h
  refine ⟨?_, fun i hi => ?_, ?_, ?_⟩
  · show RA ((zsIr M 15 0 (zup (zmI M 15 0) k x)).1 15 0) _ _
    rw [zsI1]
    obtain ⟨a1, a2, a3, a4, a5, a6⟩ := a
    refine ⟨fun j hj => ?_, ?_, fun he => ?_, ?_, ?_, ?_⟩
    · show zup (zmI M 15 0) k x j = zup w k x j
      by_cases g : j = k
      · rw [g, zup_self, zup_self]
      · rw [zup_ne _ _ g, zup_ne _ _ g]; exact a1 j hj
    · rw [zup_ne _ _ (by omega), zup_ne _ _ (by omega)]; exact a2
    · rw [zup_ne _ _ (by omega), zup_ne _ _ (by omega)]; exact a3 he
    · rw [zup_ne _ _ (by omega), zup_ne _ _ (by omega)]; exact a4
    · rw [zup_ne _ _ (by omega)]; exact a5
    · rw [zup_ne _ _ (by omega), zup_ne _ _ (by omega)]; exact a6
  · rw [zup_ne _ _ (by omega)] at hi
    have e1 : zmI (zsI M 15 0 k x) 17 (6 * 0 + i) = zmI M 17 (6 * 0 + i) := zsIo _ _ _ _ _ _ (by omega)
    rw [e1]
    exact (f i hi).congr (hf i hi) fun k' hk' => zup_ne _ _ (by unfold sf; omega)
  · have e1 : zmI (zsI M 15 0 k x) 19 0 = zmI M 19 0 := zsIo _ _ _ _ _ _ (by omega)
    have e2 : zmI (zsI M 15 0 k x) 20 0 = zmI M 20 0 := zsIo _ _ _ _ _ _ (by omega)
    rw [e1, e2]
    exact q.congr hq (zup_ne _ _ (by omega)) fun j h1 h2 => zup_ne _ _ (by omega)
  · have e1 : zmI (zsI M 15 0 k x) 21 0 = zmI M 21 0 := zsIo _ _ _ _ _ _ (by omega)
    have e2 : zmI (zsI M 15 0 k x) 22 0 = zmI M 22 0 := zsIo _ _ _ _ _ _ (by omega)
    rw [e1, e2]
    exact d.congr (zup_ne _ _ (by omega)) fun j h1 h2 => zup_ne _ _ (by omega)
theorem Rel.set13 {x : Int32} {e : Bool} (h : Rel M 0 w e) (hn : (w 11).toInt ≤ 6) (hf : ∀ i : Nat, (i : Int) < (w 11).toInt → (w (sf i 9)).toInt ≤ 8) (hq : (w 8).toInt ≤ 40) : Rel (zsI M 15 0 10 x) 0 (zup w 13 x) e := by
  obtain ⟨a, f, q, d⟩ := h
  refine ⟨?_, fun i hi => ?_, ?_, ?_⟩
  · show RA ((zsIr M 15 0 (zup (zmI M 15 0) 10 x)).1 15 0) _ _
    rw [zsI1]
    obtain ⟨a1, a2, a3, a4, a5, a6⟩ := a
    refine ⟨fun j hj => ?_, ?_, fun he => ?_, ?_, ?_, ?_⟩
    · rw [zup_ne _ _ (by omega), zup_ne _ _ (by omega)]; exact a1 j hj
    · rw [zup_ne _ _ (by omega), zup_ne _ _ (by omega)]; exact a2
    · rw [zup_ne _ _ (by omega), zup_ne _ _ (by omega)]; exact a3 he
    · rw [zup_self, zup_self]
    · rw [zup_ne _ _ (by omega)]; exact a5
    · rw [zup_ne _ _ (by omega), zup_ne _ _ (by omega)]; exact a6
  · rw [zup_ne _ _ (by omega)] at hi
    have e1 : zmI (zsI M 15 0 10 x) 17 (6 * 0 + i) = zmI M 17 (6 * 0 + i) := zsIo _ _ _ _ _ _ (by omega)
    rw [e1]
    exact (f i hi).congr (hf i hi) fun k' hk' => zup_ne _ _ (by unfold sf; omega)
  · have e1 : zmI (zsI M 15 0 10 x) 19 0 = zmI M 19 0 := zsIo _ _ _ _ _ _ (by omega)
    have e2 : zmI (zsI M 15 0 10 x) 20 0 = zmI M 20 0 := zsIo _ _ _ _ _ _ (by omega)
    rw [e1, e2]
    exact q.congr hq (zup_ne _ _ (by omega)) fun j h1 h2 => zup_ne _ _ (by omega)
  · have e1 : zmI (zsI M 15 0 10 x) 21 0 = zmI M 21 0 := zsIo _ _ _ _ _ _ (by omega)
    have e2 : zmI (zsI M 15 0 10 x) 22 0 = zmI M 22 0 := zsIo _ _ _ _ _ _ (by omega)
    rw [e1, e2]
    exact d.congr (zup_ne _ _ (by omega)) fun j h1 h2 => zup_ne _ _ (by omega)
/-- what of the row the settings do not touch -/
def WS (w : Nat → Int32) : Prop := (0 ≤ (w 11).toInt ∧ (w 11).toInt ≤ 6) ∧ (∀ i : Nat, (i : Int) < (w 11).toInt → 0 ≤ (w (sf i 9)).toInt ∧ (w (sf i 9)).toInt ≤ 8 ∧ ∀ j : Nat, (j : Int) < (w (sf i 9)).toInt → 97 ≤ (w (sf i (10 + j))).toInt ∧ (w (sf i (10 + j))).toInt ≤ 122) ∧ (w 8 = 0) ∧ (∀ i : Nat, (w 11).toInt ≤ i → i < 6 → ∀ k, k < 26 → w (sf i k) = 0)
theorem WS.n {w : Nat → Int32} (h9 : WS w) : 0 ≤ (w 11).toInt ∧ (w 11).toInt ≤ 6 := h9.1
theorem WS.lt {w : Nat → Int32} (h9 : WS w) : ∀ i : Nat, (i : Int) < (w 11).toInt → 0 ≤ (w (sf i 9)).toInt ∧ (w (sf i 9)).toInt ≤ 8 ∧ ∀ j : Nat, (j : Int) < (w (sf i 9)).toInt → 97 ≤ (w (sf i (10 + j))).toInt ∧ (w (sf i (10 + j))).toInt ≤ 122 := h9.2.1
theorem WS.q {w : Nat → Int32} (h9 : WS w) : w 8 = 0 := h9.2.2.1
theorem WS.z {w : Nat → Int32} (h9 : WS w) : ∀ i : Nat, (w 11).toInt ≤ i → i < 6 → ∀ k, k < 26 → w (sf i k) = 0 := h9.2.2.2
theorem WS.mk {w : Nat → Int32} (n : 0 ≤ (w 11).toInt ∧ (w 11).toInt ≤ 6) (lt : ∀ i : Nat, (i : Int) < (w 11).toInt → 0 ≤ (w (sf i 9)).toInt ∧ (w (sf i 9)).toInt ≤ 8 ∧ ∀ j : Nat, (j : Int) < (w (sf i 9)).toInt → 97 ≤ (w (sf i (10 + j))).toInt ∧ (w (sf i (10 + j))).toInt ≤ 122) (q : w 8 = 0) (z : ∀ i : Nat, (w 11).toInt ≤ i → i < 6 → ∀ k, k < 26 → w (sf i k) = 0) : WS w := ⟨n, lt, q, z⟩
theorem KS.set15 {j : Nat} {w' : Nat → Int32} {x : Int32} (h : KS b F M0 S w t M) (hj : ¬ j = 12) (hr : S.2.1 = 0 → Rel (zsI M 15 0 j x) 0 w' true) : KS b F M0 S w' t (zsI M 15 0 j x) := by
  have e12 : zmI (zsI M 15 0 j x) 15 0 12 = zmI M 15 0 12 := by
    rw [zmU, zup_ne _ _ (by omega)]
  refine KS.mk ?_ ?_ (h.fr.I (.inl (inR15 0))) ?_ (fun i hi => ?_) (fun g => ⟨hr g, ?_⟩)
  · exact Tx.mk h.tx.hF (by rw [zmO _ _ _ _ _ _ (by omega)]; exact h.tx.len) (fun i hi => by rw [zmO _ _ _ _ _ _ (by omega)]; exact h.tx.byt i hi)
  · rw [zmO _ _ _ _ _ _ (by omega)]; exact h.tk
  · rw [e12]; exact h.fc
  · rw [e12] at hi
    exact h.nm i hi
  · rw [zmO _ _ _ _ _ _ (by omega)]
    exact (h.ok g).2
theorem KS.told {x : Int32} (h : KS b F M0 S w t M) : KS b F M0 S w x (zsI M 3 0 2 x) := by
  refine KS.mk ?_ ?_ (h.fr.I (.inr (.inr rfl))) ?_ (fun i hi => ?_) (fun g => ?_)
  · exact Tx.mk h.tx.hF (by rw [zmO _ _ _ _ _ _ (by omega)]; exact h.tx.len) (fun i hi => by rw [zmO _ _ _ _ _ _ (by omega)]; exact h.tx.byt i hi)
  · rw [zmO _ _ _ _ _ _ (by omega)]; exact h.tk
  · rw [zmO _ _ _ _ _ _ (by omega)]; exact h.fc
  · rw [zmO _ _ _ _ _ _ (by omega)] at hi
    exact h.nm i hi
  · have hc := h.fc
    rw [← h.w11 g] at hc
    exact ⟨(h.ok g).1.low hc.2 (by omega), by rw [zmU, zup_self]⟩
/-- a word of which there may be one -/
def s_once (b : Nat → Int32) (F : Nat) (bit t : Int32) (S : Nat × Int32 × Int32) : Nat × Int32 × Int32 := if S.2.1 = 0 then (if t &&& bit = 0 then t_exp b F 1 S else (S.1, 3, nI S.1)) else S
theorem s_once_0 {bit : Int32} (h : (s_once b F bit t S).2.1 = 0) : S.2.1 = 0 ∧ t &&& bit = 0 := by
  unfold s_once at h
  by_cases g : S.2.1 = 0
  · rw [if_pos g] at h
    by_cases c : t &&& bit = 0
    · exact ⟨g, c⟩
    · rw [if_neg c] at h
      exact absurd (show (3 : Int32) = 0 from h) (by decide)
  · rw [if_neg g] at h
    exact absurd h g
theorem K_once {bit : Int32} {Kf : zM → Prop} (h : KS b F M0 S w t M) (hK : ∀ M', KS b F M0 (s_once b F bit t S) w (t ||| bit) M' → Kf M') : zCalV l G Y_X7_readOnce 0 0 [vr 3 0, vi bit] M Kf := by
  have l17 : ∀ (M1 : zM) (S1 : Nat × Int32 × Int32), KS b F M0 S1 w t M1 → zmI M1 3 0 = zmI M 3 0 → t_exp b F 1 S1 = s_once b F bit t S → (S1.2.1 = 0 → S.2.1 = 0) → zAt l G Y_X7_readOnce (zEV G Y_X7_readOnce Kf) 17 [(0, vr 3 0), (1, vi bit)] [] M1 0 0 := by
    intro M1 S1 k1 e3 e4 e5
    refine zb_X7_readOnce_17 (K_exp (k := 1) (k1.told) rfl (by omega) fun P k2 => hK _ ?_)
    rw [e4] at k2
    refine KS.mk k2.tx k2.tk k2.fr k2.fc k2.nm (fun g => ?_)
    have q := k2.ok g
    refine ⟨q.1, q.2.trans ?_⟩
    rw [e3, (h.ok (s_once_0 g).1).2]
  refine zm_X7_readOnce ⟨fun c => ?_, fun c => C_failT h.tk fun P hP => ?_⟩
  · rcases Classical.em (S.2.1 = 0) with g | g
    · rw [(h.ok g).2] at c
      exact l17 M S h rfl (by unfold s_once; rw [if_pos g, if_pos c]) id
    · exact l17 M S h rfl (by unfold s_once t_exp; rw [if_neg g, if_neg g]) id
  · have k2 : KS b F M0 (t_fail 3 S) w t (zsIr M 1 0 P) := h.rd hP (t_fail_0 (by decide))
    have n0 : ¬ (t_fail 3 S).2.1 = 0 := fun g => by
      have g0 := t_fail_0 (by decide) g
      unfold t_fail at g
      rw [if_pos g0] at g
      exact absurd (show (3 : Int32) = 0 from g) (by decide)
    refine l17 _ (t_fail 3 S) k2 (zmO _ _ _ _ _ _ (by omega)) ?_ (t_fail_0 (by decide))
    unfold t_exp
    rw [if_neg n0]
    unfold t_fail s_once
    rcases Classical.em (S.2.1 = 0) with g | g
    · rw [(h.ok g).2] at c
      rw [if_pos g, if_pos g, if_neg c]
    · rw [if_neg g, if_neg g]
/-- a setting: a number from 0 on -/
def s_set (b : Nat → Int32) (F : Nat) (bit : Int32) (j : Nat) (hi : Int32) (X : (Nat × Int32 × Int32) × (Nat → Int32) × Int32) : (Nat × Int32 × Int32) × (Nat → Int32) × Int32 :=
  ((t_num b F 0 hi (s_once b F bit X.2.2 X.1)).2, zup X.2.1 j (t_num b F 0 hi (s_once b F bit X.2.2 X.1)).1, X.2.2 ||| bit)
def s_lim (b : Nat → Int32) (F : Nat) (X : (Nat × Int32 × Int32) × (Nat → Int32) × Int32) : (Nat × Int32 × Int32) × (Nat → Int32) × Int32 :=
  ((t_num b F ((t_num b F 0 39 (s_once b F 1 X.2.2 X.1)).1 + 1) 40 (t_num b F 0 39 (s_once b F 1 X.2.2 X.1)).2).2, zup (zup X.2.1 2 (t_num b F 0 39 (s_once b F 1 X.2.2 X.1)).1) 3 (t_num b F ((t_num b F 0 39 (s_once b F 1 X.2.2 X.1)).1 + 1) 40 (t_num b F 0 39 (s_once b F 1 X.2.2 X.1)).2).1, X.2.2 ||| 1)
theorem WS.set {j : Nat} {x : Int32} (h : WS w) (hj : j < 8 ∨ j = 13) : WS (zup w j x) := by
  have e : ∀ k, ¬ k = j → zup w j x k = w k := fun k hk => zup_ne _ _ hk
  have e11 := e 11 (by omega)
  refine WS.mk ?_ (fun i hi => ?_) ?_ (fun i hi hi6 k hk => ?_)
  · rw [e11]; exact h.n
  · rw [e11] at hi
    rw [e (sf i 9) (by unfold sf; omega)]
    obtain ⟨h1, h2, h3⟩ := h.lt i hi
    refine ⟨h1, h2, fun k hk => ?_⟩
    rw [e (sf i (10 + k)) (by unfold sf; omega)]
    exact h3 k hk
  · rw [e 8 (by omega)]; exact h.q
  · rw [e11] at hi
    rw [e (sf i k) (by unfold sf; omega)]
    exact h.z i hi hi6 k hk
theorem WS.hf (h : WS w) : (w 11).toInt ≤ 6 ∧ (∀ i : Nat, (i : Int) < (w 11).toInt → (w (sf i 9)).toInt ≤ 8) ∧ (w 8).toInt ≤ 40 := ⟨h.n.2, fun i hi => (h.lt i hi).2.1, by rw [h.q]; decide⟩
theorem KS.set8 {k : Nat} {x : Int32} (h : KS b F M0 S w t M) (hw : S.2.1 = 0 → WS w) (hk : k < 8) : KS b F M0 S (zup w k x) t (zsI M 15 0 k x) :=
  h.set15 (by omega) fun g => (h.ok g).1.set8 (hw g).hf.1 hk (hw g).hf.2.1 (hw g).hf.2.2
theorem KS.set13 {x : Int32} (h : KS b F M0 S w t M) (hw : S.2.1 = 0 → WS w) : KS b F M0 S (zup w 13 x) t (zsI M 15 0 10 x) :=
  h.set15 (by omega) fun g => (h.ok g).1.set13 (hw g).hf.1 (hw g).hf.2.1 (hw g).hf.2.2
end
