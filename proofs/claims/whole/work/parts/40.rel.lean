/-! THE CLASS'S ROUTER BESIDE THE ROW -/
theorem zsL2 (M : zM) (s i : Nat) (f g : Nat → Int64) : zsLr (zsLr M s i f) s i g = zsLr M s i g := by
  unfold zsLr zrw
  refine Prod.ext rfl (Prod.ext ?_ rfl)
  funext s' i'
  show (if _ then _ else _) = (if _ then _ else _)
  by_cases h : s' = s ∧ i' = i
  · rw [if_pos h, if_pos h]
  · rw [if_neg h, if_neg h]
    exact if_neg h
theorem zmL_sI (M : zM) (s i : Nat) (f : Nat → Int32) : (zsIr M s i f).2.1 = M.2.1 := rfl
theorem zmN_sI (M : zM) (s i : Nat) (f : Nat → Int32) : (zsIr M s i f).2.2.2.1 = M.2.2.2.1 := rfl
theorem zmN_sL (M : zM) (s i : Nat) (f : Nat → Int64) : (zsLr M s i f).2.2.2.1 = M.2.2.2.1 := rfl
theorem zmT_sI (M : zM) (s i : Nat) (f : Nat → Int32) : (zsIr M s i f).2.2.2.2 = M.2.2.2.2 := rfl
theorem zmT_sL (M : zM) (s i : Nat) (f : Nat → Int64) : (zsLr M s i f).2.2.2.2 = M.2.2.2.2 := rfl
def RA (a w : Nat → Int32) (e : Bool) : Prop := (∀ k, k < 8 → a k = w k) ∧ a 8 = w 9 ∧ (e = true → a 9 = w 10) ∧ a 10 = w 13 ∧ a 11 = (if e = true then 1 else 0) ∧ a 12 = w 11
def RN (t : Option (List Nat)) (w : Nat → Int32) (i : Nat) : Prop := ∃ s : List Nat, t = some s ∧ s.length = (w (sf i 9)).toInt.toNat ∧ ∀ j : Nat, j < s.length → s.getD j 0 = (w (sf i (10 + j))).toInt.toNat
def RF (g : Nat → Int32) (L : Nat → Int64) (t : Option (List Nat)) (w : Nat → Int32) (i : Nat) : Prop := (∀ k, k < 9 → g (k + 1) = w (sf i k)) ∧ (∀ k, k < 8 → L k = (w (sf i (18 + k))).toInt64) ∧ RN t w i
def RQ (b c w : Nat → Int32) : Prop := b 1 = w 8 ∧ ∀ j : Nat, (j : Int) < 3 * (w 8).toInt → c j = w (172 + j)
def RD (b c w : Nat → Int32) (e : Bool) : Prop := ∃ L K : Nat, L < 24 ∧ K ≤ 24 ∧ b 2 = nI L ∧ b 1 = nI K ∧ (e = true → w 12 = nI K ∧ ∀ k q : Nat, k < K → q < 8 → c ((L + 24 - k) % 24 * 8 + q) = w (sd (K - 1 - k) q))
def Rel (M : zM) (r : Nat) (w : Nat → Int32) (e : Bool) : Prop := RA (zmI M 15 r) w e ∧ (∀ i : Nat, (i : Int) < (w 11).toInt → RF (zmI M 17 (6 * r + i)) (zmL M 18 (6 * r + i)) (zmT M (zmN M 17 (6 * r + i) 0)) w i) ∧ RQ (zmI M 19 r) (zmI M 20 r) w ∧ RD (zmI M 21 r) (zmI M 22 r) w e
/-- a cell of router r -/
def inR (r s i : Nat) : Prop := (s = 15 ∧ i = r) ∨ (s = 17 ∧ i / 6 = r) ∨ (s = 18 ∧ i / 6 = r) ∨ (s = 19 ∧ i = r) ∨ (s = 20 ∧ i = r) ∨ (s = 21 ∧ i = r) ∨ (s = 22 ∧ i = r)
/-- only router r's numbers have changed -/
def zFr (r : Nat) (M M' : zM) : Prop := (∀ s i, ¬ inR r s i → M'.1 s i = M.1 s i) ∧ (∀ s i, ¬ inR r s i → M'.2.1 s i = M.2.1 s i) ∧ M'.2.2.1 = M.2.2.1 ∧ (∀ s i, ¬ inR r s i → M'.2.2.2.1 s i = M.2.2.2.1 s i) ∧ M'.2.2.2.2 = M.2.2.2.2
theorem zFr.refl (r : Nat) (M : zM) : zFr r M M := ⟨fun _ _ _ => rfl, fun _ _ _ => rfl, rfl, fun _ _ _ => rfl, rfl⟩
theorem zFr.trans {r : Nat} {M M' M'' : zM} (h : zFr r M M') (h2 : zFr r M' M'') : zFr r M M'' :=
  ⟨fun s i q => (h2.1 s i q).trans (h.1 s i q), fun s i q => (h2.2.1 s i q).trans (h.2.1 s i q), h2.2.2.1.trans h.2.2.1, fun s i q => (h2.2.2.2.1 s i q).trans (h.2.2.2.1 s i q), h2.2.2.2.2.trans h.2.2.2.2⟩
theorem zFr.I {r : Nat} {M M' : zM} {s i : Nat} {f : Nat → Int32} (h : zFr r M M') (hin : inR r s i) : zFr r M (zsIr M' s i f) :=
  ⟨fun s' i' q => (zsIo M' s i f s' i' (fun e => q (by rw [e.1, e.2]; exact hin))).trans (h.1 s' i' q), h.2.1, h.2.2.1, h.2.2.2.1, h.2.2.2.2⟩
theorem zFr.L {r : Nat} {M M' : zM} {s i : Nat} {f : Nat → Int64} (h : zFr r M M') (hin : inR r s i) : zFr r M (zsLr M' s i f) :=
  ⟨h.1, fun s' i' q => (show (zsLr M' s i f).2.1 s' i' = M'.2.1 s' i' from if_neg (fun e => q (by rw [e.1, e.2]; exact hin))).trans (h.2.1 s' i' q), h.2.2.1, h.2.2.2.1, h.2.2.2.2⟩
theorem inR15 (r : Nat) : inR r 15 r := Or.inl ⟨rfl, rfl⟩
theorem inR17 {r i : Nat} (h : i < 6) : inR r 17 (6 * r + i) := Or.inr (Or.inl ⟨rfl, by omega⟩)
theorem inR18 {r i : Nat} (h : i < 6) : inR r 18 (6 * r + i) := Or.inr (Or.inr (Or.inl ⟨rfl, by omega⟩))
theorem inR19 (r : Nat) : inR r 19 r := Or.inr (Or.inr (Or.inr (Or.inl ⟨rfl, rfl⟩)))
theorem inR20 (r : Nat) : inR r 20 r := Or.inr (Or.inr (Or.inr (Or.inr (Or.inl ⟨rfl, rfl⟩))))
theorem inR21 (r : Nat) : inR r 21 r := Or.inr (Or.inr (Or.inr (Or.inr (Or.inr (Or.inl ⟨rfl, rfl⟩)))))
theorem inR22 (r : Nat) : inR r 22 r := Or.inr (Or.inr (Or.inr (Or.inr (Or.inr (Or.inr ⟨rfl, rfl⟩)))))
theorem RA.congr {a w w' : Nat → Int32} {e : Bool} (h : RA a w e) (q : ∀ k, k ≤ 13 → k ≠ 8 → k ≠ 12 → w' k = w k) : RA a w' e :=
  ⟨fun k hk => (h.1 k hk).trans (q k (by omega) (by omega) (by omega)).symm, h.2.1.trans (q 9 (by omega) (by omega) (by omega)).symm, fun he => (h.2.2.1 he).trans (q 10 (by omega) (by omega) (by omega)).symm, h.2.2.2.1.trans (q 13 (by omega) (by omega) (by omega)).symm, h.2.2.2.2.1, h.2.2.2.2.2.trans (q 11 (by omega) (by omega) (by omega)).symm⟩
theorem RN.congr {t : Option (List Nat)} {w w' : Nat → Int32} {i : Nat} (h : RN t w i) (hl : (w (sf i 9)).toInt ≤ 8) (q : ∀ k, 9 ≤ k → k < 18 → w' (sf i k) = w (sf i k)) : RN t w' i := by
  obtain ⟨s, h1, h2, h3⟩ := h
  refine ⟨s, h1, by rw [q 9 (by omega) (by omega)]; exact h2, fun j hj => ?_⟩
  rw [q (10 + j) (by omega) (by omega)]
  exact h3 j hj
theorem RF.congr {g : Nat → Int32} {L : Nat → Int64} {t : Option (List Nat)} {w w' : Nat → Int32} {i : Nat} (h : RF g L t w i) (hl : (w (sf i 9)).toInt ≤ 8) (q : ∀ k, k < 26 → w' (sf i k) = w (sf i k)) : RF g L t w' i :=
  ⟨fun k hk => (h.1 k hk).trans (q k (by omega)).symm, fun k hk => by rw [q (18 + k) (by omega)]; exact h.2.1 k hk, h.2.2.congr hl fun k _ hk => q k (by omega)⟩
theorem RQ.congr {b c w w' : Nat → Int32} (h : RQ b c w) (hn : (w 8).toInt ≤ 40) (q8 : w' 8 = w 8) (q : ∀ j, 172 ≤ j → j < 292 → w' j = w j) : RQ b c w' :=
  ⟨h.1.trans q8.symm, fun j hj => by rw [q8] at hj; rw [q (172 + j) (by omega) (by omega)]; exact h.2 j hj⟩
theorem RD.congr {b c w w' : Nat → Int32} {e : Bool} (h : RD b c w e) (q12 : w' 12 = w 12) (q : ∀ j, 292 ≤ j → j < 484 → w' j = w j) : RD b c w' e := by
  obtain ⟨L, K, h1, h2, h3, h4, h5⟩ := h
  refine ⟨L, K, h1, h2, h3, h4, fun he => ⟨q12.trans (h5 he).1, fun k q' hk hq => ?_⟩⟩
  rw [q _ (by (first | omega | (simp only [sf, sq, sd] at *; omega))) (by (first | omega | (simp only [sf, sq, sd] at *; omega)))]
  exact (h5 he).2 k q' hk hq
theorem RD.plain {b c w w' : Nat → Int32} (h : RD b c w false) : RD b c w' false := by
  obtain ⟨L, K, h1, h2, h3, h4, -⟩ := h
  exact ⟨L, K, h1, h2, h3, h4, fun he => absurd he (by decide)⟩
/-- another router's change, or the reference's, leaves a router as it is -/
theorem Rel.kept {M M' : zM} {r : Nat} {w : Nat → Int32} {e : Bool} (h : Rel M r w e) (hn : (w 11).toInt ≤ 6) (h1 : ∀ s i, inR r s i → M'.1 s i = M.1 s i) (h2 : ∀ s i, inR r s i → M'.2.1 s i = M.2.1 s i) (h3 : ∀ s i, inR r s i → M'.2.2.2.1 s i = M.2.2.2.1 s i) (h4 : ∀ a t, M.2.2.2.2.1 a = some t → M'.2.2.2.2.1 a = some t) : Rel M' r w e := by
  unfold Rel at *
  show RA (M'.1 15 r) w e ∧ (∀ i : Nat, (i : Int) < (w 11).toInt → RF (M'.1 17 (6 * r + i)) (M'.2.1 18 (6 * r + i)) (M'.2.2.2.2.1 (M'.2.2.2.1 17 (6 * r + i) 0)) w i) ∧ RQ (M'.1 19 r) (M'.1 20 r) w ∧ RD (M'.1 21 r) (M'.1 22 r) w e
  rw [h1 _ _ (inR15 r), h1 _ _ (inR19 r), h1 _ _ (inR20 r), h1 _ _ (inR21 r), h1 _ _ (inR22 r)]
  refine ⟨h.1, fun i hi => ?_, h.2.2.1, h.2.2.2⟩
  rw [h1 _ _ (inR17 (by omega)), h2 _ _ (inR18 (by omega)), h3 _ _ (inR17 (by omega))]
  have q := h.2.1 i hi
  obtain ⟨q1, q2, s, q3, q4⟩ := q
  exact ⟨q1, q2, s, h4 _ _ q3, q4⟩
theorem inR_ne {r r' s i : Nat} (h : inR r s i) (hr : r ≠ r') : ¬ inR r' s i := by
  unfold inR at *
  omega
theorem Rel.other {M M' : zM} {r r' : Nat} {w : Nat → Int32} {e : Bool} (h : Rel M r w e) (hn : (w 11).toInt ≤ 6) (hr : r ≠ r') (hf : zFr r' M M') : Rel M' r w e :=
  h.kept hn (fun s i hi => hf.1 s i (inR_ne hi hr)) (fun s i hi => hf.2.1 s i (inR_ne hi hr)) (fun s i hi => hf.2.2.2.1 s i (inR_ne hi hr)) (fun a t ht => by rw [hf.2.2.2.2]; exact ht)
theorem Rel.ref {M : zM} {r : Nat} {w f : Nat → Int32} {e : Bool} {s0 i0 : Nat} (h : Rel M r w e) (hn : (w 11).toInt ≤ 6) (hs : 30 ≤ s0) : Rel (zsIr M s0 i0 f) r w e := by
  refine h.kept hn (fun s i hi => zsIo _ _ _ _ _ _ ?_) (fun _ _ _ => rfl) (fun _ _ _ => rfl) (fun _ _ ht => ht)
  unfold inR at hi
  omega
theorem ti_rem {x y : Int32} (hx : 0 ≤ x.toInt) (hy : 0 < y.toInt) : (x - x / y * y).toInt = x.toInt % y.toInt := by
  have h2 := ti_rng x
  have h3 := ti_rng y
  have d1 : x.toInt / y.toInt * y.toInt ≤ x.toInt := Int.ediv_mul_le _ (by omega)
  have d2 : 0 ≤ x.toInt / y.toInt := Int.ediv_nonneg hx (by omega)
  have d3 : x.toInt / y.toInt ≤ x.toInt := Int.ediv_le_self _ hx
  have d4 : 0 ≤ x.toInt / y.toInt * y.toInt := Int.mul_nonneg d2 (by omega)
  have e1 : (x / y).toInt = x.toInt / y.toInt := by
    rw [Int32.toInt_div, Int.tdiv_eq_ediv_of_nonneg hx, ti_bm (by omega)]
  have e2 : (x / y * y).toInt = x.toInt / y.toInt * y.toInt := by rw [ti_mul (by rw [e1]; omega), e1]
  rw [ti_sub (by rw [e2]; omega), e2]
  have := Int.emod_add_ediv_mul x.toInt y.toInt
  omega
