/-! COPIES -/
def fc (a b : Nat → Int32) : Nat → Nat → Int32
  | 0 => a
  | n + 1 => zup (fc a b n) n (b n)
theorem fc_at (a b : Nat → Int32) (n k : Nat) : fc a b n k = if k < n then b k else a k := by
  induction n with
  | zero => exact (if_neg (by omega)).symm
  | succ n ih =>
    show zup (fc a b n) n (b n) k = _
    rw [zup_at, ih]
    by_cases h : k = n
    · rw [if_pos h, if_pos (by omega), h]
    · rw [if_neg h]
      by_cases h2 : k < n
      · rw [if_pos h2, if_pos (by omega)]
      · rw [if_neg h2, if_neg (by omega)]
section
variable {l : Launch} {G : zG} {M : zM} {r : Nat} {w : Nat → Int32} {e : Bool}
theorem C_fcopy {f q : Nat} {Kf : zM → Prop} (hne : ¬ q = f) (h4 : zbit (zmI M 17 q 5)) (h5 : zbit (zmI M 17 q 6)) (h7 : zbit (zmI M 17 q 8))
    (h : Kf (zsLr (zsIr (zsNr M 17 f (zup (zmN M 17 f) 0 (zmN M 17 q 0))) 17 f (zup (zup (zup (zup (zup (zup (zup (zup (zup (zmI M 17 f) 1 (zmI M 17 q 1)) 2 (zmI M 17 q 2)) 3 (zmI M 17 q 3)) 4 (zmI M 17 q 4)) 5 (zmI M 17 q 5)) 6 (zmI M 17 q 6)) 7 (zmI M 17 q 7)) 8 (zmI M 17 q 8)) 9 (zmI M 17 q 9))) 18 f (va_cpy (zmL M 18 q) (zmL M 18 f) 0 0 8))) : zCalV l G Y_X1_copyFrom 0 0 [vr 17 f, vr 17 q] M Kf := by
  refine zm_X1_copyFrom ?_
  simp only [zmI, zmL, zmN, zmI_sI, zmI_sL, zmI_sN, zsI2, zsL2, zmL_sL, zmL_sI, zmL_sN, zmN_sI, zmN_sL, zmN_sN, hne, Nat.reduceEqDiff, false_and, and_false, and_self, if_false, if_true]
  exact ⟨h4, h5, h7, ⟨by decide, by decide, by decide, by decide, by decide⟩, h⟩
theorem zFr.N {r : Nat} {M M' : zM} {s i : Nat} {f : Nat → Nat} (h : zFr r M M') (hin : inR r s i) : zFr r M (zsNr M' s i f) :=
  ⟨h.1, h.2.1, h.2.2.1, fun s' i' q => (show (zsNr M' s i f).2.2.2.1 s' i' = M'.2.2.2.1 s' i' from if_neg (fun e => q (by rw [e.1, e.2]; exact hin))).trans (h.2.2.2.1 s' i' q), h.2.2.2.2⟩
/-- one router's numbers go to another -/
theorem C_copy {p n A S T : Nat} {Kf : zM → Prop} (hO : OK w n A S T) (hR : Rel M p w e) (hne : ¬ p = r) (h : ∀ M', zFr r M M' → Rel M' r w e → Kf M') : zCalV l G Y_X5_copyFrom 0 0 [vr 15 r, vr 15 p] M Kf := by
  have hn := hO.nf
  -- queue and decisions
  have fin : ∀ M1 : zM, zFr r M M1 → RA (zmI M1 15 r) w e → (∀ i, i < n → RF (zmI M1 17 (6 * r + i)) (zmL M1 18 (6 * r + i)) (zmT M1 (zmN M1 17 (6 * r + i) 0)) w i) → zAt l G Y_X5_copyFrom (zEV G Y_X5_copyFrom Kf) 141 [(0, vr 15 r), (1, vr 15 p)] [] M1 0 0 := by
    intro M1 hF a f
    obtain ⟨-, -, rq, L, K, d1, d2, d3, d4, d5⟩ := hR.other (by omega) hne hF
    refine zb_X5_copyFrom_141 (zm_X3_copyFrom ?_)
    simp only [zmI, zmL, zmN, zmI_sI, zsI2, hne, Nat.reduceEqDiff, false_and, and_false, and_self, if_false, if_true]
    refine ⟨⟨by decide, by decide, by decide, by decide, by decide⟩, zm_X0_copyFrom ?_⟩
    simp only [zmI, zmL, zmN, zmI_sI, zsI2, hne, Nat.reduceEqDiff, false_and, and_false, and_self, if_false, if_true]
    refine ⟨⟨by decide, by decide, by decide, by decide, by decide⟩, h _ ((((hF.I (inR19 r)).I (inR20 r)).I (inR21 r)).I (inR22 r)) ?_⟩
    unfold Rel
    (simp only [zmI, zmL, zmN, zmT, zmI_sI, zmI_sL, zmI_sN, zsI2, zsL2, zmL_sL, zmL_sI, zmN_sI, zmN_sL, zmT_sI, zmT_sL, Nat.reduceEqDiff, false_and, and_false, and_self, if_false, if_true])
    refine ⟨a, fun i hi => f i (by omega), ⟨?_, fun j hj => ?_⟩, L, K, d1, d2, ?_, ?_, fun he => ⟨(d5 he).1, fun k q hk hq => ?_⟩⟩
    · rw [zup_self]
      exact rq.1
    · have h40 := hO.q40
      unfold va_cpy
      rw [if_pos (show (0 : Int32).toNatClampNeg ≤ j ∧ j < (0 : Int32).toNatClampNeg + (120 : Int32).toNatClampNeg from ⟨Nat.zero_le _, show j < 0 + 120 by omega⟩), show (0 : Int32).toNatClampNeg + (j - (0 : Int32).toNatClampNeg) = j from (Nat.zero_add _).trans (Nat.sub_zero _)]
      exact rq.2 j hj
    · rw [zup_self]
      exact d3
    · rw [zup_ne _ _ (by omega), zup_self]
      exact d4
    · unfold va_cpy
      have hx : (L + 24 - k) % 24 * 8 + q < 192 := by omega
      rw [if_pos (show (0 : Int32).toNatClampNeg ≤ (L + 24 - k) % 24 * 8 + q ∧ (L + 24 - k) % 24 * 8 + q < (0 : Int32).toNatClampNeg + (192 : Int32).toNatClampNeg from ⟨Nat.zero_le _, show (L + 24 - k) % 24 * 8 + q < 0 + 192 by omega⟩), show (0 : Int32).toNatClampNeg + ((L + 24 - k) % 24 * 8 + q - (0 : Int32).toNatClampNeg) = (L + 24 - k) % 24 * 8 + q from (Nat.zero_add _).trans (Nat.sub_zero _)]
      exact (d5 he).2 k q hk hq
  have key : ∀ d j : Nat, j + d = n → ∀ (y : Int32) (M1 : zM), y.toInt = j → zFr r M M1 → RA (zmI M1 15 r) w e → (∀ i, i < j → RF (zmI M1 17 (6 * r + i)) (zmL M1 18 (6 * r + i)) (zmT M1 (zmN M1 17 (6 * r + i) 0)) w i) → zAt l G Y_X5_copyFrom (zEV G Y_X5_copyFrom Kf) 106 [(0, vr 15 r), (1, vr 15 p), (2, vi y)] [] M1 0 0 := by
    intro d
    induction d with
    | zero =>
      intro j hj y M1 hy hF a f
      have en : (zmI M1 15 r 12).toInt = n := by rw [a.2.2.2.2.2]; exact hn.1
      refine zb_X5_copyFrom_106 ⟨fun _ => fin M1 hF a (fun i hi => f i (by omega)), fun c => ?_⟩
      exfalso
      rw [ti_le, en] at c
      omega
    | succ d ih =>
      intro j hj y M1 hy hF a f
      have en : (zmI M1 15 r 12).toInt = n := by rw [a.2.2.2.2.2]; exact hn.1
      obtain ⟨-, fp, -⟩ := hR.other (by omega) hne hF
      have fj := fp j (by omega)
      have ho := hO.fl j (by omega)
      refine zb_X5_copyFrom_106 ⟨fun c => ?_, fun _ => ⟨fun c => ?_, fun _ => ⟨ti_in (by omega), ti_in (by omega), ?_⟩⟩⟩
      · exfalso
        rw [ti_le, en] at c
        omega
      · exfalso
        rw [ti_le, show (6 : Int32).toInt = 6 from rfl] at c
        omega
      · rw [ti_at hy]
        refine C_fcopy (by omega) (by rw [fj.1 4 (by omega)]; exact ho.mrk) (by rw [fj.1 5 (by omega)]; exact ho.on) (by rw [fj.1 7 (by omega)]; exact ho.tld) (ih (j + 1) (by omega) (y + 1) _ (ti_inc hy (by omega)) (((hF.N (inR17 (by omega))).I (inR17 (by omega))).L (inR18 (by omega))) ?_ fun i hi => ?_)
        · simp only [zmI, zmI_sI, zmI_sL, zmI_sN, Nat.reduceEqDiff, false_and, if_false]
          exact a
        · simp only [zmI, zmL, zmN, zmT, zmI_sI, zmI_sL, zmI_sN, zmL_sL, zmL_sI, zmL_sN, zmN_sI, zmN_sL, zmN_sN, zmT_sI, zmT_sL, zmR_sN]
          by_cases hij : i = j
          · rw [hij]
            simp only [and_self, if_true]
            rw [zup_self]
            refine ⟨fun k hk => ?_, fun k hk => ?_, fj.2.2⟩
            · rw [← fj.1 k hk]
              rcases (show k = 0 ∨ k = 1 ∨ k = 2 ∨ k = 3 ∨ k = 4 ∨ k = 5 ∨ k = 6 ∨ k = 7 ∨ k = 8 by omega) with rfl | rfl | rfl | rfl | rfl | rfl | rfl | rfl | rfl <;> simp [zup_at]
            · unfold va_cpy
              rw [if_pos (by omega), show 0 + (k - 0) = k by omega]
              exact fj.2.1 k hk
          · have q1 : ¬ (6 * r + i = 6 * r + j) := by omega
            simp only [q1, and_false, if_false]
            exact f i (by omega)
  obtain ⟨a, -⟩ := hR
  refine zm_X5_copyFrom ?_
  simp only [zmI, zmI_sI, zsI2, hne, and_false, and_self, if_false, if_true]
  refine ⟨by rw [show M.1 15 p 11 = _ from a.2.2.2.2.1]; exact zbit_ite _, ?_⟩
  refine key n 0 (by omega) 0 _ rfl ((zFr.refl r M).I (inR15 r)) ?_ (fun i hi => absurd hi (by omega))
  simp only [zmI, zsI1]
  refine ⟨fun k hk => ?_, ?_, fun he => ?_, ?_, ?_, ?_⟩
  · rw [← a.1 k hk]
    rcases (show k = 0 ∨ k = 1 ∨ k = 2 ∨ k = 3 ∨ k = 4 ∨ k = 5 ∨ k = 6 ∨ k = 7 by omega) with rfl | rfl | rfl | rfl | rfl | rfl | rfl | rfl <;> simp [zup_at]
  · rw [← a.2.1]; simp [zup_at]
  · rw [← a.2.2.1 he]; simp [zup_at]
  · rw [← a.2.2.2.1]; simp [zup_at]
  · rw [← a.2.2.2.2.1]; simp [zup_at]
  · rw [← a.2.2.2.2.2]; simp [zup_at]
end
