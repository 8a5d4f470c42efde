/-! THE REPORT, as the reference writes it -/
theorem nI_div {a b : Nat} (ha : a < 2147483648) (hb : 0 < b) (hb2 : b < 2147483648) : nI a / nI b = nI (a / b) := by
  have h1 : (nI a).toInt = a := ti_nI ha
  have h2 : (nI b).toInt = b := ti_nI hb2
  have h3 : a / b ≤ a := Nat.div_le_self a b
  refine nI_ofT ?_
  rw [Int32.toInt_div, h1, h2, Int.tdiv_eq_ediv_of_nonneg (by omega), ti_bm ?_]
  · exact (Int.natCast_ediv a b).symm
  · have h5 : (0 : Int) ≤ (a : Int) / (b : Int) := Int.ediv_nonneg (by omega) (by omega)
    have h6 : (a : Int) / (b : Int) ≤ a := Int.ediv_le_self _ (by omega)
    omega
theorem nI_mod10 {q : Nat} (hq : q < 2147483648) : nI q - nI q / 10 * 10 = nI (q % 10) := by
  refine nI_ofT ?_
  rw [ti_rem (by rw [ti_nI hq]; omega) (by decide), ti_nI hq, show (10 : Int32).toInt = 10 from rfl]
  omega
theorem dg_b {x : Nat} (hx : x < 1000000000) : x < 10 ^ sb_dg x ∧ (1 < sb_dg x → 10 ^ (sb_dg x - 1) ≤ x) ∧ sb_dg x ≤ 9 := by
  unfold sb_dg
  (repeat' split) <;> (refine ⟨?_, ?_, ?_⟩) <;> (try intro _) <;> (try simp only [Nat.reducePow, Nat.reduceSub]) <;> omega
theorem dg_pow {x k : Nat} (hx : x < 1000000000) (hk : k < sb_dg x) : (x / 10 ^ k ≤ 9 ↔ k = sb_dg x - 1) ∧ 10 ^ k ≤ 100000000 := by
  obtain ⟨h1, h2, h3⟩ := dg_b hx
  have hp : 10 ^ k ≤ 10 ^ 8 := Nat.pow_le_pow_right (by omega) (by omega)
  refine ⟨⟨fun h => ?_, fun h => ?_⟩, by simpa using hp⟩
  · refine Classical.byContradiction fun c => ?_
    have h4 := h2 (by omega)
    have h5 : 10 ^ (k + 1) ≤ 10 ^ (sb_dg x - 1) := Nat.pow_le_pow_right (by omega) (by omega)
    have h6 : 10 * 10 ^ k ≤ x := by rw [Nat.pow_succ] at h5; omega
    have h7 : 10 ≤ x / 10 ^ k := (Nat.le_div_iff_mul_le (Nat.pow_pos (by omega))).mpr h6
    omega
  · have h4 : x < 10 * 10 ^ k := by
      have : 10 ^ sb_dg x = 10 * 10 ^ k := by rw [show sb_dg x = k + 1 by omega, Nat.pow_succ]; omega
      omega
    have h7 : x / 10 ^ k < 10 := (Nat.div_lt_iff_lt_mul (Nat.pow_pos (by omega))).mpr h4
    omega
def Wr (M0 M : zM) (t : List Nat) : Prop := (∀ s i, ¬ (s = 30 ∧ i = 0) → ¬ (s = 44 ∧ i = 0) → M.1 s i = M0.1 s i) ∧ M.2 = M0.2 ∧ (∀ k, k ≠ 29 → M.1 30 0 k = M0.1 30 0 k) ∧ M.1 30 0 29 = nI t.length ∧ ∀ j, j < t.length → M.1 44 0 j = nI (t.getD j 0)
theorem getD_app {t s : List Nat} {j : Nat} : (t ++ s).getD j 0 = if j < t.length then t.getD j 0 else s.getD (j - t.length) 0 := by
  split
  · next c => rw [List.getD_eq_getElem?_getD, List.getD_eq_getElem?_getD, List.getElem?_append_left c]
  · next c => rw [List.getD_eq_getElem?_getD, List.getD_eq_getElem?_getD, List.getElem?_append_right (by omega)]
section
variable {l : Launch} {G : zG} {M0 M : zM} {t : List Nat}
theorem R_writes {c : Nat} {p : Int32} {Kf : zM → Prop} (hp : p.toInt = c) (h : Wr M0 M t) (ht : t.length < 400) (hk : ∀ M', Wr M0 M' (t ++ [c]) → Kf M') : zCalV l G Y_X9_writes 0 0 [vr 30 0, vi p] M Kf := by
  obtain ⟨h1, h2, h3, h4, h5⟩ := h
  have k29 : (zmI M 30 0 29).toInt = t.length := by rw [show zmI M 30 0 29 = _ from h4, ti_nI (by omega)]
  refine zm_X9_writes ⟨ti_in (by omega), hk _ ⟨fun s i g1 g2 => ?_, h2, fun k hk => ?_, ?_, fun j hj => ?_⟩⟩
  · rw [zsIo _ _ _ _ _ _ g1, zsIo _ _ _ _ _ _ g2]
    exact h1 s i g1 g2
  · rw [zsI1, zup_ne _ _ hk]
    exact (congrFun (zsIo _ _ _ _ _ _ (by omega)) k).trans (h3 k hk)
  · rw [zsI1, zup_self]
    rw [show zmI (zsI M 44 0 (zmI M 30 0 29).toNatClampNeg p) 30 0 29 = zmI M 30 0 29 from congrFun (zsIo _ _ _ _ _ _ (by omega)) 29, show zmI M 30 0 29 = _ from h4, List.length_append]
    exact nI_1 _
  · rw [zsIo _ _ _ _ _ _ (by omega), zsI1, ti_at k29, getD_app]
    rw [List.length_append] at hj
    by_cases c2 : j = t.length
    · rw [c2, zup_self, if_neg (by omega), Nat.sub_self]
      exact nI_ofT hp
    · have : j < t.length := by
        have : j < t.length + 1 := hj
        omega
      rw [zup_ne _ _ c2, if_pos this]
      exact h5 j this
theorem R_num {x : Nat} {p : Int32} {Kf : zM → Prop} (hp : p.toInt = x) (hx : x < 1000000000) (h : Wr M0 M t) (ht : t.length + sb_dg x ≤ 400) (hk : ∀ M', Wr M0 M' (t ++ decL x) → Kf M') : zCalV l G Y_X9_writesNumber 0 0 [vr 30 0, vi p] M Kf := by
  obtain rfl := nI_ofT hp
  have hd := sb_dg_in x
  have e10 : ∀ k, k < sb_dg x → (10 ^ k : Nat) ≤ 100000000 := fun k hk => (dg_pow hx hk).2
  have pos : ∀ k : Nat, 0 < 10 ^ k := fun k => Nat.pow_pos (by omega)
  have nz : ∀ k, k < sb_dg x → ¬ nI (10 ^ k) = 0 := fun k hk => nI_ne0 (pos k) (by have := e10 k hk; omega)
  have dv : ∀ k, k < sb_dg x → nI x / nI (10 ^ k) = nI (x / 10 ^ k) := fun k hk => nI_div (by omega) (pos k) (by have := e10 k hk; omega)
  have ub : ∀ k, x / 10 ^ k < 2147483648 := fun k => by have := Nat.div_le_self x (10 ^ k); omega
  -- the digits
  have lp2 : ∀ d i : Nat, i + d = sb_dg x → ∀ (y : Int32) (M1 : zM), (0 < d → y = nI (10 ^ (d - 1))) → (d = 0 → y = 0) → Wr M0 M1 (t ++ (List.range i).map (sb_dec x)) → zAt l G Y_X9_writesNumber (zEV G Y_X9_writesNumber Kf) 18 [(0, vr 30 0), (1, vi (nI x)), (2, vi y)] [] M1 0 0 := by
    intro d
    induction d with
    | zero =>
      intro i hi y M1 hy h0 hM
      refine zb_X9_writesNumber_18 ⟨fun _ => hk M1 ?_, fun c => absurd (show y ≤ 0 by rw [h0 rfl]; decide) c⟩
      have e : decL x = (List.range i).map (sb_dec x) := by unfold decL; rw [show i = sb_dg x by omega]
      rw [e]
      exact hM
    | succ d ih =>
      intro i hi y M1 hy h0 hM
      have y1 : y = nI (10 ^ d) := hy (by omega)
      have hdd : d < sb_dg x := by omega
      subst y1
      have el : ((t ++ (List.range i).map (sb_dec x)).length : Nat) = t.length + i := by simp
      refine zb_X9_writesNumber_18 ⟨fun c => ?_, fun _ => ⟨nz d hdd, ?_⟩⟩
      · exfalso
        exact nI_nle (pos d) (by have := e10 d hdd; omega) c
      · rw [dv d hdd, nI_mod10 (ub d)]
        refine R_writes (c := sb_dec x i) (t := t ++ (List.range i).map (sb_dec x)) ?_ hM (by omega) fun M2 hM2 => ih (i + 1) (by omega) _ M2 (fun hd0 => ?_) (fun hd0 => ?_) ?_
        · rw [show (48 : Int32) = nI 48 from rfl, nI_add, ti_nI (by omega)]
          unfold sb_dec
          rw [show sb_dg x - 1 - i = d by omega]
        · rw [show (10 : Int32) = nI 10 from rfl, nI_div (by have := e10 d hdd; omega) (by omega) (by omega)]
          congr 1
          rw [show d = d - 1 + 1 by omega, Nat.pow_succ, Nat.mul_div_cancel _ (by omega)]
          rfl
        · rw [hd0]
          decide
        · rw [List.range_succ, List.map_append, ← List.append_assoc]
          exact hM2
  have lp1 : ∀ d k : Nat, k + d = sb_dg x - 1 → zAt l G Y_X9_writesNumber (zEV G Y_X9_writesNumber Kf) 2 [(0, vr 30 0), (1, vi (nI x)), (2, vi (nI (10 ^ k)))] [] M 0 0 := by
    intro d
    induction d with
    | zero =>
      intro k hk
      have hkk : k < sb_dg x := by omega
      refine zb_X9_writesNumber_2 ⟨nz k hkk, ?_⟩
      rw [dv k hkk]
      refine ⟨fun _ => lp2 (sb_dg x) 0 (by omega) _ M (fun _ => by rw [show k = sb_dg x - 1 by omega]) (fun h => by omega) (by simpa using h), fun c => ?_⟩
      exfalso
      refine c (ti_le.mpr ?_)
      rw [ti_nI (ub k), show (9 : Int32).toInt = 9 from rfl]
      have := (dg_pow hx hkk).1.mpr (by omega)
      omega
    | succ d ih =>
      intro k hk
      have hkk : k < sb_dg x := by omega
      refine zb_X9_writesNumber_2 ⟨nz k hkk, ?_⟩
      rw [dv k hkk]
      refine ⟨fun c => ?_, fun _ => ?_⟩
      · exfalso
        rw [ti_le, ti_nI (ub k), show (9 : Int32).toInt = 9 from rfl] at c
        have := (dg_pow hx hkk).1.mp (by omega)
        omega
      · have nx := ih (k + 1) (by omega)
        rw [show nI (10 ^ k) * 10 = nI (10 ^ (k + 1)) from ?_]
        · exact nx
        · rw [Nat.pow_succ]
          have e8 := e10 k hkk
          generalize 10 ^ k = P at e8 ⊢
          refine nI_ofT ?_
          rw [ti_mul (by rw [ti_nI (by omega), show (10 : Int32).toInt = 10 from rfl]; omega), ti_nI (by omega), show (10 : Int32).toInt = 10 from rfl]
          omega
  exact zm_X9_writesNumber (lp1 (sb_dg x - 1) 0 (by omega))
end
