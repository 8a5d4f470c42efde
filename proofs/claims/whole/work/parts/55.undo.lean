/-! CHANGES AND THEIR UNDOING -/
theorem inR_sort {r s i : Nat} (h : inR r s i) : 15 ≤ s ∧ s ≤ 22 := by
  unfold inR at h
  omega
def up8 (U : Nat) : Nat := if U < 8 then U + 1 else 8
section
variable {l : Launch} {G : zG} {M : zM} {A : Nat}
theorem C_keep {n S T P U : Nat} {w : Nat → Int32} {Kf : zM → Prop} (hO : OK w n A S T) (hR : Rel M 1 w true) (hP : M.1 10 0 1 = nI P) (hP8 : P < 8) (hU : M.1 10 0 2 = nI U) (hU8 : U ≤ 8)
    (h : ∀ M1, zFr (3 + P) M M1 → Rel M1 (3 + P) w true → Kf (zsIr M1 10 0 (zup (zup (M1.1 10 0) 1 (nI ((P + 1) % 8))) 2 (nI (up8 U))))) : zCalV l G Y_X2_keep 0 0 [vr 10 0, vr 15 1] M Kf := by
  have pI : (nI P).toInt = P := ti_nI (by omega)
  refine zm_X2_keep ?_
  rw [show zmI M 10 0 1 = nI P from hP]
  refine ⟨fun c => ?_, fun _ => ⟨fun _ => ⟨ti_in (by omega), ?_⟩, fun c => ?_⟩⟩
  · exfalso
    rw [ti_lt, ti_0] at c
    omega
  · rw [ti_at pI]
    refine C_copy hO hR (by omega) fun M1 hF hR1 => ?_
    have e10 : M1.1 10 0 = M.1 10 0 := hF.1 10 0 (by unfold inR; omega)
    have p1 : ((nI P + 1) - (nI P + 1) / 8 * 8) = nI ((P + 1) % 8) := by
      refine nI_ofT ?_
      have e : (nI P + 1).toInt = (P : Int) + 1 := by rw [ti_add (by rw [pI, ti_1]; omega), pI, ti_1]
      rw [ti_rem (by rw [e]; omega) (by decide), e, show (8 : Int32).toInt = 8 from rfl]
      omega
    have u1 : (if (8 : Int32) < nI U + 1 then 8 else nI U + 1) = nI (up8 U) := by
      have e : (nI U + 1).toInt = (U : Int) + 1 := by rw [ti_add (by rw [ti_nI (by omega), ti_1]; omega), ti_nI (by omega), ti_1]
      unfold up8
      by_cases c : U < 8
      · rw [if_pos c, if_neg (by rw [ti_lt, e, show (8 : Int32).toInt = 8 from rfl]; omega)]
        exact nI_ofT (by rw [e]; omega)
      · rw [if_neg c, if_pos (by rw [ti_lt, e, show (8 : Int32).toInt = 8 from rfl]; omega)]
        rfl
    have z := h M1 hF hR1
    simp only [zmI, zsI1, zsI2]
    rw [zup_ne (M1.1 10 0) (k := 1) (j := 2) _ (by omega), e10, hP, hU, p1, u1]
    rw [e10] at z
    exact z
  · exfalso
    rw [ti_lt, show (8 : Int32).toInt = 8 from rfl] at c
    omega
/-- the reference lays a row on its pile -/
theorem R_rem {sa U : Nat} {Kf : zM → Prop} (hs : sa = 31 ∨ sa = 33) (hU : M.1 30 0 6 = nI U) (hU8 : U ≤ 8)
    (h : ∀ g : Nat → Int32, (∀ k, k < 484 → g (484 * (up8 U - 1) + k) = M.1 sa 0 k) → (∀ j k, j < up8 U - 1 → k < 484 → g (484 * j + k) = M.1 34 0 (484 * (j + (if U < 8 then 0 else 1)) + k)) → Kf (zsIr (zsIr M 34 0 g) 30 0 (zup (M.1 30 0) 6 (nI (up8 U))))) : zCalV l G Y_X9_remembers 0 0 [vr 30 0, vr sa 0] M Kf := by
  have hk : zkd sa = some (.inr (0, 484)) := by rcases hs with rfl | rfl <;> rfl
  have hsa : ¬ sa = 34 := by omega
  -- with room on the pile
  have lay : ∀ (M1 : zM) (V : Nat), V < 8 → M1.1 30 0 6 = nI V → Kf (zsIr (zsIr M1 34 0 (sp_lay (M1.1 sa 0) (M1.1 34 0) 0 (484 * V))) 30 0 (zup (M1.1 30 0) 6 (nI (V + 1)))) → zAt l G Y_X9_remembers (zEV G Y_X9_remembers Kf) 50 [(0, vr 30 0), (1, vr sa 0)] [] M1 0 0 := by
    intro M1 V hV h6 hk1
    have e1 : (484 * zmI M1 30 0 6).toInt = (484 * V : Nat) := by
      rw [show zmI M1 30 0 6 = nI V from h6, ti_mul (by rw [ti_nI (by omega), show (484 : Int32).toInt = 484 from rfl]; omega), ti_nI (by omega), show (484 : Int32).toInt = 484 from rfl]
      omega
    refine zb_X9_remembers_50 hk (R_lays (na := 484) (nb := 3872) hk rfl hsa (a := 0) (b := 484 * V) rfl e1 (by omega) (by omega) (by omega) ?_)
    have e30 : ∀ f, (zsIr M1 34 0 f).1 30 0 = M1.1 30 0 := fun f => zsIo _ _ _ _ _ _ (by omega)
    simp only [zmI, e30]
    rw [h6, show nI V + 1 = nI (V + 1) from nI_ofT (by rw [ti_add (by rw [ti_nI (by omega), ti_1]; omega), ti_nI (by omega), ti_1]; omega)]
    exact hk1
  refine zm_X9_remembers hk ⟨fun c => ?_, fun c => ?_⟩
  · have hU7 : U < 8 := by
      refine Nat.lt_of_le_of_ne hU8 fun e => c ?_
      rw [show zmI M 30 0 6 = nI U from hU, e]
      rfl
    have eu : up8 U = U + 1 := if_pos hU7
    refine lay M U hU7 hU ?_
    rw [← eu]
    refine h _ (fun k hk => ?_) fun j k hj hk => ?_
    · unfold sp_lay
      rw [eu, show U + 1 - 1 = U by omega, if_pos (by omega), show 0 + (484 * U + k - 484 * U) = k by omega]
    · rw [eu] at hj
      unfold sp_lay
      rw [if_neg (by omega), if_pos hU7]
      rfl
  · have hU9 : ¬ U < 8 := fun e => by
      rw [show zmI M 30 0 6 = nI U from hU, ti_eq, ti_nI (by omega), show (8 : Int32).toInt = 8 from rfl] at c
      omega
    have hU10 : U = 8 := by omega
    have eu : up8 U = 8 := if_neg hU9
    have key : ∀ d j : Nat, j + d = 3388 → ∀ y : Int32, y.toInt = j → zAt l G Y_X9_remembers (zEV G Y_X9_remembers Kf) 11 [(0, vr 30 0), (1, vr sa 0), (2, vi y)] [] (zsIr M 34 0 (fun k => if k < j then M.1 34 0 (k + 484) else M.1 34 0 k)) 0 0 := by
      intro d
      induction d with
      | zero =>
        intro j hj y hy
        have hj3 : j = 3388 := by omega
        refine zb_X9_remembers_11 hk ⟨fun _ => lay _ 7 (by omega) ?_ ?_, fun c => ?_⟩
        · simp only [zmI, zsI1]
          rw [zup_self, zsIo _ _ _ _ 30 0 (by omega), show M.1 30 0 6 = _ from hU, hU10]
          rfl
        · have e30 : ∀ f, (zsIr M 34 0 f).1 30 0 = M.1 30 0 := fun f => zsIo _ _ _ _ _ _ (by omega)
          have es : ∀ f, (zsIr M 34 0 f).1 sa 0 = M.1 sa 0 := fun f => zsIo _ _ _ _ _ _ (by omega)
          have z := h (sp_lay (M.1 sa 0) (fun k => if k < 3388 then M.1 34 0 (k + 484) else M.1 34 0 k) 0 (484 * 7)) (fun k hk => ?_) fun j k hj hk => ?_
          · have e2 : ∀ f : Nat → Int32, zup (zup (M.1 30 0) 6 (M.1 30 0 6 - 1)) 6 (nI (7 + 1)) = zup (M.1 30 0) 6 (nI (up8 U)) := fun _ => by
              funext q
              unfold zup
              split
              · rw [eu]
              · rfl
            have e5 : ∀ (a b c d : Nat → Int32), zsIr (zsIr (zsIr (zsIr M 34 0 a) 30 0 b) 34 0 c) 30 0 d = zsIr (zsIr M 34 0 c) 30 0 d := fun a b c d => by
              refine Prod.ext ?_ rfl
              funext s i
              simp only [zmI_sI]
              by_cases c1 : s = 30 ∧ i = 0
              · simp only [c1, and_self, if_true]
              · simp only [c1, if_false]
                by_cases c2 : s = 34 ∧ i = 0
                · simp only [c2, and_self, if_true]
                · simp only [c2, if_false]
            have e6 : ∀ b f, (zsIr (zsIr M 34 0 f) 30 0 b).1 sa 0 = M.1 sa 0 := fun b f => (zsIo _ _ _ _ _ _ (by omega)).trans (es f)
            have e7 : ∀ b f, (zsIr (zsIr M 34 0 f) 30 0 b).1 34 0 = f := fun b f => (zsIo _ _ _ _ _ _ (by omega)).trans (zsI1 _ _ _ _)
            have e8 : ∀ b f, (zsIr (zsIr M 34 0 f) 30 0 b).1 30 0 = b := fun b f => zsI1 _ _ _ _
            simp only [zmI, e30, e6, e7, e8]
            rw [e2 (M.1 30 0), hj3, e5]
            exact z
          · unfold sp_lay
            rw [eu, if_pos (by omega), show 0 + (484 * (8 - 1) + k - 484 * 7) = k by omega]
          · rw [eu] at hj
            unfold sp_lay
            rw [if_neg (show ¬ (484 * 7 ≤ 484 * j + k ∧ 484 * j + k < 484 * 7 + 484) by omega), if_neg hU9]
            show (if 484 * j + k < 3388 then _ else _) = _
            rw [if_pos (show 484 * j + k < 3388 by omega)]
            exact congrArg (M.1 34 0) (by omega)
        · exfalso
          rw [ti_le, show (3388 : Int32).toInt = 3388 from rfl] at c
          omega
      | succ d ih =>
        intro j hj y hy
        have e1 : (y + 484).toInt = (j + 484 : Nat) := by rw [ti_add (by rw [show (484 : Int32).toInt = 484 from rfl]; omega), show (484 : Int32).toInt = 484 from rfl]; omega
        refine zb_X9_remembers_11 hk ⟨fun c => ?_, fun _ => ⟨ti_in (by rw [e1]; omega), ti_in (by omega), ?_⟩⟩
        · exfalso
          rw [ti_le, show (3388 : Int32).toInt = 3388 from rfl] at c
          omega
        · rw [ti_at e1, ti_at hy]
          have nx := ih (j + 1) (by omega) (y + 1) (ti_inc hy (by omega))
          (simp only [zsI1, zsI2])
          have e : zup (fun k => if k < j then M.1 34 0 (k + 484) else M.1 34 0 k) j (if j + 484 < j then M.1 34 0 (j + 484 + 484) else M.1 34 0 (j + 484)) = fun k => if k < j + 1 then M.1 34 0 (k + 484) else M.1 34 0 k := by
            funext k
            rw [zup_at]
            by_cases hk : k = j
            · rw [if_pos hk, if_neg (by omega), if_pos (by omega), hk]
            · rw [if_neg hk]
              by_cases hk2 : k < j
              · rw [if_pos hk2, if_pos (by omega)]
              · rw [if_neg hk2, if_neg (by omega)]
          rw [e]
          exact nx
    have k0 := key 3388 0 (by omega) 0 rfl
    have e0 : (fun k => if k < 0 then M.1 34 0 (k + 484) else M.1 34 0 k) = M.1 34 0 := by
      funext k
      exact if_neg (by omega)
    rw [e0, show zsIr M 34 0 (M.1 34 0) = M from zsI0 M 34 0] at k0
    exact k0
/-- one more state to go back to -/
theorem Ring.push {M2 : zM} {P U A' : Nat} {w : Nat → Int32} (hP : P < 8) (hU : U ≤ 8) (h : ∀ j, j < U → Row M (3 + (P + 8 - U + j) % 8) (fun k => M.1 34 0 (484 * j + k)) A) (hA : A ≤ A')
    (f : ∀ r s i, 3 ≤ r → r < 11 → r ≠ 3 + P → inR r s i → M2.1 s i = M.1 s i ∧ M2.2.1 s i = M.2.1 s i ∧ M2.2.2.2.1 s i = M.2.2.2.1 s i) (hT : ∀ a t, M.2.2.2.2.1 a = some t → M2.2.2.2.2.1 a = some t)
    (e1 : M2.1 10 0 1 = nI ((P + 1) % 8)) (e2 : M2.1 10 0 2 = nI (up8 U)) (e6 : M2.1 30 0 6 = nI (up8 U)) (new : Row M2 (3 + P) w A')
    (g1 : ∀ k, k < 484 → M2.1 34 0 (484 * (up8 U - 1) + k) = w k) (g2 : ∀ j k, j < up8 U - 1 → k < 484 → M2.1 34 0 (484 * j + k) = M.1 34 0 (484 * (j + (if U < 8 then 0 else 1)) + k)) : Ring M2 A' := by
  have hu1 : 1 ≤ up8 U ∧ up8 U ≤ 8 ∧ (U < 8 → up8 U = U + 1) ∧ (¬ U < 8 → up8 U = 8) := by
    unfold up8
    split <;> omega
  refine ⟨(P + 1) % 8, up8 U, by omega, hu1.2.1, e1, e2, e6, fun j hj => ?_⟩
  by_cases c : j = up8 U - 1
  · have ep : 3 + ((P + 1) % 8 + 8 - up8 U + j) % 8 = 3 + P := by omega
    rw [ep, c]
    exact new.cong fun k hk => g1 k hk
  · have hU8 : U < 8 ∨ ¬ U < 8 := Nat.lt_or_ge U 8 |>.imp id (fun g => by omega)
    obtain ⟨j0, hj0⟩ : ∃ j0, j + (if U < 8 then 0 else 1) = j0 := ⟨_, rfl⟩
    have hj1 : j0 < U ∧ (P + 1) % 8 + 8 - up8 U + j = (P + 1) % 8 + 8 - up8 U + j ∧ ((P + 1) % 8 + 8 - up8 U + j) % 8 = (P + 8 - U + j0) % 8 := by
      rcases hU8 with g | g
      · rw [if_pos g] at hj0
        have := hu1.2.2.1 g
        omega
      · rw [if_neg g] at hj0
        have := hu1.2.2.2 g
        omega
    rw [hj1.2.2]
    obtain ⟨n, q1, q2⟩ := h j0 hj1.1
    have hn := q2.nf
    have hne : 3 + (P + 8 - U + j0) % 8 ≠ 3 + P := by
      rcases hU8 with g | g
      · rw [if_pos g] at hj0
        omega
      · rw [if_neg g] at hj0
        omega
    have q3 : Row M2 (3 + (P + 8 - U + j0) % 8) (fun k => M.1 34 0 (484 * j0 + k)) A := ⟨n, q1.kept (by omega) (fun s i hi => (f _ s i (by omega) (by omega) hne hi).1) (fun s i hi => (f _ s i (by omega) (by omega) hne hi).2.1) (fun s i hi => (f _ s i (by omega) (by omega) hne hi).2.2) hT, q2⟩
    refine (q3.mono hA).cong fun k hk => ?_
    rw [g2 j k (by omega) hk, hj0]
end
