/-! THE REFERENCE'S TOP: rows laid aside and back, what is thrown -/
def sp_lay (f g : Nat → Int32) (a b : Nat) : Nat → Int32 := fun k => if b ≤ k ∧ k < b + 484 then f (a + (k - b)) else g k
section
variable {l : Launch} {G : zG} {M : zM} {r : Nat} {w : Nat → Int32} {e : Bool}
theorem R_lays {sa sb na nb a b : Nat} {p q : Int32} {Kf : zM → Prop} (hsa : zkd sa = some (.inr (0, na))) (hsb : zkd sb = some (.inr (0, nb))) (hne : ¬ sa = sb) (hp : p.toInt = a) (hq : q.toInt = b) (ha : a + 484 ≤ na) (hb : b + 484 ≤ nb) (hN : na < 100000 ∧ nb < 100000)
    (h : Kf (zsIr M sb 0 (sp_lay (zmI M sa 0) (zmI M sb 0) a b))) : zCalV l G Y_X9_lays 0 0 [vr sa 0, vi p, vr sb 0, vi q] M Kf := by
  have key : ∀ d j : Nat, j + d = 484 → ∀ y : Int32, y.toInt = j → zAt l G Y_X9_lays (zEV G Y_X9_lays Kf) 3 [(0, vr sa 0), (1, vi p), (2, vr sb 0), (3, vi q), (4, vi y)] [] (zsIr M sb 0 (fun k => if b ≤ k ∧ k < b + j then zmI M sa 0 (a + (k - b)) else zmI M sb 0 k)) 0 0 := by
    intro d
    induction d with
    | zero =>
      intro j hj y hy
      refine zb_X9_lays_3 hsa hsb ⟨fun _ => ?_, fun c => ?_⟩
      · rw [show j = 484 by omega]
        exact h
      · exfalso
        rw [ti_le, show (484 : Int32).toInt = 484 from rfl] at c
        omega
    | succ d ih =>
      intro j hj y hy
      have e1 : (p + y).toInt = (a + j : Nat) := by rw [ti_add (by omega)]; omega
      have e2 : (q + y).toInt = (b + j : Nat) := by rw [ti_add (by omega)]; omega
      refine zb_X9_lays_3 hsa hsb ⟨fun c => ?_, fun _ => ⟨ti_in (by rw [e1]; omega), ti_in (by rw [e2]; omega), ?_⟩⟩
      · exfalso
        rw [ti_le, show (484 : Int32).toInt = 484 from rfl] at c
        omega
      · rw [ti_at e1, ti_at e2]
        have nx := ih (j + 1) (by omega) (y + 1) (ti_inc hy (by omega))
        simp only [zmI, zmI_sI, zsI2, hne, false_and, if_false, and_self, if_true]
        have e : zup (fun k => if b ≤ k ∧ k < b + j then zmI M sa 0 (a + (k - b)) else zmI M sb 0 k) (b + j) (M.1 sa 0 (a + j)) = fun k => if b ≤ k ∧ k < b + (j + 1) then zmI M sa 0 (a + (k - b)) else zmI M sb 0 k := by
          funext k
          rw [zup_at]
          by_cases hk : k = b + j
          · rw [if_pos hk, if_pos (by omega), show a + (k - b) = a + j by omega]
          · rw [if_neg hk]
            by_cases hk2 : b ≤ k ∧ k < b + j
            · rw [if_pos hk2, if_pos (by omega)]
            · rw [if_neg hk2, if_neg (by omega)]
        simp only [zmI] at e
        rw [e]
        exact nx
  have k0 := key 484 0 (by omega) 0 rfl
  have e0 : (fun k => if b ≤ k ∧ k < b + 0 then zmI M sa 0 (a + (k - b)) else zmI M sb 0 k) = zmI M sb 0 := by
    funext k
    exact if_neg (by omega)
  rw [e0, show zsIr M sb 0 (zmI M sb 0) = M from zsI0 M sb 0] at k0
  exact zm_X9_lays hsa hsb k0
theorem lay_0 (f g : Nat → Int32) {k : Nat} (hk : k < 484) : sp_lay f g 0 0 k = f k := by
  unfold sp_lay
  rw [if_pos (by omega), show 0 + (k - 0) = k by omega]
theorem R_aside {Kf : zM → Prop} (h : Kf (zsIr M 32 0 (sp_lay (zmI M 31 0) (zmI M 32 0) 0 0))) : zCalV l G Y_X9_aside 0 0 [vr 30 0] M Kf :=
  zm_X9_aside (R_lays (na := 484) (nb := 484) rfl rfl (by decide) (a := 0) (b := 0) rfl rfl (by omega) (by omega) (by omega) h)
theorem R_back {p : Int32} {Kf : Int32 → zM → Prop} (h : Kf p (zsIr M 31 0 (sp_lay (zmI M 32 0) (zmI M 31 0) 0 0))) : zCalI l G Y_X9_back 0 0 [vr 30 0, vi p] M Kf :=
  zm_X9_back (R_lays (na := 484) (nb := 484) rfl rfl (by decide) (a := 0) (b := 0) rfl rfl (by omega) (by omega) (by omega) h)
theorem R_starts {Kf : zM → Prop} (h : Kf (zsIr M 33 0 (sp_lay (zmI M 31 0) (zmI M 33 0) 0 0))) : zCalV l G Y_X9_starts 0 0 [vr 30 0] M Kf :=
  zm_X9_starts (R_lays (na := 484) (nb := 484) rfl rfl (by decide) (a := 0) (b := 0) rfl rfl (by omega) (by omega) (by omega) h)
/-- what is thrown: the first that fails -/
theorem R_fails {b q : Int32} {Kf : Int32 → zM → Prop} (hq : ¬ q = 0) (h1 : zmI M 30 0 7 = 0 → b = 0 → Kf 0 M) (h2 : zmI M 30 0 7 = 0 → ¬ b = 0 → Kf 1 (zsI M 30 0 7 q)) (h3 : ¬ zmI M 30 0 7 = 0 → Kf 1 M) : zCalI l G Y_X9_fails 0 0 [vr 30 0, vi b, vi q] M Kf := by
  refine zm_X9_fails ⟨fun c => zb_X9_fails_16 ⟨fun d => absurd d c, fun _ => h3 c⟩, fun c => ⟨fun d => zb_X9_fails_16 ⟨fun _ => h1 c d, fun f => absurd c f⟩, fun d => zb_X9_fails_16 ⟨fun f => ?_, fun _ => h2 c d⟩⟩⟩
  simp only [zmI, zsI1, zup_self] at f
  exact absurd f hq
/-- a check of a method on nothing thrown so far: P holds, and it goes on; or it fails with q -/
theorem R_noFlow {p : Int32} {n : Nat} {Kf : Int32 → zM → Prop} (hn : (zmI M 31 0 11).toInt = n) (h7 : zmI M 30 0 7 = 0) (h1 : 0 ≤ p.toInt ∧ p.toInt < n → Kf 0 M) (h2 : ¬ (0 ≤ p.toInt ∧ p.toInt < n) → Kf 1 (zsI M 30 0 7 1)) : zCalI l G Y_X9_noFlow 0 0 [vr 30 0, vi p] M Kf := by
  refine zm_X9_noFlow (R_isFlow hn ?_)
  rcases Classical.em (0 ≤ p.toInt ∧ p.toInt < n) with c | c
  · rw [if_pos c]
    exact ⟨fun _ => zb_X9_noFlow_14 (R_fails (by decide) (fun _ _ => ⟨Or.inl rfl, h1 c⟩) (fun _ d => absurd rfl d) (fun d => absurd h7 d)), fun d => absurd d (by decide)⟩
  · rw [if_neg c]
    exact ⟨fun d => absurd rfl d, fun _ => zb_X9_noFlow_14 (R_fails (by decide) (fun _ d => absurd d (by decide)) (fun _ _ => ⟨Or.inr rfl, h2 c⟩) (fun d => absurd h7 d))⟩
theorem R_noFlows {p : Int32} {n : Nat} {Kf : Int32 → zM → Prop} (hn : (zmI M 31 0 11).toInt = n) (h7 : zmI M 30 0 7 = 0) (h1 : p = -1 ∨ (0 ≤ p.toInt ∧ p.toInt < n) → Kf 0 M) (h2 : ¬ (p = -1 ∨ (0 ≤ p.toInt ∧ p.toInt < n)) → Kf 1 (zsI M 30 0 7 1)) : zCalI l G Y_X9_noFlows 0 0 [vr 30 0, vi p] M Kf := by
  refine zm_X9_noFlows ⟨fun c => zb_X9_noFlows_18 (zb_X9_noFlows_19 (R_fails (by decide) (fun _ _ => ⟨Or.inl rfl, h1 (Or.inl c)⟩) (fun _ d => absurd rfl d) (fun d => absurd h7 d))), fun c0 => R_isFlow hn ?_⟩
  rcases Classical.em (0 ≤ p.toInt ∧ p.toInt < n) with c | c
  · rw [if_pos c]
    exact ⟨fun _ => zb_X9_noFlows_18 (zb_X9_noFlows_19 (R_fails (by decide) (fun _ _ => ⟨Or.inl rfl, h1 (Or.inr c)⟩) (fun _ d => absurd rfl d) (fun d => absurd h7 d))), fun d => absurd d (by decide)⟩
  · rw [if_neg c]
    exact ⟨fun d => absurd rfl d, fun _ => zb_X9_noFlows_19 (R_fails (by decide) (fun _ d => absurd d (by decide)) (fun _ _ => ⟨Or.inr rfl, h2 (by rintro (g | g); exact c0 g; exact c g)⟩) (fun d => absurd h7 d))⟩
theorem R_noAccount {p : Int32} {Kf : Int32 → zM → Prop} (h7 : zmI M 30 0 7 = 0) (h1 : 0 ≤ p.toInt ∧ p.toInt < 8 → Kf 0 M) (h2 : ¬ (0 ≤ p.toInt ∧ p.toInt < 8) → Kf 1 (zsI M 30 0 7 2)) : zCalI l G Y_X9_noAccount 0 0 [vr 30 0, vi p] M Kf := by
  refine zm_X9_noAccount (R_in ?_)
  rcases Classical.em ((0 : Int32) ≤ p ∧ p ≤ 7) with c | c
  · have c2 := c
    rw [ti_le, ti_le, ti_0, show (7 : Int32).toInt = 7 from rfl] at c2
    rw [if_pos c]
    exact ⟨fun _ => zb_X9_noAccount_16 (R_fails (by decide) (fun _ _ => ⟨Or.inl rfl, h1 (by omega)⟩) (fun _ d => absurd rfl d) (fun d => absurd h7 d)), fun d => absurd d (by decide)⟩
  · have c2 := c
    rw [ti_le, ti_le, ti_0, show (7 : Int32).toInt = 7 from rfl] at c2
    rw [if_neg c]
    exact ⟨fun d => absurd rfl d, fun _ => zb_X9_noAccount_16 (R_fails (by decide) (fun _ d => absurd d (by decide)) (fun _ _ => ⟨Or.inr rfl, h2 (by omega)⟩) (fun d => absurd h7 d))⟩
theorem R_noTicks {p a b q : Int32} {Kf : Int32 → zM → Prop} (h7 : zmI M 30 0 7 = 0) (hq : ¬ q = 0) (h1 : a ≤ p ∧ p ≤ b → Kf 0 M) (h2 : ¬ (a ≤ p ∧ p ≤ b) → Kf 1 (zsI M 30 0 7 q)) : zCalI l G Y_X9_noTicks 0 0 [vr 30 0, vi p, vi a, vi b, vi q] M Kf := by
  refine zm_X9_noTicks (R_in ?_)
  rcases Classical.em (a ≤ p ∧ p ≤ b) with c | c
  · rw [if_pos c]
    exact ⟨fun _ => zb_X9_noTicks_15 (R_fails hq (fun _ _ => ⟨Or.inl rfl, h1 c⟩) (fun _ d => absurd rfl d) (fun d => absurd h7 d)), fun d => absurd d (by decide)⟩
  · rw [if_neg c]
    exact ⟨fun d => absurd rfl d, fun _ => zb_X9_noTicks_15 (R_fails hq (fun _ d => absurd d (by decide)) (fun _ _ => ⟨Or.inr rfl, h2 c⟩) (fun d => absurd h7 d))⟩
end
