section
variable {l : Launch} {G : zG} {M : zM}
theorem z3031' (M : zM) (f : Nat → Int32) : zmI (zsIr M 31 0 f) 30 0 8 = zmI M 30 0 8 := congrFun (z3031 M f) 8
theorem zsIn (M : zM) : zsIr M 31 0 (zmI M 31 0) = M := zsI0 M 31 0
theorem R_pass {n A S T : Nat} {plain : Bool} {Kf : zM → Prop} (hO : OK (zmI M 31 0) n A S T) (hp : zmI M 30 0 8 = if plain then 1 else 0) (hA : A + 54 ≤ 300000000) (hS : S + 40 ≤ 200000) (hT : T < 10400)
    (h : Kf (zsIr M 31 0 (sp_pass (zmI M 31 0) plain))) : zCalV l G Y_X9_passes 0 0 [vr 30 0] M Kf := by
  have hn := hO.nf
  have hnn : (zmI M 31 0 11).toInt.toNat = n := by omega
  unfold sp_pass at h
  dsimp only at h
  rw [hnn] at h
  have hO1 := hO.tick (by omega)
  have hO2 := (hO1.flows (p := plain) n (Nat.le_refl _) (by omega)).mono (show A + 9 * n ≤ A + 54 by omega) (Nat.le_refl S) (Nat.le_refl (T + 1))
  generalize hw1 : zup (zmI M 31 0) 7 (zmI M 31 0 7 + 1) = w1 at *
  have h11 : (w1 11).toInt = n := hO1.nf.1
  generalize hw2 : sp_flows w1 plain n = w2 at *
  have hm := sp_nl_q hO2
  have hq2 := hO2.nq
  have hl2 := hO2.lim
  obtain ⟨m, hm1⟩ : ∃ m : Nat, (sp_nl w2).toInt = m := ⟨_, (Int.toNat_of_nonneg hm.1).symm⟩
  have hm2 : (sp_nl w2).toInt.toNat = m := by omega
  rw [hm2] at h
  have o8 : (sp_out w2 8).toInt = (w2 8).toInt - m := by
    unfold sp_out
    rw [zup_self, hm2, (sp_leaves_q hO2 hS (by omega) m (by omega)).2 8 (by omega), ti_sub (by omega)]
    omega
  obtain ⟨N, hN⟩ : ∃ N : Nat, (sp_out w2 8).toInt = N := ⟨_, (Int.toNat_of_nonneg (by omega)).symm⟩
  have hN2 : (sp_out w2 8).toInt.toNat = N := by omega
  rw [hN2] at h
  -- the slide
  have slide : ∀ d j : Nat, j + d = 172 + 3 * N → 172 ≤ j → ∀ y : Int32, y.toInt = j → zAt l G Y_X9_passes (zEV G Y_X9_passes Kf) 93 [(0, vr 30 0), (1, vi (sp_nl w2)), (2, vi y)] [] (zsIr M 31 0 (sp_slide (sp_out w2) m j)) 0 0 := by
    intro d
    induction d with
    | zero =>
      intro j hj hj2 y hy
      have e8 : sp_slide (sp_out w2) m j 8 = sp_out w2 8 := if_neg (by omega)
      have hj3 : j = 172 + 3 * N := by omega
      have c0 : ((172 + (3 * (sp_slide (sp_out w2) m j 8))) : Int32).toInt = (j : Int) := by
        rw [e8, ti_add (by rw [ti_mul (by rw [hN, show (3 : Int32).toInt = 3 from rfl]; omega), hN, show (3 : Int32).toInt = 3 from rfl, show (172 : Int32).toInt = 172 from rfl]; omega), ti_mul (by rw [hN, show (3 : Int32).toInt = 3 from rfl]; omega), hN, show (3 : Int32).toInt = 3 from rfl, show (172 : Int32).toInt = 172 from rfl]
        omega
      unfold sp_rest at h
      rw [← hj3] at h
      refine zb_X9_passes_93 ⟨fun c => ⟨fun d => ?_, fun d => ?_⟩, fun c => ?_⟩
      · simp only [zsI1] at d
        rw [if_neg d] at h
        exact h
      · simp only [zsI1] at d
        (simp only [zsI1, zsI2])
        rw [if_pos d] at h
        exact h
      · exfalso
        simp only [zsI1] at c
        rw [ti_le, c0, hy] at c
        omega
    | succ d ih =>
      intro j hj hj2 y hy
      have e8 : sp_slide (sp_out w2) m j 8 = sp_out w2 8 := if_neg (by omega)
      have c0 : ((172 + (3 * (sp_slide (sp_out w2) m j 8))) : Int32).toInt = 172 + 3 * (N : Int) := by
        rw [e8, ti_add (by rw [ti_mul (by rw [hN, show (3 : Int32).toInt = 3 from rfl]; omega), hN, show (3 : Int32).toInt = 3 from rfl, show (172 : Int32).toInt = 172 from rfl]; omega), ti_mul (by rw [hN, show (3 : Int32).toInt = 3 from rfl]; omega), hN, show (3 : Int32).toInt = 3 from rfl, show (172 : Int32).toInt = 172 from rfl]
      have ey : (y + (3 * sp_nl w2)).toInt = (j + 3 * m : Nat) := by
        rw [ti_add (by rw [ti_mul (by rw [hm1, show (3 : Int32).toInt = 3 from rfl]; omega), hm1, show (3 : Int32).toInt = 3 from rfl, hy]; omega), ti_mul (by rw [hm1, show (3 : Int32).toInt = 3 from rfl]; omega), hm1, show (3 : Int32).toInt = 3 from rfl, hy]
        omega
      refine zb_X9_passes_93 ⟨fun c => ?_, fun c => ⟨ti_in (by rw [ey]; omega), ti_in (by rw [hy]; omega), ?_⟩⟩
      · exfalso
        simp only [zsI1] at c
        rw [ti_le, c0, hy] at c
        omega
      · rw [ti_at ey, ti_at hy]
        (simp only [zsI1, zsI2])
        have e : zup (sp_slide (sp_out w2) m j) j (sp_slide (sp_out w2) m j (j + 3 * m)) = sp_slide (sp_out w2) m (j + 1) := by
          funext k
          unfold zup sp_slide
          by_cases hk : k = j
          · rw [if_pos hk, if_neg (by omega), if_pos (by omega), hk]
          · rw [if_neg hk]
            by_cases hk2 : 172 ≤ k ∧ k < j
            · rw [if_pos hk2, if_pos (by omega)]
            · rw [if_neg hk2, if_neg (by omega)]
        rw [e]
        exact ih (j + 1) (by omega) (by omega) (y + 1) (ti_inc hy (by omega))
  -- those that leave
  have go : ∀ d j : Nat, j + d = m → ∀ y : Int32, y.toInt = j → zAt l G Y_X9_passes (zEV G Y_X9_passes Kf) 62 [(0, vr 30 0), (1, vi (sp_nl w2)), (2, vi y)] [] (zsIr M 31 0 (sp_leaves w2 j)) 0 0 := by
    intro d
    induction d with
    | zero =>
      intro j hj y hy
      refine zb_X9_passes_62 ⟨fun c => ?_, fun c => ?_⟩
      · have hs := slide (3 * N) 172 (by omega) (Nat.le_refl _) 172 rfl
        have e0 : sp_slide (sp_out w2) m 172 = sp_out w2 := by
          funext k
          exact if_neg (by omega)
        rw [e0] at hs
        (simp only [zsI1, zsI2])
        unfold sp_out at hs
        rw [hm2] at hs
        rw [show j = m by omega]
        exact hs
      · exfalso
        rw [ti_le] at c
        omega
    | succ d ih =>
      intro j hj y hy
      obtain ⟨g1, g2⟩ := sp_leaves_q hO2 hS (by omega) j (by omega)
      refine zb_X9_passes_62 ⟨fun c => ?_, fun c => ?_⟩
      · exfalso
        rw [ti_le] at c
        omega
      · refine R_leave (n := n) (A := A + 54) (S := S + j) (T := T + 1) (k := j) (by (simp only [zsI1, zsI2]); exact g1) hy (by (simp only [zsI1, zsI2]); rw [g2 8 (by omega)]; omega) ?_
        (simp only [zsI1, zsI2])
        exact ih (j + 1) (by omega) (y + 1) (ti_inc hy (by omega))
  -- those that send
  have sn : ∀ d j : Nat, j + d = n → ∀ y : Int32, y.toInt = j → zAt l G Y_X9_passes (zEV G Y_X9_passes Kf) 13 [(0, vr 30 0), (1, vi y)] [] (zsIr M 31 0 (sp_flows w1 plain j)) 0 0 := by
    intro d
    induction d with
    | zero =>
      intro j hj y hy
      refine zb_X9_passes_13 ⟨fun c => ?_, fun c => ?_⟩
      · (simp only [zsI1, zsI2])
        rw [show j = n by omega, hw2]
        exact go m 0 (by omega) 0 rfl
      · exfalso
        simp only [zsI1] at c
        have o := hO1.flows (p := plain) j (by omega) (by omega)
        rw [ti_le, o.nf.1] at c
        omega
    | succ d ih =>
      intro j hj y hy
      have o := hO1.flows (p := plain) j (by omega) (by omega)
      refine zb_X9_passes_13 ⟨fun c => ?_, fun c => ?_⟩
      · exfalso
        simp only [zsI1] at c
        rw [ti_le, o.nf.1] at c
        omega
      · have nx := ih (j + 1) (by omega) (y + 1) (ti_inc hy (by omega))
        unfold sp_flows at nx
        obtain rfl := nI_ofT hy
        refine R_now (by omega) (by (simp only [zsI1, zsI2]); exact (o.fl j (by omega)).per.1) ⟨fun c1 => zb_X9_passes_37 ?_, fun c1 => ?_⟩
        · simp only [zsI1] at c1
          have c2 : ¬ sp_now (sp_flows w1 plain j) j = true := fun e => by
            rw [if_pos e] at c1
            exact absurd c1 (by decide)
          rw [if_neg c2] at nx
          exact nx
        · simp only [zsI1] at c1
          have c2 : sp_now (sp_flows w1 plain j) j = true := Classical.byContradiction fun e => c1 (if_neg e)
          rw [if_pos c2] at nx
          refine R_sends (n := n) (A := A + 9 * j) (S := S) (T := T + 1) (plain := plain) (by (simp only [zsI1, zsI2]); exact o) (by omega) (by rw [z3031']; exact hp) (by omega) (zb_X9_passes_37 ?_)
          (simp only [zsI1, zsI2])
          exact nx
  refine zm_X9_passes ?_
  rw [show zsI M 31 0 7 (zmI M 31 0 7 + 1) = zsIr M 31 0 w1 from congrArg (zsIr M 31 0) hw1]
  exact sn n 0 (by omega) 0 rfl
theorem R_passes {n A S T k : Nat} {q : Int32} {plain : Bool} {Kf : zM → Prop} (hO : OK (zmI M 31 0) n A S T) (hp : zmI M 30 0 8 = if plain then 1 else 0) (hk : q.toInt = k) (hA : A + 54 * k ≤ 300000000) (hS : S + 9 * k + 40 ≤ 200000) (hT : T + k ≤ 10400)
    (h : Kf (zsIr M 31 0 (sp_passes (zmI M 31 0) plain k))) : zCalV l G Y_X9_passesMany 0 0 [vr 30 0, vi q] M Kf := by
  have key : ∀ d j : Nat, j + d = k → ∀ y : Int32, y.toInt = j → zAt l G Y_X9_passesMany (zEV G Y_X9_passesMany Kf) 2 [(0, vr 30 0), (1, vi q), (2, vi y)] [] (zsIr M 31 0 (sp_passes (zmI M 31 0) plain j)) 0 0 := by
    intro d
    induction d with
    | zero =>
      intro j hj y hy
      refine zb_X9_passesMany_2 ⟨fun _ => ?_, fun c => ?_⟩
      · rw [show j = k by omega]
        exact h
      · exfalso
        rw [ti_le] at c
        omega
    | succ d ih =>
      intro j hj y hy
      refine zb_X9_passesMany_2 ⟨fun c => ?_, fun _ => ?_⟩
      · exfalso
        rw [ti_le] at c
        omega
      · refine R_pass (n := n) (plain := plain) (by (simp only [zsI1, zsI2]); exact hO.passes j (by omega) (by omega) (by omega)) (by rw [z3031']; exact hp) (by omega) (by omega) (by omega) ?_
        (simp only [zsI1, zsI2])
        exact ih (j + 1) (by omega) (y + 1) (ti_inc hy (by omega))
  have k0 := key k 0 (by omega) 0 rfl
  change zAt l G _ _ _ _ _ (zsIr M 31 0 (zmI M 31 0)) _ _ at k0
  rw [zsIn] at k0
  exact zm_X9_passesMany k0
end
