/-! NOTHING BEHIND 484 CHANGES: so what is laid aside comes back whole -/
theorem keeps_ge {w : Nat → Int32} {j : Nat} {f how count chance draw came : Int32} (h : 0 ≤ (w 12).toInt ∧ (w 12).toInt ≤ 24) (hj : 484 ≤ j) : sp_keeps w f how count chance draw came j = w j := by
  have k1 : ∀ (y : Nat → Int32) (n : Nat), n < 24 → sp_keep1 y n f how count chance draw came j = y j := fun y n hn => by
    unfold sp_keep1
    rw [zup_ne _ _ (by omega), zup_ne _ _ (by (first | omega | (simp only [sf, sq, sd] at *; omega))), zup_ne _ _ (by (first | omega | (simp only [sf, sq, sd] at *; omega))), zup_ne _ _ (by (first | omega | (simp only [sf, sq, sd] at *; omega))), zup_ne _ _ (by (first | omega | (simp only [sf, sq, sd] at *; omega))), zup_ne _ _ (by (first | omega | (simp only [sf, sq, sd] at *; omega))), zup_ne _ _ (by (first | omega | (simp only [sf, sq, sd] at *; omega))), zup_ne _ _ (by (first | omega | (simp only [sf, sq, sd] at *; omega))), zup_ne _ _ (by (first | omega | (simp only [sf, sq, sd] at *; omega)))]
  unfold sp_keeps
  by_cases c : w 12 = 24
  · rw [if_pos c, k1 _ 23 (by omega), zup_ne _ _ (by omega)]
    exact if_neg (by omega)
  · have c2 : (w 12).toInt ≠ 24 := fun e => c (ti_eq.mpr e)
    rw [if_neg c, k1 _ _ (by omega)]
theorem letsIn_ge {w : Nat → Int32} {p m : Int32} {j : Nat} (h : 0 ≤ (w 8).toInt ∧ (w 8).toInt ≤ 40) (hj : 484 ≤ j) : sp_letsIn w p m j = w j :=
  letsIn_ne (N := (w 8).toInt.toNat) (Int.toNat_of_nonneg h.1).symm (by omega) (by (first | omega | (simp only [sf, sq, sd] at *; omega)))
theorem drops_ge {w : Nat → Int32} {i a j : Nat} (hi : i < 6) (ha : a < 8) (hj : 484 ≤ j) : sp_drops w i a j = w j := sp_drops_ne (by (first | omega | (simp only [sf, sq, sd] at *; omega))) (by (first | omega | (simp only [sf, sq, sd] at *; omega)))
theorem bt_ge {w : Nat → Int32} {i j : Nat} (h : 0 ≤ (w 12).toInt ∧ (w 12).toInt ≤ 24) (hj : 484 ≤ j) : (sp_bt w i).2 j = w j := by
  unfold sp_bt
  dsimp only
  rw [keeps_ge ?_ hj]
  · split
    · rw [zup_ne _ _ (by omega)]
      unfold sp_draw
      rw [zup_ne _ _ (by omega), zup_ne _ _ (by omega)]
    · unfold sp_draw
      rw [zup_ne _ _ (by omega), zup_ne _ _ (by omega)]
  · split
    · rw [zup_ne _ _ (by omega)]
      unfold sp_draw
      rw [zup_ne _ _ (by omega), zup_ne _ _ (by omega)]
      exact h
    · unfold sp_draw
      rw [zup_ne _ _ (by omega), zup_ne _ _ (by omega)]
      exact h
theorem arr_ge {w : Nat → Int32} {p : Bool} {n A S T i j : Nat} (h : OK w n A S T) (hi : i < n) (hj : 484 ≤ j) : (sp_arr w p i).2 j = w j := by
  have hn := h.nf.2
  have h40 := h.q40
  have hq := h.nq
  have a2 : sp_a2 w i j = w j := sp_a2_ne (by omega) (by (first | omega | (simp only [sf, sq, sd] at *; omega)))
  have a8 : 0 ≤ (sp_a2 w i 8).toInt ∧ (sp_a2 w i 8).toInt ≤ 40 := by rw [sp_a2_ne (by omega) (by (first | omega | (simp only [sf, sq, sd] at *; omega)))]; omega
  have a12 : 0 ≤ (sp_a2 w i 12).toInt ∧ (sp_a2 w i 12).toInt ≤ 24 := by rw [sp_a2_ne (by omega) (by (first | omega | (simp only [sf, sq, sd] at *; omega)))]; exact h.nd
  have bt : (sp_bt (sp_a2 w i) i).2 j = w j := by rw [bt_ge a12 hj, a2]
  have b8 : 0 ≤ ((sp_bt (sp_a2 w i) i).2 8).toInt ∧ ((sp_bt (sp_a2 w i) i).2 8).toInt ≤ 40 := by rw [sp_bt_ne (by omega) (by omega) (by omega) (by omega)]; exact a8
  have z12 : ∀ v : Int32, 0 ≤ (zup (sp_a2 w i) 10 v 12).toInt ∧ (zup (sp_a2 w i) 10 v 12).toInt ≤ 24 := fun v => by rw [zup_ne _ _ (by omega)]; exact a12
  unfold sp_arr
  dsimp only
  split
  · dsimp only
    rw [letsIn_ge a8 hj, a2]
  · split
    · split
      · dsimp only
        rw [drops_ge (by omega) (by omega) hj, bt]
      · split
        · dsimp only
          rw [letsIn_ge (by rw [sp_drops_ne (by (first | omega | (simp only [sf, sq, sd] at *; omega))) (by (first | omega | (simp only [sf, sq, sd] at *; omega)))]; exact b8) hj, drops_ge (by omega) (by omega) hj, bt]
        · dsimp only
          rw [letsIn_ge b8 hj, bt]
    · split
      · dsimp only
        rw [letsIn_ge (by rw [sp_keeps_ne (by omega) (by omega), zup_ne _ _ (by omega)]; exact a8) hj, keeps_ge (z12 _) hj, zup_ne _ _ (by omega), a2]
      · dsimp only
        rw [drops_ge (by omega) (by split <;> omega) hj, keeps_ge (z12 _) hj, zup_ne _ _ (by omega), a2]
theorem many_ge {w : Nat → Int32} {p : Bool} {n A S T i j : Nat} (h : OK w n A S T) (hi : i < n) (hj : 484 ≤ j) : ∀ k, A + k ≤ 300000000 → (sp_many w p i k).2 j = w j
  | 0, _ => rfl
  | k + 1, hk => by
    show (sp_arr (sp_many w p i k).2 p i).2 j = w j
    rw [arr_ge (h.many hi k (by omega)) hi hj, many_ge h hi hj k (by omega)]
theorem flows_ge {w : Nat → Int32} {p : Bool} {n A S T j : Nat} (h : OK w n A S T) (hj : 484 ≤ j) : ∀ k, k ≤ n → A + 9 * k ≤ 300000000 → sp_flows w p k j = w j
  | 0, _, _ => rfl
  | k + 1, hk, hA => by
    have hn := h.nf.2
    have ih := flows_ge (p := p) h hj k (by omega) (by omega)
    have o := h.flows (p := p) k (by omega) (by omega)
    unfold sp_flows
    split
    · unfold sp_sends
      obtain ⟨oa, a1, a2⟩ := o.adapt (i := k) (by omega)
      rw [many_ge oa (by omega) hj _ (by omega), sp_adapt_ne (by (first | omega | (simp only [sf, sq, sd] at *; omega))) (by (first | omega | (simp only [sf, sq, sd] at *; omega))) (by (first | omega | (simp only [sf, sq, sd] at *; omega))), ih]
    · exact ih
theorem pass_ge {w : Nat → Int32} {p : Bool} {n A S T j : Nat} (h : OK w n A S T) (hA : A + 54 ≤ 300000000) (hS : S + 40 ≤ 200000) (hT : T < 10400) (hj : 484 ≤ j) : sp_pass w p j = w j := by
  have hn := h.nf
  unfold sp_pass
  rw [show (w 11).toInt.toNat = n by omega]
  have h1 := h.tick (by omega)
  have h2 := (h1.flows (p := p) n (Nat.le_refl _) (by omega)).mono (show A + 9 * n ≤ A + 54 by omega) (Nat.le_refl S) (Nat.le_refl (T + 1))
  have e := flows_ge (p := p) h1 hj n (Nat.le_refl _) (by omega)
  rw [zup_ne _ _ (by omega)] at e
  generalize sp_flows (zup w 7 (w 7 + 1)) p n = w2 at *
  have hm := sp_nl_q h2
  have h40 := h2.q40
  obtain ⟨q1, q⟩ := sp_leaves_q h2 hS (by omega) (sp_nl w2).toInt.toNat (by omega)
  have o8 : (sp_out w2 8).toInt ≤ 40 := by
    unfold sp_out
    rw [zup_self, q 8 (by omega), ti_sub (by omega)]
    omega
  have e1 : ∀ m, sp_slide (sp_out w2) m (172 + 3 * (sp_out w2 8).toInt.toNat) j = sp_out w2 j := fun m => if_neg (by omega)
  have e2 : sp_out w2 j = w2 j := by
    unfold sp_out
    rw [zup_ne _ _ (by omega), q j (by omega)]
  unfold sp_rest
  split
  · rw [zup_ne _ _ (by omega), e1, e2, e]
  · rw [e1, e2, e]
theorem passes_ge {w : Nat → Int32} {p : Bool} {n A S T j : Nat} (h : OK w n A S T) (hj : 484 ≤ j) : ∀ k, A + 54 * k ≤ 300000000 → S + 9 * k + 40 ≤ 200000 → T + k ≤ 10400 → sp_passes w p k j = w j
  | 0, _, _, _ => rfl
  | k + 1, hA, hS, hT => by
    show sp_pass (sp_passes w p k) p j = w j
    rw [pass_ge (h.passes k (by omega) (by omega) (by omega)) (by omega) (by omega) (by omega) hj, passes_ge h hj k (by omega) (by omega) (by omega)]
/-- laid aside and back -/
theorem lay_back {w o v : Nat → Int32} (h : ∀ j, 484 ≤ j → v j = w j) : sp_lay (sp_lay w o 0 0) v 0 0 = w := by
  funext k
  by_cases hk : k < 484
  · rw [lay_0 _ _ hk, lay_0 _ _ hk]
  · unfold sp_lay
    rw [if_neg (by omega)]
    exact h k (by omega)
section
variable {l : Launch} {G : zG} {M : zM} {A : Nat} {w : Nat → Int32} {e : Bool}
/-- the class counts the drops behind some ticks ahead -/
theorem C_behind {n S T k : Nat} {p : Int32} {Kf : Int64 → zM → Prop} (hO : OK w n A S T) (hR : Rel M 2 w e) (hp : p.toInt = k) (hA : A + 54 * k ≤ 300000000) (hS : S + 9 * k + 40 ≤ 190000) (hT : T + k ≤ 10400)
    (h : ∀ M', zFr 2 M M' → Kf (sp_drp (sp_passes w (!e) k) n).toInt64 M') : zCalL l G Y_X8_droppedBehind 0 0 [vr 0 0, vi p] M Kf := by
  have key : ∀ d j : Nat, j + d = k → ∀ (y : Int32) (M2 : zM), y.toInt = j → zFr 2 M M2 → Rel M2 2 (sp_passes w (!e) j) e → zAt l G Y_X8_droppedBehind (zEL G Y_X8_droppedBehind Kf) 2 [(0, vr 0 0), (1, vi p), (2, vi y)] [] M2 0 0 := by
    intro d
    induction d with
    | zero =>
      intro j hj y M2 hy hF hR2
      have hjk : j = k := by omega
      rw [hjk] at hR2
      refine zb_X8_droppedBehind_2 ⟨fun _ => C_dropped (hO.passes k (by omega) (by omega) (by omega)) ⟨by omega, by omega⟩ hR2 (h M2 hF), fun c => ?_⟩
      exfalso
      rw [ti_le] at c
      omega
    | succ d ih =>
      intro j hj y M2 hy hF hR2
      refine zb_X8_droppedBehind_2 ⟨fun c => ?_, fun _ => C_pass (hO.passes j (by omega) (by omega) (by omega)) hR2 (by omega) (by omega) (by omega) fun M3 hF3 hR3 => ih (j + 1) (by omega) (y + 1) M3 (ti_inc hy (by omega)) (hF.trans hF3) hR3⟩
      exfalso
      rw [ti_le] at c
      omega
  exact zm_X8_droppedBehind (key k 0 (by omega) 0 M rfl (zFr.refl 2 M) hR)
theorem R_droppedIn {n S T k : Nat} {p : Int32} {plain : Bool} {Kf : Int32 → zM → Prop} (hw : zmI M 31 0 = w) (hO : OK w n A S T) (h8 : zmI M 30 0 8 = if plain then 1 else 0) (hp : p.toInt = k) (hA : A + 54 * k ≤ 300000000) (hS : S + 9 * k + 40 ≤ 200000) (hT : T + k ≤ 10400)
    (h : Kf (sp_drp (sp_passes w plain k) n - sp_drp w n) (zsIr M 31 0 (sp_passes w plain k))) : zCalI l G Y_X9_droppedIn 0 0 [vr 30 0, vi p] M Kf := by
  have hn := hO.nf
  have op := hO.passes (p := plain) k hA hS hT
  refine zm_X9_droppedIn (R_dropped (n := n) (by rw [hw]; exact hn.1) hn.2 (R_passes (plain := plain) (k := k) (by rw [hw]; exact hO) h8 hp hA hS hT (R_dropped (n := n) (by rw [hw]; (simp only [zsI1, zsI2]); exact op.nf.1) hn.2 ?_)))
  rw [hw]
  (simp only [zsI1, zsI2])
  exact h
end
