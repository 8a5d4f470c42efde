/-! WHAT WAS DROPPED STAYS DROPPED; dropIn -/
/-- the accounts of drops only grow -/
def dm (w w' : Nat → Int32) (n : Nat) : Prop := ∀ i a, i < n → 2 ≤ a → a ≤ 4 → (w (sf i (18 + a))).toInt ≤ (w' (sf i (18 + a))).toInt
theorem dm.refl (w : Nat → Int32) (n : Nat) : dm w w n := fun _ _ _ _ _ => Int.le_refl _
theorem dm.trans {w w' w'' : Nat → Int32} {n : Nat} (h : dm w w' n) (g : dm w' w'' n) : dm w w'' n := fun i a h1 h2 h3 => Int.le_trans (h i a h1 h2 h3) (g i a h1 h2 h3)
theorem dm.of {w w' : Nat → Int32} {n : Nat} (h : ∀ i a, i < n → 2 ≤ a → a ≤ 4 → w' (sf i (18 + a)) = w (sf i (18 + a))) : dm w w' n := fun i a h1 h2 h3 => by rw [h i a h1 h2 h3]; exact Int.le_refl _
theorem drops_dm {w : Nat → Int32} {i a n : Nat} (hi : i < 6) (ha : 1 ≤ a ∧ a ≤ 4) (hb : (w (sf i (18 + a))).toInt ≤ 300000000) : dm w (sp_drops w i a) n := by
  intro i0 a0 h1 h2 h3
  unfold sp_drops
  rw [zup_ne _ _ (by (first | omega | (simp only [sf, sq, sd] at *; omega)))]
  by_cases c : sf i0 (18 + a0) = sf i (18 + a)
  · rw [c, sp_counts_eq]
    have := ti_rng (w (sf i (18 + a)))
    rw [ti_add (by rw [ti_1]; omega), ti_1]
    omega
  · rw [sp_counts_ne c]
    exact Int.le_refl _
theorem arr_dm {w : Nat → Int32} {p : Bool} {n A S T i : Nat} (h : OK w n A S T) (hA : A < 300000000) (hi : i < n) : dm w (sp_arr w p i).2 n := by
  have hn := h.nf.2
  have h40 := h.q40
  have hq := h.nq
  have hf := h.fl i hi
  have ar := hf.ar
  have a0 := hf.a0
  have a8 : 0 ≤ (sp_a2 w i 8).toInt ∧ (sp_a2 w i 8).toInt ≤ 40 := by rw [sp_a2_ne (by omega) (by (first | omega | (simp only [sf, sq, sd] at *; omega)))]; omega
  have b8 : 0 ≤ ((sp_bt (sp_a2 w i) i).2 8).toInt ∧ ((sp_bt (sp_a2 w i) i).2 8).toInt ≤ 40 := by rw [sp_bt_ne (by omega) (by omega) (by omega) (by omega)]; exact a8
  have li : ∀ (v : Nat → Int32) (x m : Int32), 0 ≤ (v 8).toInt ∧ (v 8).toInt ≤ 40 → dm v (sp_letsIn v x m) n := fun v x m h8 => dm.of fun i0 a0 h1 h2 h3 => letsIn_ne (N := (v 8).toInt.toNat) (Int.toNat_of_nonneg h8.1).symm (by (first | omega | (simp only [sf, sq, sd] at *; omega))) (by (first | omega | (simp only [sf, sq, sd] at *; omega)))
  have d0 : dm w (sp_a2 w i) n := dm.of fun i0 a0 h1 h2 h3 => sp_a2_ne (by (first | omega | (simp only [sf, sq, sd] at *; omega))) (by (first | omega | (simp only [sf, sq, sd] at *; omega)))
  have d1 : dm w (sp_bt (sp_a2 w i) i).2 n := d0.trans (dm.of fun i0 a0 h1 h2 h3 => sp_bt_ne (by (first | omega | (simp only [sf, sq, sd] at *; omega))) (by (first | omega | (simp only [sf, sq, sd] at *; omega))) (by (first | omega | (simp only [sf, sq, sd] at *; omega))) (by (first | omega | (simp only [sf, sq, sd] at *; omega))))
  have k0 : ∀ v f how count chance draw came, dm w (sp_keeps (zup (sp_a2 w i) 10 v) f how count chance draw came) n := fun v f how count chance draw came => d0.trans (dm.of fun i0 a0 h1 h2 h3 => by rw [sp_keeps_ne (by (first | omega | (simp only [sf, sq, sd] at *; omega))) (by (first | omega | (simp only [sf, sq, sd] at *; omega))), zup_ne _ _ (by (first | omega | (simp only [sf, sq, sd] at *; omega)))])
  have ba : ∀ a, 1 ≤ a → a ≤ 4 → (w (sf i (18 + a))).toInt ≤ 300000000 := fun a h1 h2 => by
    have e : a = 1 ∨ a = 2 ∨ a = 3 ∨ a = 4 := by omega
    rcases e with rfl | rfl | rfl | rfl
    · show (w (sf i 19)).toInt ≤ _
      omega
    · show (w (sf i 20)).toInt ≤ _
      omega
    · show (w (sf i 21)).toInt ≤ _
      omega
    · show (w (sf i 22)).toInt ≤ _
      omega
  unfold sp_arr
  dsimp only
  split
  · exact d0.trans (li _ _ _ a8)
  · split
    · split
      · exact d1.trans (drops_dm (by omega) (by omega) (by rw [sp_bt_ne (by (first | omega | (simp only [sf, sq, sd] at *; omega))) (by (first | omega | (simp only [sf, sq, sd] at *; omega))) (by (first | omega | (simp only [sf, sq, sd] at *; omega))) (by (first | omega | (simp only [sf, sq, sd] at *; omega))), sp_a2_ne (by (first | omega | (simp only [sf, sq, sd] at *; omega))) (by (first | omega | (simp only [sf, sq, sd] at *; omega)))]; exact ba 2 (by omega) (by omega)))
      · split
        · exact d1.trans ((drops_dm (a := 1) (by omega) (by omega) (by rw [sp_bt_ne (by (first | omega | (simp only [sf, sq, sd] at *; omega))) (by (first | omega | (simp only [sf, sq, sd] at *; omega))) (by (first | omega | (simp only [sf, sq, sd] at *; omega))) (by (first | omega | (simp only [sf, sq, sd] at *; omega))), sp_a2_ne (by (first | omega | (simp only [sf, sq, sd] at *; omega))) (by (first | omega | (simp only [sf, sq, sd] at *; omega)))]; exact ba 1 (by omega) (by omega))).trans (li _ _ _ (by rw [sp_drops_ne (by (first | omega | (simp only [sf, sq, sd] at *; omega))) (by (first | omega | (simp only [sf, sq, sd] at *; omega)))]; exact b8)))
        · exact d1.trans (li _ _ _ b8)
    · split
      · exact (k0 _ _ _ _ _ _ _).trans (li _ _ _ (by rw [sp_keeps_ne (by omega) (by omega), zup_ne _ _ (by omega)]; exact a8))
      · refine (k0 _ _ _ _ _ _ _).trans (drops_dm (by omega) (by split <;> omega) ?_)
        rw [sp_keeps_ne (by split <;> (first | omega | (simp only [sf, sq, sd] at *; omega))) (by split <;> (first | omega | (simp only [sf, sq, sd] at *; omega))), zup_ne _ _ (by split <;> (first | omega | (simp only [sf, sq, sd] at *; omega))), sp_a2_ne (by split <;> (first | omega | (simp only [sf, sq, sd] at *; omega))) (by split <;> (first | omega | (simp only [sf, sq, sd] at *; omega)))]
        exact ba _ (by split <;> omega) (by split <;> omega)
theorem many_dm {w : Nat → Int32} {p : Bool} {n A S T i : Nat} (h : OK w n A S T) (hi : i < n) : ∀ k, A + k ≤ 300000000 → dm w (sp_many w p i k).2 n
  | 0, _ => dm.refl w n
  | k + 1, hk => (many_dm h hi k (by omega)).trans (arr_dm (h.many hi k (by omega)) (by omega) hi)
theorem flows_dm {w : Nat → Int32} {p : Bool} {n A S T : Nat} (h : OK w n A S T) : ∀ k, k ≤ n → A + 9 * k ≤ 300000000 → dm w (sp_flows w p k) n
  | 0, _, _ => dm.refl w n
  | k + 1, hk, hA => by
    have hn := h.nf.2
    have ih := flows_dm (p := p) h k (by omega) (by omega)
    have o := h.flows (p := p) k (by omega) (by omega)
    unfold sp_flows
    split
    · unfold sp_sends
      obtain ⟨oa, a1, a2⟩ := o.adapt (i := k) (by omega)
      exact (ih.trans (dm.of fun i0 a0 h1 h2 h3 => sp_adapt_ne (by (first | omega | (simp only [sf, sq, sd] at *; omega))) (by (first | omega | (simp only [sf, sq, sd] at *; omega))) (by (first | omega | (simp only [sf, sq, sd] at *; omega))))).trans (many_dm oa (by omega) _ (by omega))
    · exact ih
theorem leaves_dm {w : Nat → Int32} {n : Nat} (hn : n ≤ 6) (hq : ∀ k j : Nat, (w (sq k 0)).toInt.toNat = j → True) : ∀ k : Nat, dm w (sp_leaves w k) n
  | 0 => dm.refl w n
  | k + 1 => (leaves_dm hn hq k).trans (dm.of fun i0 a0 h1 h2 h3 => by
      show sp_leave (sp_leaves w k) k _ = _
      exact sp_leave_ne (by (first | omega | (simp only [sf, sq, sd] at *; omega))) (by (first | omega | (simp only [sf, sq, sd] at *; omega))) (by (first | omega | (simp only [sf, sq, sd] at *; omega))))
theorem pass_dm {w : Nat → Int32} {p : Bool} {n A S T : Nat} (h : OK w n A S T) (hA : A + 54 ≤ 300000000) (hS : S + 40 ≤ 200000) (hT : T < 10400) : dm w (sp_pass w p) n := by
  have hn := h.nf
  unfold sp_pass
  rw [show (w 11).toInt.toNat = n by omega]
  have h1 := h.tick (by omega)
  have e := flows_dm (p := p) h1 n (Nat.le_refl _) (by omega)
  have e0 : dm w (zup w 7 (w 7 + 1)) n := dm.of fun i0 a0 h1 h2 h3 => zup_ne _ _ (by (first | omega | (simp only [sf, sq, sd] at *; omega)))
  refine (e0.trans e).trans ?_
  generalize sp_flows (zup w 7 (w 7 + 1)) p n = w2 at *
  refine (leaves_dm (by omega) (fun _ _ _ => trivial) (sp_nl w2).toInt.toNat).trans (dm.of fun i0 a0 h1 h2 h3 => ?_)
  unfold sp_rest
  have e1 : ∀ m, sp_slide (sp_out w2) m (172 + 3 * (sp_out w2 8).toInt.toNat) (sf i0 (18 + a0)) = sp_leaves w2 (sp_nl w2).toInt.toNat (sf i0 (18 + a0)) := fun m => (if_neg (by (first | omega | (simp only [sf, sq, sd] at *; omega)))).trans (by unfold sp_out; exact zup_ne _ _ (by (first | omega | (simp only [sf, sq, sd] at *; omega))))
  split
  · rw [zup_ne _ _ (by (first | omega | (simp only [sf, sq, sd] at *; omega))), e1]
  · rw [e1]
theorem passes_dm {w : Nat → Int32} {p : Bool} {n A S T : Nat} (h : OK w n A S T) : ∀ k, A + 54 * k ≤ 300000000 → S + 9 * k + 40 ≤ 200000 → T + k ≤ 10400 → dm w (sp_passes w p k) n
  | 0, _, _, _ => dm.refl w n
  | k + 1, hA, hS, hT => (passes_dm h k (by omega) (by omega) (by omega)).trans (pass_dm (h.passes k (by omega) (by omega) (by omega)) (by omega) (by omega) (by omega))
theorem sm_dm {w w' : Nat → Int32} {n a : Nat} (h : dm w w' n) (h1 : 2 ≤ a) (h2 : a ≤ 4) : ∀ k, k ≤ n → sm w a k ≤ sm w' a k
  | 0, _ => Int.le_refl _
  | k + 1, hk => by
    show sm w a k + _ ≤ sm w' a k + _
    have := sm_dm h h1 h2 k (by omega)
    have := h k a (by omega) h1 h2
    omega
theorem drp_dm {w w' : Nat → Int32} {n A S T A' S' T' : Nat} (h : OK w n A S T) (hb : sBnd A S) (h' : OK w' n A' S' T') (hb' : sBnd A' S') (g : dm w w' n) : (sp_drp w n).toInt ≤ (sp_drp w' n).toInt := by
  rw [(h.drp hb).1, (h'.drp hb').1]
  have := sm_dm g (a := 2) (by omega) (by omega) n (Nat.le_refl _)
  have := sm_dm g (a := 3) (by omega) (by omega) n (Nat.le_refl _)
  have := sm_dm g (a := 4) (by omega) (by omega) n (Nat.le_refl _)
  omega
section
variable {l : Launch} {G : zG} {M : zM} {A : Nat}
/-- the first tick, from i on, behind which D is not z -/
def dpF (D : Nat → Int32) (z : Int32) : Nat → Nat → Int32
  | 0, _ => -1
  | d + 1, i => if D (i + 1) = z then dpF D z d (i + 1) else nI (i + 1)
theorem P_dropIn (hI : Inv M A) (hA : A ≤ 299000000) :
    zCalI l G Y_X8_dropIn 0 0 [vr 0 0] M (fun x M1 => zCalI l G Y_X9_dropIn 0 0 [vr 30 0] M1 (fun y M2 => y = x ∧ Good A 0 M2)) := by
  obtain ⟨n, hR, hO⟩ := hI.1
  have ht := hO.tim
  obtain ⟨w, hw⟩ : ∃ w, zmI M 31 0 = w := ⟨_, rfl⟩
  rw [hw] at hO hR ht
  have hn := hO.nf
  have oP : ∀ j : Nat, j ≤ 200 → OK (sp_passes w false j) n (A + 54 * j) (9 * (w 7).toInt.toNat + 9 * j) (9999 + j) := fun j hj => hO.passes j (by omega) (by omega) (by omega)
  have mono : ∀ j : Nat, j ≤ 200 → (sp_drp w n).toInt ≤ (sp_drp (sp_passes w false j) n).toInt := fun j hj => drp_dm hO ⟨by omega, by omega⟩ (oP j hj) ⟨by omega, by omega⟩ (passes_dm hO j (by omega) (by omega) (by omega))
  have c200 : (200 : Int32).toInt = 200 := rfl
  -- what both answer, from the tick j on
  obtain ⟨ans, hans0, hansS⟩ : ∃ ans : Nat → Int32, ans 200 = (-1) ∧ ∀ j, j < 200 → ans j = if sp_drp (sp_passes w false (j + 1)) n = sp_drp w n then ans (j + 1) else nI (j + 1) := by
    refine ⟨fun j => dpF (fun j => sp_drp (sp_passes w false j) n) (sp_drp w n) (200 - j) j, ?_, fun j hj => ?_⟩
    · show dpF _ _ (200 - 200) 200 = -1
      rw [Nat.sub_self]
      rfl
    · show dpF (fun j => sp_drp (sp_passes w false j) n) (sp_drp w n) (200 - j) j = (if sp_drp (sp_passes w false (j + 1)) n = sp_drp w n then dpF (fun j => sp_drp (sp_passes w false j) n) (sp_drp w n) (200 - (j + 1)) (j + 1) else nI (j + 1))
      obtain ⟨d, hd⟩ : ∃ d, 200 - j = d + 1 := ⟨200 - j - 1, by omega⟩
      rw [hd, show 200 - (j + 1) = d by omega]
      rfl
  have ref : ∀ M1 : zM, zFr 2 M M1 → zCalI l G Y_X9_dropIn 0 0 [vr 30 0] M1 (fun y M2 => y = ans 0 ∧ Good A 0 M2) := by
    intro M1 hF
    have e1 : zmI M1 31 0 = w := (ahead_31 hF).trans hw
    have hI1 := hI.ahead hF
    have e32 : ∀ j, zmI (zsIr (zsIr (zsI M1 30 0 7 0) 32 0 (sp_lay (zmI M1 31 0) (zmI M1 32 0) 0 0)) 31 0 (sp_passes w false j)) 31 0 = sp_passes w false j := fun j => zsI1 _ _ _ _
    -- the end: at 41 with n, where the tick's drops are known
    have fin : ∀ j : Nat, j ≤ 200 → ∀ y : Int32, y.toInt = j → (sp_drp (sp_passes w false j) n = sp_drp w n → ans 0 = -1) → (¬ sp_drp (sp_passes w false j) n = sp_drp w n → ans 0 = y) → zAt l G Y_X9_dropIn (zEI G Y_X9_dropIn (fun y M2 => y = ans 0 ∧ Good A 0 M2)) 41 [(0, vr 30 0), (1, vi (sp_drp w n)), (2, vi y)] [] (zsIr (zsIr (zsI M1 30 0 7 0) 32 0 (sp_lay (zmI M1 31 0) (zmI M1 32 0) 0 0)) 31 0 (sp_passes w false j)) 0 0 := by
      intro j hj y hy h1 h2
      refine zb_X9_dropIn_41 (R_dropped (n := n) (by rw [e32]; exact (oP j hj).nf.1) (by omega) ?_)
      rw [e32]
      refine ⟨fun c => zb_X9_dropIn_55 (R_back ⟨(h2 c).symm, Good.bk hI1 (sp_passes w false j)⟩), fun c => zb_X9_dropIn_55 (R_back ⟨(h1 c).symm, Good.bk hI1 (sp_passes w false j)⟩)⟩
    have key : ∀ d j : Nat, j + d = 200 → ∀ y : Int32, y.toInt = j → ans 0 = (if sp_drp (sp_passes w false j) n = sp_drp w n then ans j else y) → zAt l G Y_X9_dropIn (zEI G Y_X9_dropIn (fun y M2 => y = ans 0 ∧ Good A 0 M2)) 16 [(0, vr 30 0), (1, vi (sp_drp w n)), (2, vi y)] [] (zsIr (zsIr (zsI M1 30 0 7 0) 32 0 (sp_lay (zmI M1 31 0) (zmI M1 32 0) 0 0)) 31 0 (sp_passes w false j)) 0 0 := by
      intro d
      induction d with
      | zero =>
        intro j hj y hy ha
        refine zb_X9_dropIn_16 ⟨fun _ => fin j (by omega) y hy (fun c => by rw [ha, if_pos c, show j = 200 by omega]; exact hans0) (fun c => by rw [ha, if_neg c]), fun c => ?_⟩
        exfalso
        rw [ti_le, c200] at c
        omega
      | succ d ih =>
        intro j hj y hy ha
        have op := oP j (by omega)
        refine zb_X9_dropIn_16 ⟨fun c => ?_, fun _ => R_dropped (n := n) (by rw [e32]; exact op.nf.1) (by omega) ?_⟩
        · exfalso
          rw [ti_le, c200] at c
          omega
        · rw [e32]
          refine ⟨fun c => fin j (by omega) y hy (fun g => absurd g c) (fun _ => by rw [ha, if_neg c]), fun c => R_pass (plain := false) (by rw [e32]; exact op) ?_ (by omega) (by omega) (by omega) ?_⟩
          · rw [show zmI (zsIr (zsIr (zsI M1 30 0 7 0) 32 0 (sp_lay (zmI M1 31 0) (zmI M1 32 0) 0 0)) 31 0 (sp_passes w false j)) 30 0 = zmI (zsI M1 30 0 7 0) 30 0 from (zsIo _ _ _ _ _ _ (by omega)).trans (zsIo _ _ _ _ _ _ (by omega))]
            exact z8_0 hI1.2.1
          · rw [e32, zsI2]
            refine ih (j + 1) (by omega) (y + 1) (ti_inc hy (by omega)) ?_
            rw [ha, if_pos c, hansS j (by omega)]
            have : y + 1 = nI (j + 1) := nI_ofT (ti_inc hy (by omega))
            rw [this]
    refine zm_X9_dropIn (R_aside ?_)
    have e31' : zmI (zsIr (zsI M1 30 0 7 0) 32 0 (sp_lay (zmI (zsI M1 30 0 7 0) 31 0) (zmI (zsI M1 30 0 7 0) 32 0) 0 0)) 31 0 = w := by
      rw [← e1]
      exact (zsIo _ _ _ _ _ _ (by omega)).trans (zsIo _ _ _ _ _ _ (by omega))
    refine R_dropped (n := n) (by rw [e31']; exact hn.1) hn.2 ?_
    rw [e31']
    have k0 := key 200 0 (by omega) 0 rfl (by rw [if_pos (show sp_drp (sp_passes w false 0) n = sp_drp w n from rfl)])
    have e2 : zsIr (zsIr (zsI M1 30 0 7 0) 32 0 (sp_lay (zmI M1 31 0) (zmI M1 32 0) 0 0)) 31 0 (sp_passes w false 0) = zsIr (zsI M1 30 0 7 0) 32 0 (sp_lay (zmI (zsI M1 30 0 7 0) 31 0) (zmI (zsI M1 30 0 7 0) 32 0) 0 0) := by
      have e3 : sp_passes w false 0 = (zsIr (zsI M1 30 0 7 0) 32 0 (sp_lay (zmI M1 31 0) (zmI M1 32 0) 0 0)).1 31 0 := by
        rw [zsIo _ _ _ _ _ _ (by omega)]
        exact (e1.symm).trans (z31_thr M1 0).symm
      rw [e3, zsI0, z31_thr]
      rfl
    rw [e2] at k0
    exact k0
  have key : ∀ d j : Nat, j + d = 200 → ∀ (y : Int32) (M2 : zM), y.toInt = ((j + 1 : Nat) : Int) → zFr 2 M M2 → Rel M2 2 (sp_passes w false j) true → ans 0 = ans j → zAt l G Y_X8_dropIn (zEI G Y_X8_dropIn (fun x M1 => zCalI l G Y_X9_dropIn 0 0 [vr 30 0] M1 (fun y M2 => y = x ∧ Good A 0 M2))) 21 [(0, vr 0 0), (1, vl (sp_drp w n).toInt64), (3, vi y)] [] M2 0 0 := by
    intro d
    induction d with
    | zero =>
      intro j hj y M2 hy hF hR2 ha
      refine zb_X8_dropIn_21 ⟨fun _ => ?_, fun c => ?_⟩
      · have h0 : ans 0 = -1 := by rw [ha, show j = 200 by omega]; exact hans0
        rw [← h0]
        exact ref M2 hF
      · exfalso
        rw [ti_lt, c200] at c
        omega
    | succ d ih =>
      intro j hj y M2 hy hF hR2 ha
      refine zb_X8_dropIn_21 ⟨fun c => ?_, fun _ => C_pass (oP j (by omega)) hR2 (by omega) (by omega) (by omega) fun M3 hF3 hR3 => C_dropped (oP (j + 1) (by omega)) ⟨by omega, by omega⟩ hR3 ?_⟩
      · exfalso
        rw [ti_lt, c200] at c
        omega
      · have hm := mono (j + 1) (by omega)
        have hF4 := hF.trans hF3
        rw [lg_cmp_le]
        rw [tl_le, tl_32, tl_32]
        refine ⟨fun c => ih (j + 1) (by omega) (y + 1) M3 (ti_inc hy (by omega)) hF4 hR3 ?_, fun c => ?_⟩
        · rw [ha, hansS j (by omega), if_pos (ti_eq.mpr (by omega))]
        · have h0 : ans 0 = y := by
            rw [ha, hansS j (by omega), if_neg (fun e => c (by rw [e]; exact Int.le_refl _))]
            exact (nI_ofT hy).symm
          rw [← h0]
          exact ref M3 hF4
  refine zm_X8_dropIn (C_copy hO hR (by decide) fun M0 f0 r0 => ?_)
  have r1 : Rel M0 1 w true := hR.other (by omega) (by decide) f0
  exact C_dropped hO ⟨by omega, by omega⟩ r1 (key 200 0 (by omega) 1 M0 rfl f0 r0 rfl)
end
