/-! printed by wip/whole/drive.py -/

theorem dJ7_fill_d0a16_0 : decode cJ7_fill_d0a16 0 = .ok (.iconst 0, 1) := by decide +kernel
theorem dJ7_fill_d0a16_1 : decode cJ7_fill_d0a16 1 = .ok (.istore_n 3, 1) := by decide +kernel
theorem dJ7_fill_d0a16_2 : decode cJ7_fill_d0a16 2 = .ok (.aload_n 0, 1) := by decide +kernel
theorem dJ7_fill_d0a16_3 : decode cJ7_fill_d0a16 3 = .ok (.arraylength, 1) := by decide +kernel
theorem dJ7_fill_d0a16_4 : decode cJ7_fill_d0a16 4 = .ok (.istore 4, 2) := by decide +kernel
theorem dJ7_fill_d0a16_6 : decode cJ7_fill_d0a16 6 = .ok (.iload_n 3, 1) := by decide +kernel
theorem dJ7_fill_d0a16_7 : decode cJ7_fill_d0a16 7 = .ok (.iload 4, 2) := by decide +kernel
theorem dJ7_fill_d0a16_9 : decode cJ7_fill_d0a16 9 = .ok (.if_icmp .ge 13, 3) := by decide +kernel
theorem dJ7_fill_d0a16_12 : decode cJ7_fill_d0a16 12 = .ok (.aload_n 0, 1) := by decide +kernel
theorem dJ7_fill_d0a16_13 : decode cJ7_fill_d0a16 13 = .ok (.iload_n 3, 1) := by decide +kernel
theorem dJ7_fill_d0a16_14 : decode cJ7_fill_d0a16 14 = .ok (.lload_n 1, 1) := by decide +kernel
theorem dJ7_fill_d0a16_15 : decode cJ7_fill_d0a16 15 = .ok (.lastore, 1) := by decide +kernel
theorem dJ7_fill_d0a16_16 : decode cJ7_fill_d0a16 16 = .ok (.iinc 3 1, 3) := by decide +kernel
theorem dJ7_fill_d0a16_19 : decode cJ7_fill_d0a16 19 = .ok (.goto (-13), 3) := by decide +kernel
theorem dJ7_fill_d0a16_22 : decode cJ7_fill_d0a16 22 = .ok (.return_, 1) := by decide +kernel
-- J7_fill_d0a16
set_option maxRecDepth 100000 in
set_option maxHeartbeats 4000000 in
theorem zm_J7_fill_d0a16 {l : Launch} {G : zG} {p1 : Nat} {p2 : Int64} {M : zM} {Kf : zM → Prop} (h : zAt l G Y_J7_fill_d0a16 (zEV G Y_J7_fill_d0a16 Kf) 6 [(0, vr 18 p1), (1, vl p2), (3, vi 0), (4, vi 8)] [] M 0 0) : zCalV l G Y_J7_fill_d0a16 0 0 [vr 18 p1, vl p2] M Kf := by
  refine zCal_of (lv := [(0, vr 18 p1), (1, vl p2)]) (by decide) rfl (zle rfl) rfl (fun hv => zlv_args (lv := [(0, vr 18 p1), (1, vl p2)]) rfl hv) ?_
  refine Z_iconst (v := 0) (by decide) dJ7_fill_d0a16_0 ?_
  refine Z_istore_n (lv2 := [(3, vi 0), (0, vr 18 p1), (1, vl p2)]) dJ7_fill_d0a16_1 rfl (by decide) rfl ?_
  refine Z_aload_n dJ7_fill_d0a16_2 rfl 1 rfl ?_
  refine Z_alen (n := 8) (v := 8) rfl (by decide) (by decide) dJ7_fill_d0a16_3 ?_
  refine Z_istore (lv2 := [(4, vi 8), (3, vi 0), (0, vr 18 p1), (1, vl p2)]) dJ7_fill_d0a16_4 (by decide) rfl ?_
  exact Z_pick [2, 3, 1, 0] rfl h
set_option maxRecDepth 100000 in
set_option maxHeartbeats 4000000 in
theorem zb_J7_fill_d0a16_6 {l : Launch} {G : zG} {p1 : Nat} {y1 : Int64} {y3 : Int32} {y4 : Int32} {M : zM} {Kf : zM → Prop} (h : ((y4 ≤ y3 → (Kf M)) ∧ (¬ y4 ≤ y3 → (vp_in y3 8 ∧ zAt l G Y_J7_fill_d0a16 (zEV G Y_J7_fill_d0a16 Kf) 6 [(0, vr 18 p1), (1, vl y1), (3, vi (y3 + 1)), (4, vi y4)] [] (zsL M 18 p1 y3.toNatClampNeg y1) 0 0)))) : zAt l G Y_J7_fill_d0a16 (zEV G Y_J7_fill_d0a16 Kf) 6 [(0, vr 18 p1), (1, vl y1), (3, vi y3), (4, vi y4)] [] M 0 0 := by
  refine Z_iload_n dJ7_fill_d0a16_6 rfl 2 rfl ?_
  refine Z_iload dJ7_fill_d0a16_7 3 rfl ?_
  refine Z_icmp_ge (tgt := 22) dJ7_fill_d0a16_9 (by decide) (fun q => ?_) (fun q => ?_)
  · have h := h.1 q
    exact Z_vret rfl dJ7_fill_d0a16_22 (Nat.le_refl _) (Nat.le_refl _) ⟨rfl, h⟩
  · have h := h.2 q
    refine Z_aload_n dJ7_fill_d0a16_12 rfl 0 rfl ?_
    refine Z_iload_n dJ7_fill_d0a16_13 rfl 2 rfl ?_
    refine Z_lload_n dJ7_fill_d0a16_14 rfl 1 rfl ?_
    obtain ⟨g1, h⟩ := h
    refine Z_last (n := 8) rfl g1 dJ7_fill_d0a16_15 ?_
    refine Z_iinc (v := (y3 + 1)) (lv2 := [(3, vi (y3 + 1)), (0, vr 18 p1), (1, vl y1), (4, vi y4)]) dJ7_fill_d0a16_16 2 rfl rfl (by decide) rfl ?_
    refine Z_goto (tgt := 6) dJ7_fill_d0a16_19 (by decide) ?_
    exact Z_pick [1, 2, 0, 3] rfl h
section
/-- the long array's fill -/
theorem fillC {l : Launch} {G : zG} : FillC l G := by
  intro i M Kf hi h
  have key : ∀ d j : Nat, j + d = 8 → ∀ y : Int32, y.toInt = j → zAt l G Y_J7_fill_d0a16 (zEV G Y_J7_fill_d0a16 Kf) 6 [(0, vr 18 i), (1, vl 0), (3, vi y), (4, vi 8)] [] (zsLr M 18 i (fun k => if k < j then 0 else zmL M 18 i k)) 0 0 := by
    intro d
    induction d with
    | zero =>
      intro j hj y hy
      refine zb_J7_fill_d0a16_6 ⟨fun _ => ?_, fun c => ?_⟩
      · rw [show j = 8 by omega]; exact h
      · exfalso
        rw [ti_le, show (8 : Int32).toInt = 8 from rfl] at c
        omega
    | succ d ih =>
      intro j hj y hy
      refine zb_J7_fill_d0a16_6 ⟨fun c => ?_, fun _ => ⟨ti_in (by omega), ?_⟩⟩
      · exfalso
        rw [ti_le, show (8 : Int32).toInt = 8 from rfl] at c
        omega
      · have e : zsL (zsLr M 18 i (fun k => if k < j then 0 else zmL M 18 i k)) 18 i y.toNatClampNeg 0 = zsLr M 18 i (fun k => if k < j + 1 then 0 else zmL M 18 i k) := by
          show zsLr (zsLr M 18 i _) 18 i (zup ((zsLr M 18 i _).2.1 18 i) y.toNatClampNeg 0) = _
          rw [zsL2, ti_at hy]
          congr 1
          funext k
          have e1 : (zsLr M 18 i (fun k => if k < j then 0 else zmL M 18 i k)).2.1 18 i = fun k => if k < j then 0 else zmL M 18 i k := if_pos ⟨rfl, rfl⟩
          rw [e1, zup_at]
          by_cases c : k = j
          · rw [if_pos c, if_pos (by omega)]
          · rw [if_neg c]
            by_cases c2 : k < j
            · rw [if_pos c2, if_pos (by omega)]
            · rw [if_neg c2, if_neg (by omega)]
        rw [e]
        exact ih (j + 1) (by omega) (y + 1) (ti_inc hy (by omega))
  refine zm_J7_fill_d0a16 ?_
  have h0 := key 8 0 (by omega) 0 rfl
  have e : zsLr M 18 i (fun k => if k < 0 then 0 else zmL M 18 i k) = M := by
    unfold zsLr zrw
    refine Prod.ext rfl (Prod.ext ?_ rfl)
    funext s' i'
    show (if _ then _ else _) = _
    by_cases c : s' = 18 ∧ i' = i
    · rw [if_pos c, c.1, c.2]
      funext k
      rw [if_neg (by omega)]
    · rw [if_neg c]
  rw [e] at h0
  exact h0
end
