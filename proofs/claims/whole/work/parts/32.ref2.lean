section
variable {l : Launch} {G : zG} {M : zM}
abbrev sp_low (w : Nat → Int32) : Int32 := 1024 * w 2
abbrev sp_high (w : Nat → Int32) : Int32 := 1024 * w 3
def sp_end (w : Nat → Int32) : Int32 := if w 6 = 1 then 2 * sp_high w else sp_high w
def sp_moved (w : Nat → Int32) (a q : Int32) : Int32 := a + (((1024 * q) - a) >>> (w 5 &&& 31))
def sp_how (w : Nat → Int32) (a q : Int32) : Int32 := if q = w 0 then 0 else if sp_low w ≤ a then (if a < sp_end w then 3 else 2) else 1
def sp_base (w : Nat → Int32) (a : Int32) : Int64 := if sp_low w ≤ a then (if a < sp_end w then (if sp_high w ≤ a then (w 4).toInt64 + ((65536 - w 4).toInt64 * (a - sp_high w).toInt64) / (sp_high w).toInt64 else ((w 4).toInt64 * (a - sp_low w).toInt64) / (sp_high w - sp_low w).toInt64) else 65536) else 0
def sp_chance (b : Int64) (c : Int32) : Int32 := if 0 < lg_cmp (65536 - (c.toInt64 * b)) 0 then ((if ((65536 * b) / (65536 - (c.toInt64 * b))) < 65536 then ((65536 * b) / (65536 - (c.toInt64 * b))) else 65536) : Int64).toInt32 else 65536
def sp_drawn (x : Int32) : Int32 := ((x.toUInt32 >>> ((15 : Int32).toUInt32 &&& Int32.toUInt32 31)).toInt32) &&& 65535
def sp_next (x : Int32) : Int32 := (x * 1103515245) + 12345
def sp_draw (w : Nat → Int32) : Nat → Int32 := zup w 13 (sp_next (w 13))
theorem R_end {Kf : Int32 → zM → Prop} (h : Kf (sp_end (zmI M 31 0)) M) : zCalI l G Y_X9_endOfChance 0 0 [vr 30 0] M Kf := by
  unfold sp_end at h
  refine zm_X9_endOfChance ⟨fun c => zm_X9_high ?_, fun c => zm_X9_high ?_⟩
  · rw [if_neg c] at h
    exact h
  · rw [if_pos c] at h
    exact h
theorem R_moved {a q : Int32} {Kf : Int32 → zM → Prop} (h : Kf (sp_moved (zmI M 31 0) a q) M) : zCalI l G Y_X9_moved 0 0 [vr 30 0, vi a, vi q] M Kf := zm_X9_moved h
theorem R_how {a q : Int32} {Kf : Int32 → zM → Prop} (h : Kf (sp_how (zmI M 31 0) a q) M) : zCalI l G Y_X9_howOf 0 0 [vr 30 0, vi a, vi q] M Kf := by
  unfold sp_how at h
  refine zm_X9_howOf ⟨fun c => zm_X9_low ⟨fun d => R_end ⟨fun f => ?_, fun f => ?_⟩, fun d => ?_⟩, fun c => ?_⟩
  · rw [if_neg c, if_pos d, if_pos f] at h; exact h
  · rw [if_neg c, if_pos d, if_neg f] at h; exact h
  · rw [if_neg c, if_neg d] at h; exact h
  · rw [if_pos c] at h; exact h
theorem t64_ne {x : Int32} (h : x.toInt ≠ 0) : ¬ x.toInt64 = 0 := fun e => h (by rw [← Int32.toInt_toInt64, e]; rfl)
/-- the thresholds -/
def sp_mm (w : Nat → Int32) : Prop := 0 ≤ (w 2).toInt ∧ (w 2).toInt < (w 3).toInt ∧ (w 3).toInt ≤ 40
theorem R_base {a : Int32} {Kf : Int64 → zM → Prop} (hm : sp_mm (zmI M 31 0)) (h : Kf (sp_base (zmI M 31 0) a) M) : zCalL l G Y_X9_baseOf 0 0 [vr 30 0, vi a] M Kf := by
  obtain ⟨m1, m2, m3⟩ := hm
  unfold sp_base at h
  have hh : (sp_high (zmI M 31 0)).toInt = 1024 * (zmI M 31 0 3).toInt := by (first | omega | ((simp (disch := (first | omega | (simp (disch := (first | omega | (simp (disch := (first | omega | (simp (disch := omega) only [ti_add, ti_sub, ti_mul, Int32.reduceToInt, ti_n1, ti_n2, ti_n3, and_self] <;> omega))) only [ti_add, ti_sub, ti_mul, Int32.reduceToInt, ti_n1, ti_n2, ti_n3, and_self] <;> omega))) only [ti_add, ti_sub, ti_mul, Int32.reduceToInt, ti_n1, ti_n2, ti_n3, and_self] <;> omega))) only [ti_le, ti_lt, ti_eq, ti_add, ti_sub, ti_mul, Int32.reduceToInt, ti_n1, ti_n2, ti_n3, ti_cl] at *) <;> omega))
  have hl : (sp_low (zmI M 31 0)).toInt = 1024 * (zmI M 31 0 2).toInt := by (first | omega | ((simp (disch := (first | omega | (simp (disch := (first | omega | (simp (disch := (first | omega | (simp (disch := omega) only [ti_add, ti_sub, ti_mul, Int32.reduceToInt, ti_n1, ti_n2, ti_n3, and_self] <;> omega))) only [ti_add, ti_sub, ti_mul, Int32.reduceToInt, ti_n1, ti_n2, ti_n3, and_self] <;> omega))) only [ti_add, ti_sub, ti_mul, Int32.reduceToInt, ti_n1, ti_n2, ti_n3, and_self] <;> omega))) only [ti_le, ti_lt, ti_eq, ti_add, ti_sub, ti_mul, Int32.reduceToInt, ti_n1, ti_n2, ti_n3, ti_cl] at *) <;> omega))
  refine zm_X9_baseOf (zm_X9_low ⟨fun c => R_end ⟨fun d => zm_X9_high ⟨fun f => zm_X9_high (zm_X9_high ⟨t64_ne ?_, ?_⟩), fun f => zm_X9_low (zm_X9_high (zm_X9_low ⟨t64_ne ?_, ?_⟩))⟩, fun d => ?_⟩, fun c => ?_⟩)
  · rw [hh]; omega
  · rw [if_pos c, if_pos d, if_pos f] at h; exact h
  · rw [ti_sub (by rw [hh, hl]; omega), hh, hl]; omega
  · rw [if_pos c, if_pos d, if_neg f] at h; exact h
  · rw [if_pos c, if_neg d] at h; exact h
  · rw [if_neg c] at h; exact h
theorem lg_cmp_ne {a : Int64} (h : 0 < lg_cmp a 0) : ¬ a = 0 := fun e => by
  rw [e] at h
  exact absurd h (by decide)
theorem R_chance {b : Int64} {c : Int32} {Kf : Int32 → zM → Prop} (h : Kf (sp_chance b c) M) : zCalI l G Y_X9_chanceOf 0 0 [vl b, vi c] M Kf := by
  unfold sp_chance at h
  refine zm_X9_chanceOf ⟨fun d => ⟨lg_cmp_ne d, ?_⟩, fun d => ?_⟩
  · rw [if_pos d] at h; exact h
  · rw [if_neg d] at h; exact h
theorem R_draws {Kf : Int32 → zM → Prop} (h : Kf (sp_drawn (sp_next (zmI M 31 0 13))) (zsIr M 31 0 (sp_draw (zmI M 31 0)))) : zCalI l G Y_X9_draws 0 0 [vr 30 0] M Kf := by
  refine zm_X9_draws ?_
  simp only [zsI1, zup_self]
  exact h
def sp_shift (w : Nat → Int32) (j : Nat) : Nat → Int32 := fun k => if 292 ≤ k ∧ k < j then w (k + 8) else w k
def sp_keep1 (w : Nat → Int32) (n : Nat) (f how count chance draw came : Int32) : Nat → Int32 :=
  zup (zup (zup (zup (zup (zup (zup (zup (zup w (sd n 0) (w 7)) (sd n 1) f) (sd n 2) how) (sd n 3) (w 9)) (sd n 4) count) (sd n 5) chance) (sd n 6) draw) (sd n 7) came) 12 (w 12 + 1)
def sp_keeps (w : Nat → Int32) (f how count chance draw came : Int32) : Nat → Int32 :=
  if w 12 = 24 then sp_keep1 (zup (sp_shift w 476) 12 (w 12 - 1)) 23 f how count chance draw came else sp_keep1 w (w 12).toInt.toNat f how count chance draw came
theorem R_keep1 {n : Nat} {f how count chance draw came : Int32} {Kf : zM → Prop} (hn : (zmI M 31 0 12).toInt = n) (hb : n < 24)
    (h : Kf (zsIr M 31 0 (sp_keep1 (zmI M 31 0) n f how count chance draw came))) : zAt l G Y_X9_keeps (zEV G Y_X9_keeps Kf) 59 [(0, vr 30 0), (1, vi f), (2, vi how), (3, vi count), (4, vi chance), (5, vi draw), (6, vi came)] [] M 0 0 := by
  have e0 : (292 + (8 * (zmI M 31 0 12))).toInt = (sd n 0 : Nat) := by unfold sd; (first | omega | ((simp (disch := (first | omega | (simp (disch := (first | omega | (simp (disch := (first | omega | (simp (disch := omega) only [ti_add, ti_sub, ti_mul, Int32.reduceToInt, ti_n1, ti_n2, ti_n3, and_self] <;> omega))) only [ti_add, ti_sub, ti_mul, Int32.reduceToInt, ti_n1, ti_n2, ti_n3, and_self] <;> omega))) only [ti_add, ti_sub, ti_mul, Int32.reduceToInt, ti_n1, ti_n2, ti_n3, and_self] <;> omega))) only [ti_le, ti_lt, ti_eq, ti_add, ti_sub, ti_mul, Int32.reduceToInt, ti_n1, ti_n2, ti_n3, ti_cl] at *) <;> omega))
  have e1 : ((292 + (8 * (zmI M 31 0 12))) + 1).toInt = (sd n 1 : Nat) := by unfold sd; (first | omega | ((simp (disch := (first | omega | (simp (disch := (first | omega | (simp (disch := (first | omega | (simp (disch := omega) only [ti_add, ti_sub, ti_mul, Int32.reduceToInt, ti_n1, ti_n2, ti_n3, and_self] <;> omega))) only [ti_add, ti_sub, ti_mul, Int32.reduceToInt, ti_n1, ti_n2, ti_n3, and_self] <;> omega))) only [ti_add, ti_sub, ti_mul, Int32.reduceToInt, ti_n1, ti_n2, ti_n3, and_self] <;> omega))) only [ti_le, ti_lt, ti_eq, ti_add, ti_sub, ti_mul, Int32.reduceToInt, ti_n1, ti_n2, ti_n3, ti_cl] at *) <;> omega))
  have e2 : ((292 + (8 * (zmI M 31 0 12))) + 2).toInt = (sd n 2 : Nat) := by unfold sd; (first | omega | ((simp (disch := (first | omega | (simp (disch := (first | omega | (simp (disch := (first | omega | (simp (disch := omega) only [ti_add, ti_sub, ti_mul, Int32.reduceToInt, ti_n1, ti_n2, ti_n3, and_self] <;> omega))) only [ti_add, ti_sub, ti_mul, Int32.reduceToInt, ti_n1, ti_n2, ti_n3, and_self] <;> omega))) only [ti_add, ti_sub, ti_mul, Int32.reduceToInt, ti_n1, ti_n2, ti_n3, and_self] <;> omega))) only [ti_le, ti_lt, ti_eq, ti_add, ti_sub, ti_mul, Int32.reduceToInt, ti_n1, ti_n2, ti_n3, ti_cl] at *) <;> omega))
  have e3 : ((292 + (8 * (zmI M 31 0 12))) + 3).toInt = (sd n 3 : Nat) := by unfold sd; (first | omega | ((simp (disch := (first | omega | (simp (disch := (first | omega | (simp (disch := (first | omega | (simp (disch := omega) only [ti_add, ti_sub, ti_mul, Int32.reduceToInt, ti_n1, ti_n2, ti_n3, and_self] <;> omega))) only [ti_add, ti_sub, ti_mul, Int32.reduceToInt, ti_n1, ti_n2, ti_n3, and_self] <;> omega))) only [ti_add, ti_sub, ti_mul, Int32.reduceToInt, ti_n1, ti_n2, ti_n3, and_self] <;> omega))) only [ti_le, ti_lt, ti_eq, ti_add, ti_sub, ti_mul, Int32.reduceToInt, ti_n1, ti_n2, ti_n3, ti_cl] at *) <;> omega))
  have e4 : ((292 + (8 * (zmI M 31 0 12))) + 4).toInt = (sd n 4 : Nat) := by unfold sd; (first | omega | ((simp (disch := (first | omega | (simp (disch := (first | omega | (simp (disch := (first | omega | (simp (disch := omega) only [ti_add, ti_sub, ti_mul, Int32.reduceToInt, ti_n1, ti_n2, ti_n3, and_self] <;> omega))) only [ti_add, ti_sub, ti_mul, Int32.reduceToInt, ti_n1, ti_n2, ti_n3, and_self] <;> omega))) only [ti_add, ti_sub, ti_mul, Int32.reduceToInt, ti_n1, ti_n2, ti_n3, and_self] <;> omega))) only [ti_le, ti_lt, ti_eq, ti_add, ti_sub, ti_mul, Int32.reduceToInt, ti_n1, ti_n2, ti_n3, ti_cl] at *) <;> omega))
  have e5 : ((292 + (8 * (zmI M 31 0 12))) + 5).toInt = (sd n 5 : Nat) := by unfold sd; (first | omega | ((simp (disch := (first | omega | (simp (disch := (first | omega | (simp (disch := (first | omega | (simp (disch := omega) only [ti_add, ti_sub, ti_mul, Int32.reduceToInt, ti_n1, ti_n2, ti_n3, and_self] <;> omega))) only [ti_add, ti_sub, ti_mul, Int32.reduceToInt, ti_n1, ti_n2, ti_n3, and_self] <;> omega))) only [ti_add, ti_sub, ti_mul, Int32.reduceToInt, ti_n1, ti_n2, ti_n3, and_self] <;> omega))) only [ti_le, ti_lt, ti_eq, ti_add, ti_sub, ti_mul, Int32.reduceToInt, ti_n1, ti_n2, ti_n3, ti_cl] at *) <;> omega))
  have e6 : ((292 + (8 * (zmI M 31 0 12))) + 6).toInt = (sd n 6 : Nat) := by unfold sd; (first | omega | ((simp (disch := (first | omega | (simp (disch := (first | omega | (simp (disch := (first | omega | (simp (disch := omega) only [ti_add, ti_sub, ti_mul, Int32.reduceToInt, ti_n1, ti_n2, ti_n3, and_self] <;> omega))) only [ti_add, ti_sub, ti_mul, Int32.reduceToInt, ti_n1, ti_n2, ti_n3, and_self] <;> omega))) only [ti_add, ti_sub, ti_mul, Int32.reduceToInt, ti_n1, ti_n2, ti_n3, and_self] <;> omega))) only [ti_le, ti_lt, ti_eq, ti_add, ti_sub, ti_mul, Int32.reduceToInt, ti_n1, ti_n2, ti_n3, ti_cl] at *) <;> omega))
  have e7 : ((292 + (8 * (zmI M 31 0 12))) + 7).toInt = (sd n 7 : Nat) := by unfold sd; (first | omega | ((simp (disch := (first | omega | (simp (disch := (first | omega | (simp (disch := (first | omega | (simp (disch := omega) only [ti_add, ti_sub, ti_mul, Int32.reduceToInt, ti_n1, ti_n2, ti_n3, and_self] <;> omega))) only [ti_add, ti_sub, ti_mul, Int32.reduceToInt, ti_n1, ti_n2, ti_n3, and_self] <;> omega))) only [ti_add, ti_sub, ti_mul, Int32.reduceToInt, ti_n1, ti_n2, ti_n3, and_self] <;> omega))) only [ti_le, ti_lt, ti_eq, ti_add, ti_sub, ti_mul, Int32.reduceToInt, ti_n1, ti_n2, ti_n3, ti_cl] at *) <;> omega))
  refine zb_X9_keeps_59 ⟨ti_in (by (first | omega | (simp only [sf, sq, sd] at *; omega))), ti_in (by (first | omega | (simp only [sf, sq, sd] at *; omega))), ti_in (by (first | omega | (simp only [sf, sq, sd] at *; omega))), ti_in (by (first | omega | (simp only [sf, sq, sd] at *; omega))), ti_in (by (first | omega | (simp only [sf, sq, sd] at *; omega))), ti_in (by (first | omega | (simp only [sf, sq, sd] at *; omega))), ti_in (by (first | omega | (simp only [sf, sq, sd] at *; omega))), ti_in (by (first | omega | (simp only [sf, sq, sd] at *; omega))), ?_⟩
  rw [ti_at e0, ti_at e1, ti_at e2, ti_at e3, ti_at e4, ti_at e5, ti_at e6, ti_at e7]
  unfold sp_keep1 at h
  simp only [zsI1, zsI2]
  have q1 : ∀ (a b c : Int32), zup (zup (zup (zmI M 31 0) (sd n 0) a) (sd n 1) b) (sd n 2) c 9 = zmI M 31 0 9 := fun a b c => by
    rw [zup_ne _ _ (by (first | omega | (simp only [sf, sq, sd] at *; omega))), zup_ne _ _ (by (first | omega | (simp only [sf, sq, sd] at *; omega))), zup_ne _ _ (by (first | omega | (simp only [sf, sq, sd] at *; omega)))]
  have q2 : ∀ (a b c d e g i j : Int32), zup (zup (zup (zup (zup (zup (zup (zup (zmI M 31 0) (sd n 0) a) (sd n 1) b) (sd n 2) c) (sd n 3) d) (sd n 4) e) (sd n 5) g) (sd n 6) i) (sd n 7) j 12 = zmI M 31 0 12 := fun a b c d e g i j => by
    rw [zup_ne _ _ (by (first | omega | (simp only [sf, sq, sd] at *; omega))), zup_ne _ _ (by (first | omega | (simp only [sf, sq, sd] at *; omega))), zup_ne _ _ (by (first | omega | (simp only [sf, sq, sd] at *; omega))), zup_ne _ _ (by (first | omega | (simp only [sf, sq, sd] at *; omega))), zup_ne _ _ (by (first | omega | (simp only [sf, sq, sd] at *; omega))), zup_ne _ _ (by (first | omega | (simp only [sf, sq, sd] at *; omega))), zup_ne _ _ (by (first | omega | (simp only [sf, sq, sd] at *; omega))), zup_ne _ _ (by (first | omega | (simp only [sf, sq, sd] at *; omega)))]
  rw [q2, q1]
  exact h
theorem R_keeps {f how count chance draw came : Int32} {Kf : zM → Prop} (hd : 0 ≤ (zmI M 31 0 12).toInt ∧ (zmI M 31 0 12).toInt ≤ 24)
    (h : Kf (zsIr M 31 0 (sp_keeps (zmI M 31 0) f how count chance draw came))) : zCalV l G Y_X9_keeps 0 0 [vr 30 0, vi f, vi how, vi count, vi chance, vi draw, vi came] M Kf := by
  unfold sp_keeps at h
  refine zm_X9_keeps ⟨fun c => ?_, fun c => ?_⟩
  · rw [if_neg c] at h
    have c2 : (zmI M 31 0 12).toInt ≠ 24 := fun e => c (ti_eq.mpr e)
    exact R_keep1 (by omega) (by omega) h
  · rw [if_pos c] at h
    have key : ∀ d j : Nat, ∀ y : Int32, y.toInt = j → j + d = 476 → 292 ≤ j → zAt l G Y_X9_keeps (zEV G Y_X9_keeps Kf) 17 [(0, vr 30 0), (1, vi f), (2, vi how), (3, vi count), (4, vi chance), (5, vi draw), (6, vi came), (7, vi y)] [] (zsIr M 31 0 (sp_shift (zmI M 31 0) j)) 0 0 := by
      intro d
      induction d with
      | zero =>
        intro j y hy hj hj2
        refine zb_X9_keeps_17 ⟨fun c1 => ?_, fun c1 => ?_⟩
        · have hj3 : j = 476 := hj
          have e12 : sp_shift (zmI M 31 0) 476 12 = zmI M 31 0 12 := if_neg (by omega)
          refine R_keep1 (n := 23) ?_ (by omega) ?_
          · simp only [zsI1, zup_self, hj3, e12]
            rw [c]
            rfl
          · simp only [zsI1, zsI2, hj3, e12]
            exact h
        · exfalso
          (simp (disch := (first | omega | (simp (disch := (first | omega | (simp (disch := (first | omega | (simp (disch := omega) only [ti_add, ti_sub, ti_mul, Int32.reduceToInt, ti_n1, ti_n2, ti_n3, and_self] <;> omega))) only [ti_add, ti_sub, ti_mul, Int32.reduceToInt, ti_n1, ti_n2, ti_n3, and_self] <;> omega))) only [ti_add, ti_sub, ti_mul, Int32.reduceToInt, ti_n1, ti_n2, ti_n3, and_self] <;> omega))) only [ti_le, ti_lt, ti_eq, ti_add, ti_sub, ti_mul, Int32.reduceToInt, ti_n1, ti_n2, ti_n3, ti_cl] at *)
          omega
      | succ d ih =>
        intro j y hy hj hj2
        refine zb_X9_keeps_17 ⟨fun c1 => ?_, fun c1 => ?_⟩
        · exfalso
          (simp (disch := (first | omega | (simp (disch := (first | omega | (simp (disch := (first | omega | (simp (disch := omega) only [ti_add, ti_sub, ti_mul, Int32.reduceToInt, ti_n1, ti_n2, ti_n3, and_self] <;> omega))) only [ti_add, ti_sub, ti_mul, Int32.reduceToInt, ti_n1, ti_n2, ti_n3, and_self] <;> omega))) only [ti_add, ti_sub, ti_mul, Int32.reduceToInt, ti_n1, ti_n2, ti_n3, and_self] <;> omega))) only [ti_le, ti_lt, ti_eq, ti_add, ti_sub, ti_mul, Int32.reduceToInt, ti_n1, ti_n2, ti_n3, ti_cl] at *)
          omega
        · have e8 : (y + 8).toInt = (j + 8 : Nat) := by (first | omega | ((simp (disch := (first | omega | (simp (disch := (first | omega | (simp (disch := (first | omega | (simp (disch := omega) only [ti_add, ti_sub, ti_mul, Int32.reduceToInt, ti_n1, ti_n2, ti_n3, and_self] <;> omega))) only [ti_add, ti_sub, ti_mul, Int32.reduceToInt, ti_n1, ti_n2, ti_n3, and_self] <;> omega))) only [ti_add, ti_sub, ti_mul, Int32.reduceToInt, ti_n1, ti_n2, ti_n3, and_self] <;> omega))) only [ti_le, ti_lt, ti_eq, ti_add, ti_sub, ti_mul, Int32.reduceToInt, ti_n1, ti_n2, ti_n3, ti_cl] at *) <;> omega))
          refine ⟨ti_in (by (first | omega | (simp only [sf, sq, sd] at *; omega))), ti_in (by (first | omega | (simp only [sf, sq, sd] at *; omega))), ?_⟩
          rw [ti_at e8, ti_at hy]
          (simp only [zsI1, zsI2])
          have e : zup (sp_shift (zmI M 31 0) j) j (sp_shift (zmI M 31 0) j (j + 8)) = sp_shift (zmI M 31 0) (j + 1) := by
            funext k
            unfold zup sp_shift
            by_cases hk : k = j
            · rw [if_pos hk, if_neg (by omega), if_pos (by omega), hk]
            · rw [if_neg hk]
              by_cases hk2 : 292 ≤ k ∧ k < j
              · rw [if_pos hk2, if_pos (by omega)]
              · rw [if_neg hk2, if_neg (by omega)]
          rw [e]
          exact ih (j + 1) (y + 1) (by (first | omega | ((simp (disch := (first | omega | (simp (disch := (first | omega | (simp (disch := (first | omega | (simp (disch := omega) only [ti_add, ti_sub, ti_mul, Int32.reduceToInt, ti_n1, ti_n2, ti_n3, and_self] <;> omega))) only [ti_add, ti_sub, ti_mul, Int32.reduceToInt, ti_n1, ti_n2, ti_n3, and_self] <;> omega))) only [ti_add, ti_sub, ti_mul, Int32.reduceToInt, ti_n1, ti_n2, ti_n3, and_self] <;> omega))) only [ti_le, ti_lt, ti_eq, ti_add, ti_sub, ti_mul, Int32.reduceToInt, ti_n1, ti_n2, ti_n3, ti_cl] at *) <;> omega))) (by omega) (by omega)
    have e0 : sp_shift (zmI M 31 0) 292 = zmI M 31 0 := by
      funext k
      exact if_neg (by omega)
    have k0 := key 184 292 292 rfl rfl (Nat.le_refl _)
    rw [e0] at k0
    have e1 : zsIr M 31 0 (zmI M 31 0) = M := zsI0 M 31 0
    rw [e1] at k0
    exact k0
def sp_letsIn (w : Nat → Int32) (p m : Int32) : Nat → Int32 := zup (zup (zup (zup w (sq (w 8).toInt.toNat 0) p) (sq (w 8).toInt.toNat 1) (w 7)) (sq (w 8).toInt.toNat 2) m) 8 (w 8 + 1)
theorem R_letsIn {p m : Int32} {Kf : zM → Prop} (hq : 0 ≤ (zmI M 31 0 8).toInt ∧ (zmI M 31 0 8).toInt ≤ 100) (hm : m = 0 ∨ m = 1) (h : Kf (zsIr M 31 0 (sp_letsIn (zmI M 31 0) p m))) : zCalV l G Y_X9_letsIn 0 0 [vr 30 0, vi p, vi m] M Kf := by
  obtain ⟨n, hn⟩ : ∃ n : Nat, (zmI M 31 0 8).toInt = n := ⟨_, (Int.toNat_of_nonneg hq.1).symm⟩
  have e0 : ((172 + (3 * (zmI M 31 0 8))) + 0).toInt = (sq n 0 : Nat) := by unfold sq; (first | omega | ((simp (disch := (first | omega | (simp (disch := (first | omega | (simp (disch := (first | omega | (simp (disch := omega) only [ti_add, ti_sub, ti_mul, Int32.reduceToInt, ti_n1, ti_n2, ti_n3, and_self] <;> omega))) only [ti_add, ti_sub, ti_mul, Int32.reduceToInt, ti_n1, ti_n2, ti_n3, and_self] <;> omega))) only [ti_add, ti_sub, ti_mul, Int32.reduceToInt, ti_n1, ti_n2, ti_n3, and_self] <;> omega))) only [ti_le, ti_lt, ti_eq, ti_add, ti_sub, ti_mul, Int32.reduceToInt, ti_n1, ti_n2, ti_n3, ti_cl] at *) <;> omega))
  have e1 : ((172 + (3 * (zmI M 31 0 8))) + 1).toInt = (sq n 1 : Nat) := by unfold sq; (first | omega | ((simp (disch := (first | omega | (simp (disch := (first | omega | (simp (disch := (first | omega | (simp (disch := omega) only [ti_add, ti_sub, ti_mul, Int32.reduceToInt, ti_n1, ti_n2, ti_n3, and_self] <;> omega))) only [ti_add, ti_sub, ti_mul, Int32.reduceToInt, ti_n1, ti_n2, ti_n3, and_self] <;> omega))) only [ti_add, ti_sub, ti_mul, Int32.reduceToInt, ti_n1, ti_n2, ti_n3, and_self] <;> omega))) only [ti_le, ti_lt, ti_eq, ti_add, ti_sub, ti_mul, Int32.reduceToInt, ti_n1, ti_n2, ti_n3, ti_cl] at *) <;> omega))
  have e2 : ((172 + (3 * (zmI M 31 0 8))) + 2).toInt = (sq n 2 : Nat) := by unfold sq; (first | omega | ((simp (disch := (first | omega | (simp (disch := (first | omega | (simp (disch := (first | omega | (simp (disch := omega) only [ti_add, ti_sub, ti_mul, Int32.reduceToInt, ti_n1, ti_n2, ti_n3, and_self] <;> omega))) only [ti_add, ti_sub, ti_mul, Int32.reduceToInt, ti_n1, ti_n2, ti_n3, and_self] <;> omega))) only [ti_add, ti_sub, ti_mul, Int32.reduceToInt, ti_n1, ti_n2, ti_n3, and_self] <;> omega))) only [ti_le, ti_lt, ti_eq, ti_add, ti_sub, ti_mul, Int32.reduceToInt, ti_n1, ti_n2, ti_n3, ti_cl] at *) <;> omega))
  have em : (if m = 0 then (0 : Int32) else 1) = m := by
    rcases hm with rfl | rfl <;> rfl
  unfold sp_letsIn at h
  rw [hn] at h
  refine zm_X9_letsIn ⟨ti_in (by (first | omega | (simp only [sf, sq, sd] at *; omega))), ti_in (by (first | omega | (simp only [sf, sq, sd] at *; omega))), R_one ⟨ti_in (by (first | omega | (simp only [sf, sq, sd] at *; omega))), ?_⟩⟩
  rw [ti_at e0, ti_at e1, ti_at e2, em]
  simp only [zsI1, zsI2]
  rw [zup_ne _ _ (show 7 ≠ sq n 0 by (first | omega | (simp only [sf, sq, sd] at *; omega))), zup_ne _ _ (show 8 ≠ sq n 2 by (first | omega | (simp only [sf, sq, sd] at *; omega))), zup_ne _ _ (show 8 ≠ sq n 1 by (first | omega | (simp only [sf, sq, sd] at *; omega))), zup_ne _ _ (show 8 ≠ sq n 0 by (first | omega | (simp only [sf, sq, sd] at *; omega)))]
  exact h
def sp_drops (w : Nat → Int32) (i a : Nat) : Nat → Int32 := zup (sp_counts w i a 1) (sf i 7) 1
theorem R_drops {p1 p2 : Int32} {i k : Nat} {Kf : zM → Prop} (h1 : p1.toInt = i) (h2 : p2.toInt = k) (hi : i < 6) (hk : k < 8) (h : Kf (zsIr M 31 0 (sp_drops (zmI M 31 0) i k))) : zCalV l G Y_X9_drops 0 0 [vr 30 0, vi p1, vi p2] M Kf := by
  refine zm_X9_drops (R_counts h1 h2 (by (first | omega | (simp only [sf, sq, sd] at *; omega))) (R_putsFlow h1 (k := 7) rfl (by (first | omega | (simp only [sf, sq, sd] at *; omega))) ?_))
  (simp only [zsI1, zsI2])
  exact h
theorem R_between {p1 ch dr : Int32} {i : Nat} {Kf : Int32 → zM → Prop} (h1 : p1.toInt = i) (hi : i < 6) (h : if dr < ch then Kf (if zmI M 31 0 (sf i 4) = 1 then 1 else 2) (zsIr M 31 0 (zup (zmI M 31 0) 10 0)) else Kf 0 M) : zCalI l G Y_X9_between 0 0 [vr 30 0, vi p1, vi ch, vi dr] M Kf := by
  refine zm_X9_between ⟨fun c => ?_, fun c => ?_⟩
  · rw [if_pos c] at h
    refine R_ofFlow h1 (k := 4) rfl (by (first | omega | (simp only [sf, sq, sd] at *; omega))) ?_
    (simp only [zsI1, zsI2])
    rw [zup_ne _ _ (show sf i 4 ≠ 10 by (first | omega | (simp only [sf, sq, sd] at *; omega)))]
    refine ⟨fun d => ?_, fun d => ?_⟩
    · rw [if_neg d] at h; exact h
    · rw [if_pos d] at h; exact h
  · rw [if_neg c] at h; exact h
end
