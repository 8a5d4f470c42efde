section
variable {l : Launch} {G : zG} {M : zM} {r : Nat}
theorem C_hasFlow {p : Int32} {n : Nat} {Kf : Int32 → zM → Prop} (hn : (zmI M 15 r 12).toInt = n) (h6 : n ≤ 6) (h : Kf (if 0 ≤ p.toInt ∧ p.toInt < n then 1 else 0) M) : zCalI l G Y_X5_hasFlow 0 0 [vr 15 r, vi p] M Kf := by
  refine zm_X5_hasFlow ⟨fun c => ?_, fun c => ⟨fun d => ?_, fun d => ⟨fun f => ?_, fun f => ?_⟩⟩⟩
  · rw [ti_lt, ti_0] at c
    rw [if_neg (by omega)] at h
    exact h
  · rw [ti_le] at d
    rw [if_neg (by omega)] at h
    exact h
  · rw [ti_le, show (6 : Int32).toInt = 6 from rfl] at f
    rw [if_neg (by omega)] at h
    exact h
  · rw [ti_lt, ti_0] at c
    rw [ti_le] at d
    rw [if_pos (by omega)] at h
    exact h
theorem C_qcell {p q : Int32} {i k : Nat} {Kf : Int32 → zM → Prop} (hp : p.toInt = i) (hq : q.toInt = k) (hb : 3 * i + k < 120) (h : Kf (zmI M 20 r (3 * i + k)) M) : zCalI l G Y_X3_cell 0 0 [vr 19 r, vi p, vi q] M Kf := by
  have e : ((p * 3) + q).toInt = (3 * i + k : Nat) := by
    rw [ti_add (by rw [ti_mul (by rw [hp, show (3 : Int32).toInt = 3 from rfl]; omega), hp, hq, show (3 : Int32).toInt = 3 from rfl]; omega), ti_mul (by rw [hp, show (3 : Int32).toInt = 3 from rfl]; omega), hp, hq, show (3 : Int32).toInt = 3 from rfl]
    omega
  refine zm_X3_cell ⟨fun c => ?_, fun _ => ⟨fun c => ?_, fun _ => ⟨ti_in (by rw [e]; omega), ?_⟩⟩⟩
  · rw [ti_lt, e, ti_0] at c
    omega
  · rw [ti_le, e, show (120 : Int32).toInt = 120 from rfl] at c
    omega
  · rw [ti_at e]
    exact h
theorem C_add {p t m : Int32} {N : Nat} {Kf : zM → Prop} (hN : (zmI M 19 r 1).toInt = N) (hb : N < 40) (h : Kf (zsIr (zsIr M 20 r (zup (zup (zup (zmI M 20 r) (3 * N) p) (3 * N + 1) t) (3 * N + 2) m)) 19 r (zup (zmI M 19 r) 1 (zmI M 19 r 1 + 1)))) : zCalV l G Y_X3_add 0 0 [vr 19 r, vi p, vi t, vi m] M Kf := by
  have e : ((zmI M 19 r 1) * 3).toInt = (3 * N : Nat) := by
    rw [ti_mul (by rw [hN, show (3 : Int32).toInt = 3 from rfl]; omega), hN, show (3 : Int32).toInt = 3 from rfl]
    omega
  have e1 : (((zmI M 19 r 1) * 3) + 1).toInt = (3 * N + 1 : Nat) := by
    rw [ti_add (by rw [e, ti_1]; omega), e, ti_1]
    omega
  have e2 : (((zmI M 19 r 1) * 3) + 2).toInt = (3 * N + 2 : Nat) := by
    rw [ti_add (by rw [e, show (2 : Int32).toInt = 2 from rfl]; omega), e, show (2 : Int32).toInt = 2 from rfl]
    omega
  refine zm_X3_add ⟨fun c => ?_, fun _ => ⟨fun _ => ⟨ti_in (by rw [e]; omega), ti_in (by rw [e1]; omega), ti_in (by rw [e2]; omega), ?_⟩, fun c => ?_⟩⟩
  · rw [ti_lt, e, ti_0] at c
    omega
  · rw [ti_at e, ti_at e1, ti_at e2]
    (simp only [zmI_sI, zmI_sL, zmI_sN, zsI2, zsL2, zmL_sL, zmL_sI, zmN_sI, zmN_sL, zmT_sI, zmT_sL, Nat.reduceEqDiff, false_and, and_false, and_self, if_false, if_true])
    exact h
  · rw [ti_lt, e2, show (120 : Int32).toInt = 120 from rfl] at c
    omega
/-- the ring takes a row -/
theorem C_open {t f way av : Int32} {L K : Nat} {Kf : zM → Prop} (hL : zmI M 21 r 2 = nI L) (hK : zmI M 21 r 1 = nI K) (h1 : L < 24) (h2 : K ≤ 24)
    (h : Kf (zsIr (zsIr M 21 r (zup (zup (zmI M 21 r) 2 (nI ((L + 1) % 24))) 1 (nI (if K < 24 then K + 1 else 24)))) 22 r (zup (zup (zup (zup (zmI M 22 r) ((L + 1) % 24 * 8) t) ((L + 1) % 24 * 8 + 1) f) ((L + 1) % 24 * 8 + 2) way) ((L + 1) % 24 * 8 + 3) av))) :
    zCalV l G Y_X0_open 0 0 [vr 21 r, vi t, vi f, vi way, vi av] M Kf := by
  have l1 : ((nI L + 1) - (nI L + 1) / 24 * 24) = nI ((L + 1) % 24) := by
    refine nI_ofT ?_
    have e : (nI L + 1).toInt = (L : Int) + 1 := by rw [ti_add (by rw [ti_nI (by omega), ti_1]; omega), ti_nI (by omega), ti_1]
    rw [ti_rem (by rw [e]; omega) (by decide), e, show (24 : Int32).toInt = 24 from rfl]
    omega
  have k1 : (if (24 : Int32) < nI K + 1 then 24 else nI K + 1) = nI (if K < 24 then K + 1 else 24) := by
    have e : (nI K + 1).toInt = (K : Int) + 1 := by rw [ti_add (by rw [ti_nI (by omega), ti_1]; omega), ti_nI (by omega), ti_1]
    by_cases c : K < 24
    · rw [if_pos c, if_neg (by rw [ti_lt, e, show (24 : Int32).toInt = 24 from rfl]; omega)]
      exact nI_ofT (by rw [e]; omega)
    · rw [if_neg c, if_pos (by rw [ti_lt, e, show (24 : Int32).toInt = 24 from rfl]; omega)]
      rfl
  have z1 : ∀ v : Int32, zup (zmI M 21 r) 2 v 1 = nI K := fun v => by rw [zup_ne _ _ (by omega), hK]
  have z2 : ∀ (f : Nat → Int32) (v u : Int32), zup (zup f 2 v) 1 u 2 = v := fun f v u => by rw [zup_ne _ _ (by omega), zup_self]
  generalize hL' : (L + 1) % 24 = L' at *
  have hL2 : L' < 24 := by omega
  have e0 : (nI L' * 8).toInt = (L' * 8 : Nat) := by rw [ti_mul (by rw [ti_nI (by omega), show (8 : Int32).toInt = 8 from rfl]; omega), ti_nI (by omega), show (8 : Int32).toInt = 8 from rfl]; omega
  have e1 : (nI L' * 8 + 1).toInt = (L' * 8 + 1 : Nat) := by rw [ti_add (by rw [e0, ti_1]; omega), e0, ti_1]; omega
  have e2 : (nI L' * 8 + 2).toInt = (L' * 8 + 2 : Nat) := by rw [ti_add (by rw [e0, show (2 : Int32).toInt = 2 from rfl]; omega), e0, show (2 : Int32).toInt = 2 from rfl]; omega
  have e3 : (nI L' * 8 + 3).toInt = (L' * 8 + 3 : Nat) := by rw [ti_add (by rw [e0, show (3 : Int32).toInt = 3 from rfl]; omega), e0, show (3 : Int32).toInt = 3 from rfl]; omega
  refine zm_X0_open ?_
  simp only [zsI1, zsI2, hL, l1, z1, k1, z2]
  refine ⟨fun c => ?_, fun _ => ⟨fun _ => ⟨ti_in (by rw [e0]; omega), ti_in (by rw [e1]; omega), ti_in (by rw [e2]; omega), ti_in (by rw [e3]; omega), ?_⟩, fun c => ?_⟩⟩
  · rw [ti_lt, e0, ti_0] at c
    omega
  · rw [ti_at e0, ti_at e1, ti_at e2, ti_at e3]
    (simp only [zmI_sI, zmI_sL, zmI_sN, zsI2, zsL2, zmL_sL, zmL_sI, zmN_sI, zmN_sL, zmT_sI, zmT_sL, Nat.reduceEqDiff, false_and, and_false, and_self, if_false, if_true])
    exact h
  · rw [ti_lt, e3, show (192 : Int32).toInt = 192 from rfl] at c
    omega
theorem C_close {p1 p2 p3 p4 : Int32} {L : Nat} {Kf : zM → Prop} (hL : zmI M 21 r 2 = nI L) (h1 : L < 24)
    (h : Kf (zsIr M 22 r (zup (zup (zup (zup (zmI M 22 r) (L * 8 + 4) p1) (L * 8 + 5) p2) (L * 8 + 6) p3) (L * 8 + 7) p4))) :
    zCalV l G Y_X0_close 0 0 [vr 21 r, vi p1, vi p2, vi p3, vi p4] M Kf := by
  have e0 : (nI L * 8 + 4).toInt = (L * 8 + 4 : Nat) := by
    rw [ti_add (by rw [ti_mul (by rw [ti_nI (by omega), show (8 : Int32).toInt = 8 from rfl]; omega), ti_nI (by omega), show (8 : Int32).toInt = 8 from rfl, show (4 : Int32).toInt = 4 from rfl]; omega), ti_mul (by rw [ti_nI (by omega), show (8 : Int32).toInt = 8 from rfl]; omega), ti_nI (by omega), show (8 : Int32).toInt = 8 from rfl, show (4 : Int32).toInt = 4 from rfl]
    omega
  have e1 : (nI L * 8 + 4 + 1).toInt = (L * 8 + 5 : Nat) := by rw [ti_add (by rw [e0, ti_1]; omega), e0, ti_1]; omega
  have e2 : (nI L * 8 + 4 + 2).toInt = (L * 8 + 6 : Nat) := by rw [ti_add (by rw [e0, show (2 : Int32).toInt = 2 from rfl]; omega), e0, show (2 : Int32).toInt = 2 from rfl]; omega
  have e3 : (nI L * 8 + 4 + 3).toInt = (L * 8 + 7 : Nat) := by rw [ti_add (by rw [e0, show (3 : Int32).toInt = 3 from rfl]; omega), e0, show (3 : Int32).toInt = 3 from rfl]; omega
  refine zm_X0_close ?_
  simp only [hL]
  refine ⟨fun c => ?_, fun _ => ⟨fun _ => ⟨ti_in (by rw [e0]; omega), ti_in (by rw [e1]; omega), ti_in (by rw [e2]; omega), ti_in (by rw [e3]; omega), ?_⟩, fun c => ?_⟩⟩
  · rw [ti_lt, e0, ti_0] at c
    omega
  · rw [ti_at e0, ti_at e1, ti_at e2, ti_at e3]
    (simp only [zmI_sI, zmI_sL, zmI_sN, zsI2, zsL2, zmL_sL, zmL_sI, zmN_sI, zmN_sL, zmT_sI, zmT_sL, Nat.reduceEqDiff, false_and, and_false, and_self, if_false, if_true])
    exact h
  · rw [ti_lt, e3, show (192 : Int32).toInt = 192 from rfl] at c
    omega
/-- a flow counts what came -/
def ct_L (L : Nat → Int64) (a : Nat) : Nat → Int64 := if a = 0 then zup L 0 (L 0 + 1) else zup (zup L 0 (L 0 + 1)) a (zup L 0 (L 0 + 1) a + 1)
theorem C_countArrival {way out : Int32} {f a : Nat} {Kf : zM → Prop} (ha : (out = 0 ∧ a = 0) ∨ (out = 1 ∧ a = 1) ∨ (out = 2 ∧ way = 0 ∧ a = 4) ∨ (out = 2 ∧ way = 2 ∧ a = 3) ∨ (out = 2 ∧ way = 3 ∧ a = 2)) (ht : zmI M 17 f 8 = 0 ∨ zmI M 17 f 8 = 1)
    (h : Kf (zsIr (zsLr M 18 f (ct_L (zmL M 18 f) a)) 17 f (if out = 0 then zmI M 17 f else zup (zmI M 17 f) 8 1))) : zCalV l G Y_X1_countArrival 0 0 [vr 17 f, vi way, vi out] M Kf := by
  have tail : ∀ (M' : zM), zmI M' 17 f = zmI M 17 f → Kf (zsIr M' 17 f (if out = 0 then zmI M 17 f else zup (zmI M 17 f) 8 1)) → zAt l G Y_X1_countArrival (zEV G Y_X1_countArrival Kf) 57 [(0, vr 17 f), (2, vi out)] [] M' 0 0 := by
    intro M' hM' hk
    have hz : ∀ v : Int32, zmI M 17 f 8 = v → zup (zmI M 17 f) 8 v = zmI M 17 f := fun v hv => by
      funext j
      unfold zup
      split
      · next c => rw [c, hv]
      · rfl
    refine zb_X1_countArrival_57 ⟨fun c => ?_, fun c => ⟨fun d => ?_, fun d => ?_⟩⟩
    · show Kf (zsIr M' 17 f (zup (zmI M' 17 f) 8 1))
      rw [hM'] at c ⊢
      have c1 : zmI M 17 f 8 = 1 := ht.resolve_left c
      rw [hz 1 c1] at hk ⊢
      rw [ite_self] at hk
      exact hk
    · show Kf (zsIr M' 17 f (zup (zmI M' 17 f) 8 0))
      rw [hM'] at c ⊢
      rw [hz 0 c]
      rw [if_pos d] at hk
      exact hk
    · show Kf (zsIr M' 17 f (zup (zmI M' 17 f) 8 1))
      rw [hM']
      rw [if_neg d] at hk
      exact hk
  unfold ct_L at h
  refine zm_X1_countArrival ⟨fun c => zb_X1_countArrival_25 ⟨fun d => ?_, fun d => ?_⟩, fun c => zb_X1_countArrival_25 ⟨fun d => ?_, fun d => absurd (c.symm.trans d) (by decide)⟩⟩
  · rcases ha with ⟨h1, h2⟩ | ⟨h1, h2⟩ | ⟨h1, h2, h3⟩ | ⟨h1, h2, h3⟩ | ⟨h1, h2, h3⟩
    · rw [if_pos h2] at h
      exact tail _ rfl h
    · exact absurd h1 c
    · exact absurd h1 d
    · exact absurd h1 d
    · exact absurd h1 d
  · rcases ha with ⟨h1, h2⟩ | ⟨h1, h2⟩ | ⟨h1, h2, h3⟩ | ⟨h1, h2, h3⟩ | ⟨h1, h2, h3⟩
    · exact absurd (h1.symm.trans d) (by decide)
    · exact absurd h1 c
    · refine ⟨fun e => absurd h2 e, fun _ => zb_X1_countArrival_52 ⟨ti_in (by decide), ti_in (by decide), tail _ rfl ?_⟩⟩
      rw [h3, if_neg (by decide)] at h
      (simp only [zmI_sI, zmI_sL, zmI_sN, zsI2, zsL2, zmL_sL, zmL_sI, zmN_sI, zmN_sL, zmT_sI, zmT_sL, Nat.reduceEqDiff, false_and, and_false, and_self, if_false, if_true])
      exact h
    · refine ⟨fun _ => ⟨fun e => absurd h2 e, fun _ => zb_X1_countArrival_52 ⟨ti_in (by decide), ti_in (by decide), tail _ rfl ?_⟩⟩, fun e => absurd (h2.symm.trans e) (by decide)⟩
      rw [h3, if_neg (by decide)] at h
      (simp only [zmI_sI, zmI_sL, zmI_sN, zsI2, zsL2, zmL_sL, zmL_sI, zmN_sI, zmN_sL, zmT_sI, zmT_sL, Nat.reduceEqDiff, false_and, and_false, and_self, if_false, if_true])
      exact h
    · refine ⟨fun _ => ⟨fun _ => zb_X1_countArrival_52 ⟨ti_in (by decide), ti_in (by decide), tail _ rfl ?_⟩, fun e => absurd (h2.symm.trans e) (by decide)⟩, fun e => absurd (h2.symm.trans e) (by decide)⟩
      rw [h3, if_neg (by decide)] at h
      (simp only [zmI_sI, zmI_sL, zmI_sN, zsI2, zsL2, zmL_sL, zmL_sI, zmN_sI, zmN_sL, zmT_sI, zmT_sL, Nat.reduceEqDiff, false_and, and_false, and_self, if_false, if_true])
      exact h
  · rcases ha with ⟨h1, h2⟩ | ⟨h1, h2⟩ | ⟨h1, h2, h3⟩ | ⟨h1, h2, h3⟩ | ⟨h1, h2, h3⟩
    · exact absurd (h1.symm.trans c) (by decide)
    · rw [h2, if_neg (by decide)] at h
      (simp only [zmI_sI, zmI_sL, zmI_sN, zsI2, zsL2, zmL_sL, zmL_sI, zmN_sI, zmN_sL, zmT_sI, zmT_sL, Nat.reduceEqDiff, false_and, and_false, and_self, if_false, if_true])
      exact tail _ rfl h
    · exact absurd h1 d
    · exact absurd h1 d
    · exact absurd h1 d
end
