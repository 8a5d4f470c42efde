def sp_qo (w : Nat → Int32) (f : Int32) : Nat → Int32
  | 0 => 0
  | k + 1 => sp_qo w f k + (if w (sq k 0) = f then 1 else 0)
def am (a2 a5 a6 a7 : Int32) : Int32 := if a2 = 3 then (if a5 ≤ a6 then (if a7 = 0 then 0 else 1) else (if a7 = 0 then 1 else 0)) else 0
def sp_am (w : Nat → Int32) (K : Nat) : Nat → Int32
  | 0 => 0
  | k + 1 => sp_am w K k + am (w (sd (K - 1 - k) 2)) (w (sd (K - 1 - k) 5)) (w (sd (K - 1 - k) 6)) (w (sd (K - 1 - k) 7))
section
variable {l : Launch} {G : zG} {M : zM} {A : Nat}
theorem R_queuedOf {N : Nat} {f : Int32} {w : Nat → Int32} {Kf : Int32 → zM → Prop} (hw : zmI M 31 0 = w) (hN : (w 8).toInt = N) (hb : N ≤ 40) (h : Kf (sp_qo w f N) M) : zCalI l G Y_X9_queuedOf 0 0 [vr 30 0, vi f] M Kf := by
  have key : ∀ d j : Nat, j + d = N → ∀ y : Int32, y.toInt = j → zAt l G Y_X9_queuedOf (zEI G Y_X9_queuedOf Kf) 4 [(0, vr 30 0), (1, vi f), (2, vi (sp_qo w f j)), (3, vi y)] [] M 0 0 := by
    intro d
    induction d with
    | zero =>
      intro j hj y hy
      refine zb_X9_queuedOf_4 ⟨fun _ => ?_, fun c => ?_⟩
      · rw [show j = N by omega]; exact h
      · exfalso
        rw [ti_le, hw] at c
        omega
    | succ d ih =>
      intro j hj y hy
      refine zb_X9_queuedOf_4 ⟨fun c => ?_, fun _ => R_ofPacket hy (k := 0) rfl (by (first | omega | (simp only [sf, sq, sd] at *; omega))) ?_⟩
      · exfalso
        rw [ti_le, hw] at c
        omega
      · have nx := ih (j + 1) (by omega) (y + 1) (ti_inc hy (by omega))
        have e : sp_qo w f (j + 1) = sp_qo w f j + (if w (sq j 0) = f then 1 else 0) := rfl
        rw [e] at nx
        rw [hw]
        refine ⟨fun c => zb_X9_queuedOf_31 (R_one ?_), fun c => zb_X9_queuedOf_31 (R_one ?_)⟩
        · rw [if_neg c] at nx
          exact nx
        · rw [if_pos c] at nx
          exact nx
  exact zm_X9_queuedOf (key N 0 (by omega) 0 rfl)
theorem C_packetsOf {N r : Nat} {f : Int32} {w : Nat → Int32} {Kf : Int32 → zM → Prop} (hq : RQ (zmI M 19 r) (zmI M 20 r) w) (hN : (w 8).toInt = N) (hb : N ≤ 40) (h : Kf (sp_qo w f N) M) : zCalI l G Y_X3_packetsOf 0 0 [vr 19 r, vi f] M Kf := by
  have key : ∀ d j : Nat, j + d = N → ∀ y : Int32, y.toInt = j → zAt l G Y_X3_packetsOf (zEI G Y_X3_packetsOf Kf) 4 [(0, vr 19 r), (1, vi f), (2, vi (sp_qo w f j)), (3, vi y)] [] M 0 0 := by
    intro d
    induction d with
    | zero =>
      intro j hj y hy
      refine zb_X3_packetsOf_4 ⟨fun _ => ?_, fun c => ?_⟩
      · rw [show j = N by omega]; exact h
      · exfalso
        rw [ti_le, hq.1] at c
        omega
    | succ d ih =>
      intro j hj y hy
      refine zb_X3_packetsOf_4 ⟨fun c => ?_, fun _ => C_qcell hy (k := 0) rfl (by omega) ?_⟩
      · exfalso
        rw [ti_le, hq.1] at c
        omega
      · have nx := ih (j + 1) (by omega) (y + 1) (ti_inc hy (by omega))
        have e : sp_qo w f (j + 1) = sp_qo w f j + (if w (sq j 0) = f then 1 else 0) := rfl
        rw [e] at nx
        rw [show zmI M 20 r (3 * j + 0) = w (sq j 0) from (hq.2 (3 * j + 0) (by omega)).trans (congrArg w (by (first | omega | (simp only [sf, sq, sd] at *; omega))))]
        refine ⟨fun c => zb_X3_packetsOf_25 ?_, fun c => zb_X3_packetsOf_25 ?_⟩
        · rw [if_neg c, show sp_qo w f j + 0 = sp_qo w f j from Int32.add_zero _] at nx
          exact nx
        · rw [if_pos c] at nx
          exact nx
  exact zm_X3_packetsOf (key N 0 (by omega) 0 rfl)
theorem C_amiss {L K r : Nat} {p : Int32} {k : Nat} {w : Nat → Int32} {Kf : Int32 → zM → Prop} (hL : L < 24) (hK : K ≤ 24) (hb2 : zmI M 21 r 2 = nI L) (hp : p.toInt = k) (hk : k < K) (hD : ∀ k q : Nat, k < K → q < 8 → zmI M 22 r ((L + 24 - k) % 24 * 8 + q) = w (sd (K - 1 - k) q))
    (h : Kf (am (w (sd (K - 1 - k) 2)) (w (sd (K - 1 - k) 5)) (w (sd (K - 1 - k) 6)) (w (sd (K - 1 - k) 7))) M) : zCalI l G Y_X0_isAmiss 0 0 [vr 21 r, vi p] M Kf := by
  have cell : ∀ (q : Int32) (a : Nat) {Kf : Int32 → zM → Prop}, q.toInt = a → a < 8 → Kf (w (sd (K - 1 - k) a)) M → zCalI l G Y_X0_cell 0 0 [vr 21 r, vi p, vi q] M Kf := fun q a {Kf} hq ha hz => C_dcell (w := w) (K := K) hL hb2 hp (by omega) hq ha (by rw [hD k a hk ha]; exact hz)
  unfold am at h
  have fin : ∀ (s0 : Int32) , Kf (if w (sd (K - 1 - k) 7) = 0 then (if (1 : Int32) = s0 then 1 else 0) else (if (0 : Int32) = s0 then 1 else 0)) M → zAt l G Y_X0_isAmiss (zEI G Y_X0_isAmiss Kf) 33 [(0, vr 21 r), (1, vi p)] [vi s0] M 0 0 := fun s0 hz => by
    refine zb_X0_isAmiss_33 (cell 7 7 rfl (by omega) ⟨fun c => ?_, fun c => ?_⟩)
    · rw [if_neg c] at hz
      refine zb_X0_isAmiss_49 ⟨fun d => ?_, fun d => ?_⟩
      · rw [if_neg (fun g => d g.symm)] at hz; exact hz
      · rw [if_pos d.symm] at hz; exact hz
    · rw [if_pos c] at hz
      refine zb_X0_isAmiss_49 ⟨fun d => ?_, fun d => ?_⟩
      · rw [if_neg (fun g => d g.symm)] at hz; exact hz
      · rw [if_pos d.symm] at hz; exact hz
  refine zm_X0_isAmiss (cell 2 2 rfl (by omega) ⟨fun c => cell 6 6 rfl (by omega) (cell 5 5 rfl (by omega) ⟨fun d => fin 0 ?_, fun d => fin 1 ?_⟩), fun c => ?_⟩)
  · rw [if_pos c, if_pos d] at h
    exact h
  · rw [if_pos c, if_neg d] at h
    exact h
  · rw [if_neg c] at h
    exact h
theorem R_amissLoop {K : Nat} {w : Nat → Int32} {M1 : zM} {Kf : Int32 → zM → Prop} (hw : zmI M1 31 0 = w) (hK : K ≤ 24) (h12 : w 12 = nI K) (h : Kf (sp_am w K K) M1) : zAt l G Y_X9_amiss (zEI G Y_X9_amiss Kf) 9 [(0, vr 30 0), (1, vi 0), (2, vi 0)] [] M1 0 0 := by
  have kI : (nI K).toInt = K := ti_nI (by omega)
  have key : ∀ d j : Nat, j + d = K → ∀ y : Int32, y.toInt = j → zAt l G Y_X9_amiss (zEI G Y_X9_amiss Kf) 9 [(0, vr 30 0), (1, vi (sp_am w K j)), (2, vi y)] [] M1 0 0 := by
    intro d
    induction d with
    | zero =>
      intro j hj y hy
      refine zb_X9_amiss_9 ⟨fun _ => ?_, fun c => ?_⟩
      · rw [show j = K by omega]; exact h
      · exfalso
        rw [ti_le, hw, h12, kI] at c
        omega
    | succ d ih =>
      intro j hj y hy
      have nx := ih (j + 1) (by omega) (y + 1) (ti_inc hy (by omega))
      have e : sp_am w K (j + 1) = sp_am w K j + am (w (sd (K - 1 - j) 2)) (w (sd (K - 1 - j) 5)) (w (sd (K - 1 - j) 6)) (w (sd (K - 1 - j) 7)) := rfl
      rw [e] at nx
      have cell : ∀ (q : Int32) (a : Nat) {Kf : Int32 → zM → Prop}, q.toInt = a → a < 8 → Kf (w (sd (K - 1 - j) a)) M1 → zCalI l G Y_X9_ofDecision 0 0 [vr 30 0, vi y, vi q] M1 Kf := fun q a {Kf} hq ha hz => R_ofDec (w := w) hw h12 hK hy (by omega) hq ha hz
      have z0 : sp_am w K j + 0 = sp_am w K j := Int32.add_zero _
      have e74 : ∀ v : Int32, v = 0 → am (w (sd (K - 1 - j) 2)) (w (sd (K - 1 - j) 5)) (w (sd (K - 1 - j) 6)) (w (sd (K - 1 - j) 7)) = v → zAt l G Y_X9_amiss (zEI G Y_X9_amiss Kf) 74 [(0, vr 30 0), (2, vi y)] [vi (sp_am w K j)] M1 0 0 := fun v hv ha => by
        rw [ha, hv] at nx
        exact zb_X9_amiss_74 (zb_X9_amiss_75 (R_one nx))
      have e75 : am (w (sd (K - 1 - j) 2)) (w (sd (K - 1 - j) 5)) (w (sd (K - 1 - j) 6)) (w (sd (K - 1 - j) 7)) = 1 → zAt l G Y_X9_amiss (zEI G Y_X9_amiss Kf) 75 [(0, vr 30 0), (2, vi y)] [vi 1, vi (sp_am w K j)] M1 0 0 := fun ha => by
        rw [ha] at nx
        exact zb_X9_amiss_75 (R_one nx)
      refine zb_X9_amiss_9 ⟨fun c => ?_, fun _ => cell 2 2 rfl (by omega) ⟨fun c => e74 0 rfl (if_neg c), fun c => cell 6 6 rfl (by omega) (cell 5 5 rfl (by omega) ⟨fun d => zb_X9_amiss_52 (cell 7 7 rfl (by omega) ⟨fun f => zb_X9_amiss_67 ⟨fun _ => e74 0 rfl ?_, fun g => absurd rfl g⟩, fun f => zb_X9_amiss_67 ⟨fun g => absurd g (by decide), fun _ => e75 ?_⟩⟩), fun d => zb_X9_amiss_52 (cell 7 7 rfl (by omega) ⟨fun f => zb_X9_amiss_67 ⟨fun g => absurd g (by decide), fun _ => e75 ?_⟩, fun f => zb_X9_amiss_67 ⟨fun _ => e74 0 rfl ?_, fun g => absurd rfl g⟩⟩)⟩)⟩⟩
      · exfalso
        rw [ti_le, hw, h12, kI] at c
        omega
      · unfold am
        rw [if_pos c, if_pos d, if_pos f]
      · unfold am
        rw [if_pos c, if_pos d, if_neg f]
      · unfold am
        rw [if_pos c, if_neg d, if_pos f]
      · unfold am
        rw [if_pos c, if_neg d, if_neg f]
  exact key K 0 (by omega) 0 rfl
theorem P_amiss (hI : Inv M A) : zCalI l G Y_X8_amiss 0 0 [vr 0 0] M (fun x M1 => zCalI l G Y_X9_amiss 0 0 [vr 30 0] M1 (fun y M2 => y = x ∧ Good A 0 M2)) := by
  obtain ⟨n, hR, hO⟩ := hI.1
  obtain ⟨-, -, -, L, K, hL, hK, hb2, hb1, hD⟩ := hR
  obtain ⟨d1, d2⟩ := hD rfl
  have kI : (nI K).toInt = K := ti_nI (by omega)
  have ref : zCalI l G Y_X9_amiss 0 0 [vr 30 0] M (fun y M2 => y = sp_am (zmI M 31 0) K K ∧ Good A 0 M2) := zm_X9_amiss (R_amissLoop (w := zmI M 31 0) (z31_thr M 0) hK d1 ⟨rfl, Good.z hI⟩)
  have key : ∀ d j : Nat, j + d = K → ∀ y : Int32, y.toInt = j → zAt l G Y_X8_amiss (zEI G Y_X8_amiss (fun x M1 => zCalI l G Y_X9_amiss 0 0 [vr 30 0] M1 (fun y M2 => y = x ∧ Good A 0 M2))) 4 [(0, vr 0 0), (1, vi (sp_am (zmI M 31 0) K j)), (2, vi y)] [] M 0 0 := by
    intro d
    induction d with
    | zero =>
      intro j hj y hy
      refine zb_X8_amiss_4 ⟨fun _ => ?_, fun c => ?_⟩
      · rw [show j = K by omega]; exact ref
      · exfalso
        rw [ti_le, hb1, kI] at c
        omega
    | succ d ih =>
      intro j hj y hy
      have nx := ih (j + 1) (by omega) (y + 1) (ti_inc hy (by omega))
      refine zb_X8_amiss_4 ⟨fun c => ?_, fun _ => C_amiss (w := zmI M 31 0) hL hK hb2 hy (by omega) d2 ?_⟩
      · exfalso
        rw [ti_le, hb1, kI] at c
        omega
      · have e : sp_am (zmI M 31 0) K (j + 1) = sp_am (zmI M 31 0) K j + am (zmI M 31 0 (sd (K - 1 - j) 2)) (zmI M 31 0 (sd (K - 1 - j) 5)) (zmI M 31 0 (sd (K - 1 - j) 6)) (zmI M 31 0 (sd (K - 1 - j) 7)) := rfl
        have a01 : am (zmI M 31 0 (sd (K - 1 - j) 2)) (zmI M 31 0 (sd (K - 1 - j) 5)) (zmI M 31 0 (sd (K - 1 - j) 6)) (zmI M 31 0 (sd (K - 1 - j) 7)) = 0 ∨ am (zmI M 31 0 (sd (K - 1 - j) 2)) (zmI M 31 0 (sd (K - 1 - j) 5)) (zmI M 31 0 (sd (K - 1 - j) 6)) (zmI M 31 0 (sd (K - 1 - j) 7)) = 1 := by
          unfold am
          split
          · split
            · split
              · exact Or.inl rfl
              · exact Or.inr rfl
            · split
              · exact Or.inr rfl
              · exact Or.inl rfl
          · exact Or.inl rfl
        rw [e] at nx
        refine ⟨fun c => zb_X8_amiss_35 ?_, fun c => zb_X8_amiss_35 ?_⟩
        · rw [c, show sp_am (zmI M 31 0) K j + 0 = sp_am (zmI M 31 0) K j from Int32.add_zero _] at nx
          exact nx
        · rw [a01.resolve_left c] at nx
          exact nx
  exact zm_X8_amiss (key K 0 (by omega) 0 rfl)
end
