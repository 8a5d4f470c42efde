section
variable {l : Launch} {G : zG} {M : zM} {A : Nat}
theorem byt_k (v : Int32) : ((v >>> (24 &&& 31)) &&& 255 = byt v 0) ∧ ((v >>> (16 &&& 31)) &&& 255 = byt v 1) ∧ ((v >>> (8 &&& 31)) &&& 255 = byt v 2) ∧ (v &&& 255 = byt v 3) := by
  refine ⟨rfl, rfl, rfl, ?_⟩
  apply b_ext
  intro i hi
  show _ = bt ((v >>> (nI 0 &&& 31)) &&& 255) i
  rw [b_and, b_and, b_sshr 0 (by omega) _ hi, if_pos (by omega), Nat.zero_add]
theorem byt_pos {v : Int32} {k : Nat} : byt v k ≤ 0 ↔ byt v k = 0 := by
  have h : 0 ≤ (byt v k).toInt ∧ (byt v k).toInt ≤ 255 := byt_rng _
  rw [ti_le, ti_eq, ti_0]
  omega
def b1 (v : Int32) (k : Nat) : Int32 := if byt v k = 0 then 0 else 1
theorem R_b1 {v : Int32} {k : Nat} {Kf : Int32 → zM → Prop} (h : Kf (b1 v k) M) : (byt v k ≤ 0 → zCalI l G Y_X9_one 0 0 [vi 0] M Kf) ∧ (¬ byt v k ≤ 0 → zCalI l G Y_X9_one 0 0 [vi 1] M Kf) := by
  unfold b1 at h
  refine ⟨fun c => R_one ?_, fun c => R_one ?_⟩
  · rw [if_pos (byt_pos.mp c)] at h
    exact h
  · rw [if_neg (fun g => c (byt_pos.mpr g))] at h
    exact h
theorem b1_sum (v : Int32) : b1 v 0 + b1 v 1 + b1 v 2 + b1 v 3 = nI (nbk v 4) := by
  show _ = nI ((((0 + (if byt v 0 = 0 then 0 else 1)) + (if byt v 1 = 0 then 0 else 1)) + (if byt v 2 = 0 then 0 else 1)) + (if byt v 3 = 0 then 0 else 1))
  unfold b1
  by_cases c0 : byt v 0 = 0 <;> by_cases c1 : byt v 1 = 0 <;> by_cases c2 : byt v 2 = 0 <;> by_cases c3 : byt v 3 = 0 <;> simp only [c0, c1, c2, c3, if_true, if_false] <;> rfl
theorem R_bytesIn {v : Int32} {Kf : Int32 → zM → Prop} (h : Kf (nI (nbk v 4)) M) : zCalI l G Y_X9_bytesIn 0 0 [vi v] M Kf := by
  obtain ⟨k0, k1, k2, k3⟩ := byt_k v
  rw [← b1_sum] at h
  refine zm_X9_bytesIn ?_
  rw [k0]
  have e0 := R_b1 (l := l) (G := G) (M := M) (v := v) (k := 0) (Kf := fun x2 M1 => ((byt v 1 ≤ 0 → zAt l G Y_X9_bytesIn (zEI G Y_X9_bytesIn Kf) 35 [(0, vi v)] [vi 0, vi x2] M1 0 0) ∧ (¬ byt v 1 ≤ 0 → zAt l G Y_X9_bytesIn (zEI G Y_X9_bytesIn Kf) 35 [(0, vi v)] [vi 1, vi x2] M1 0 0))) ?_
  · refine ⟨fun c => zb_X9_bytesIn_16 ?_, fun c => zb_X9_bytesIn_16 ?_⟩
    · rw [k1]
      exact e0.1 c
    · rw [k1]
      exact e0.2 c
  · have e1 := R_b1 (l := l) (G := G) (M := M) (v := v) (k := 1) (Kf := fun x2 M1 => ((byt v 2 ≤ 0 → zAt l G Y_X9_bytesIn (zEI G Y_X9_bytesIn Kf) 55 [(0, vi v)] [vi 0, vi (b1 v 0 + x2)] M1 0 0) ∧ (¬ byt v 2 ≤ 0 → zAt l G Y_X9_bytesIn (zEI G Y_X9_bytesIn Kf) 55 [(0, vi v)] [vi 1, vi (b1 v 0 + x2)] M1 0 0))) ?_
    · refine ⟨fun c => zb_X9_bytesIn_35 ?_, fun c => zb_X9_bytesIn_35 ?_⟩
      · rw [k2]
        exact e1.1 c
      · rw [k2]
        exact e1.2 c
    · have e2 := R_b1 (l := l) (G := G) (M := M) (v := v) (k := 2) (Kf := fun x2 M1 => ((byt v 3 ≤ 0 → zAt l G Y_X9_bytesIn (zEI G Y_X9_bytesIn Kf) 72 [] [vi 0, vi (b1 v 0 + b1 v 1 + x2)] M1 0 0) ∧ (¬ byt v 3 ≤ 0 → zAt l G Y_X9_bytesIn (zEI G Y_X9_bytesIn Kf) 72 [] [vi 1, vi (b1 v 0 + b1 v 1 + x2)] M1 0 0))) ?_
      · refine ⟨fun c => zb_X9_bytesIn_55 ?_, fun c => zb_X9_bytesIn_55 ?_⟩
        · rw [k3]
          exact e2.1 c
        · rw [k3]
          exact e2.2 c
      · have e3 := R_b1 (l := l) (G := G) (M := M) (v := v) (k := 3) (Kf := fun x2 M1 => Kf (b1 v 0 + b1 v 1 + b1 v 2 + x2) M1) h
        exact ⟨fun c => zb_X9_bytesIn_72 (e3.1 c), fun c => zb_X9_bytesIn_72 (e3.2 c)⟩
end
