/-! FEED -/
def byt (v : Int32) (k : Nat) : Int32 := (v >>> (nI (24 - 8 * k) &&& 31)) &&& 255
def nbk (v : Int32) : Nat → Nat
  | 0 => 0
  | k + 1 => nbk v k + (if byt v k = 0 then 0 else 1)
theorem nbk_le (v : Int32) : ∀ k, nbk v k ≤ k
  | 0 => Nat.le_refl _
  | k + 1 => by
    have := nbk_le v k
    show nbk v k + (if byt v k = 0 then 0 else 1) ≤ k + 1
    split <;> omega
def fd (g : Nat → Int32) (F : Nat) (v : Int32) : Nat → (Nat → Int32)
  | 0 => g
  | k + 1 => if byt v k = 0 then fd g F v k else zup (fd g F v k) (F + nbk v k) (byt v k)
theorem byt_u {v y : Int32} {k : Nat} (hk : k < 4) (hy : y = nI (24 - 8 * k)) : ((v.toUInt32 >>> (y.toUInt32 &&& Int32.toUInt32 31)).toInt32 &&& 255) = byt v k := by
  rw [hy]
  exact byt_eq v (by omega)
section
variable {l : Launch} {G : zG} {M : zM} {A : Nat}
theorem sh_next {k : Nat} (hk : k < 4) : (nI (24 - 8 * k) + (-8)).toInt = 16 - 8 * (k : Int) := by
  have e : (-8 : Int32).toInt = -8 := by decide
  rw [ti_add (by rw [ti_nI (by omega), e]; omega), ti_nI (by omega), e]
  omega
theorem C_bytesOf {v : Int32} {Kf : Int32 → zM → Prop} (h : Kf (nI (nbk v 4)) M) : zCalI l G Y_X4_bytesOf 0 0 [vi v] M Kf := by
  have key : ∀ d k : Nat, k + d = 4 → ∀ y : Int32, (k < 4 → y = nI (24 - 8 * k)) → (k = 4 → y.toInt = -8) → zAt l G Y_X4_bytesOf (zEI G Y_X4_bytesOf Kf) 5 [(0, vi v), (1, vi (nI (nbk v k))), (2, vi y)] [] M 0 0 := by
    intro d
    induction d with
    | zero =>
      intro k hk y hy hy4
      have k4 : k = 4 := by omega
      refine zb_X4_bytesOf_5 ⟨fun _ => by rw [k4]; exact h, fun c => ?_⟩
      exfalso
      rw [ti_lt, hy4 k4, ti_0] at c
      omega
    | succ d ih =>
      intro k hk y hy hy4
      have y1 := hy (by omega)
      have hb := nbk_le v k
      have nx := ih (k + 1) (by omega) (y + (-8)) (fun h => nI_ofT (by rw [y1, sh_next (by omega)]; omega)) (fun h => by rw [y1, sh_next (by omega)]; omega)
      refine zb_X4_bytesOf_5 ⟨fun c => ?_, fun _ => ?_⟩
      · exfalso
        rw [ti_lt, y1, ti_nI (by omega), ti_0] at c
        omega
      · rw [byt_u (by omega) y1]
        have e : nbk v (k + 1) = nbk v k + (if byt v k = 0 then 0 else 1) := rfl
        rw [e] at nx
        refine ⟨fun c => zb_X4_bytesOf_22 ?_, fun c => zb_X4_bytesOf_22 ?_⟩
        · rw [if_pos c] at nx
          exact nx
        · rw [if_neg c, show nI (nbk v k + 1) = nI (nbk v k) + 1 from (nI_1 _).symm] at nx
          exact nx
  exact zm_X4_bytesOf (key 4 0 (by omega) 24 (fun _ => rfl) (fun h => absurd h (by omega)))
theorem C_take {v : Int32} {F : Nat} {Kf : zM → Prop} (hF : M.1 1 0 1 = nI F) (hb : F + nbk v 4 ≤ 500) (h : Kf (zsIr (zsIr M 2 0 (fd (M.1 2 0) F v 4)) 1 0 (zup (M.1 1 0) 1 (nI (F + nbk v 4))))) : zCalV l G Y_X4_take 0 0 [vr 1 0, vi v] M Kf := by
  have mono : ∀ d k, k + d = 4 → nbk v k ≤ nbk v 4 := fun d => by
    induction d with
    | zero => intro k hk; rw [show k = 4 by omega]; exact Nat.le_refl _
    | succ d ih =>
      intro k hk
      have := ih (k + 1) (by omega)
      have e : nbk v (k + 1) = nbk v k + (if byt v k = 0 then 0 else 1) := rfl
      omega
  have key : ∀ d k : Nat, k + d = 4 → ∀ y : Int32, (k < 4 → y = nI (24 - 8 * k)) → (k = 4 → y.toInt = -8) → zAt l G Y_X4_take (zEV G Y_X4_take Kf) 3 [(0, vr 1 0), (1, vi v), (2, vi y)] [] (zsIr (zsIr M 2 0 (fd (M.1 2 0) F v k)) 1 0 (zup (M.1 1 0) 1 (nI (F + nbk v k)))) 0 0 := by
    intro d
    induction d with
    | zero =>
      intro k hk y hy hy4
      have k4 : k = 4 := by omega
      refine zb_X4_take_3 ⟨fun _ => by rw [k4]; exact h, fun c => ?_⟩
      exfalso
      rw [ti_lt, hy4 k4, ti_0] at c
      omega
    | succ d ih =>
      intro k hk y hy hy4
      have y1 := hy (by omega)
      have hm := mono (4 - k) k (by omega)
      have nx := ih (k + 1) (by omega) (y + (-8)) (fun h => nI_ofT (by rw [y1, sh_next (by omega)]; omega)) (fun h => by rw [y1, sh_next (by omega)]; omega)
      have e : nbk v (k + 1) = nbk v k + (if byt v k = 0 then 0 else 1) := rfl
      have ef : fd (M.1 2 0) F v (k + 1) = if byt v k = 0 then fd (M.1 2 0) F v k else zup (fd (M.1 2 0) F v k) (F + nbk v k) (byt v k) := rfl
      have hl : zmI (zsIr (zsIr M 2 0 (fd (M.1 2 0) F v k)) 1 0 (zup (M.1 1 0) 1 (nI (F + nbk v k)))) 1 0 1 = nI (F + nbk v k) := by
        simp only [zmI, zsI1, zup_self]
      have hI : (nI (F + nbk v k)).toInt = (F + nbk v k : Nat) := ti_nI (by omega)
      refine zb_X4_take_3 ⟨fun c => ?_, fun _ => ?_⟩
      · exfalso
        rw [ti_lt, y1, ti_nI (by omega), ti_0] at c
        omega
      · rw [byt_u (by omega) y1, hl]
        refine ⟨fun c => zb_X4_take_58 ?_, fun c => ⟨fun g => ?_, fun _ => ⟨fun g => ?_, fun _ => ⟨ti_in (by rw [hI]; have h1 := mono (4 - (k + 1)) (k + 1) (by omega); rw [e, if_neg c] at h1; omega), zb_X4_take_58 ?_⟩⟩⟩⟩
        · rw [e, ef, if_pos c, if_pos c] at nx
          exact nx
        · exfalso
          rw [ti_lt, hI, ti_0] at g
          omega
        · exfalso
          have h1 := mono (4 - (k + 1)) (k + 1) (by omega)
          rw [e, if_neg c] at h1
          rw [ti_le, hI, show (500 : Int32).toInt = 500 from rfl] at g
          omega
        · rw [e, ef, if_neg c, if_neg c] at nx
          rw [ti_at hI]
          have q1 : ∀ f g : Nat → Int32, zsIr (zsIr (zsIr (zsIr M 2 0 f) 1 0 g) 2 0 (zup f (F + nbk v k) (byt v k))) 1 0 (zup g 1 (nI (F + nbk v k) + 1)) = zsIr (zsIr M 2 0 (zup f (F + nbk v k) (byt v k))) 1 0 (zup g 1 (nI (F + nbk v k) + 1)) := fun f g => by
            refine Prod.ext ?_ rfl
            funext s i
            simp only [zmI_sI]
            by_cases c1 : s = 1 ∧ i = 0
            · simp only [c1, and_self, if_true]
            · simp only [c1, if_false]
              by_cases c2 : s = 2 ∧ i = 0
              · simp only [c2, and_self, if_true]
              · simp only [c2, if_false]
          have r2 : ∀ f g : Nat → Int32, (zsIr (zsIr M 2 0 f) 1 0 g).1 2 0 = f := fun f g => (zsIo _ _ _ _ _ _ (by omega)).trans (zsI1 _ _ _ _)
          have r1 : ∀ f g h' : Nat → Int32, (zsIr (zsIr (zsIr M 2 0 f) 1 0 g) 2 0 h').1 1 0 = g := fun f g h' => (zsIo _ _ _ _ _ _ (by omega)).trans (zsI1 _ _ _ _)
          have hmem : zsI (zsI (zsIr (zsIr M 2 0 (fd (M.1 2 0) F v k)) 1 0 (zup (M.1 1 0) 1 (nI (F + nbk v k)))) 2 0 (F + nbk v k) (byt v k)) 1 0 1 (nI (F + nbk v k) + 1) = zsIr (zsIr M 2 0 (zup (fd (M.1 2 0) F v k) (F + nbk v k) (byt v k))) 1 0 (zup (zup (M.1 1 0) 1 (nI (F + nbk v k))) 1 (nI (F + nbk v k) + 1)) := by
            show zsIr (zsIr (zsIr (zsIr M 2 0 (fd (M.1 2 0) F v k)) 1 0 (zup (M.1 1 0) 1 (nI (F + nbk v k)))) 2 0 (zup ((zsIr (zsIr M 2 0 (fd (M.1 2 0) F v k)) 1 0 (zup (M.1 1 0) 1 (nI (F + nbk v k)))).1 2 0) (F + nbk v k) (byt v k))) 1 0 (zup ((zsIr (zsIr (zsIr M 2 0 (fd (M.1 2 0) F v k)) 1 0 (zup (M.1 1 0) 1 (nI (F + nbk v k)))) 2 0 (zup ((zsIr (zsIr M 2 0 (fd (M.1 2 0) F v k)) 1 0 (zup (M.1 1 0) 1 (nI (F + nbk v k)))).1 2 0) (F + nbk v k) (byt v k))).1 1 0) 1 (nI (F + nbk v k) + 1)) = _
            rw [r2, r1, q1]
          simp only [zmI, r1, zup_self]
          rw [hmem]
          have e3 : zup (zup (M.1 1 0) 1 (nI (F + nbk v k))) 1 (nI (F + nbk v k) + 1) = zup (M.1 1 0) 1 (nI (F + (nbk v k + 1))) := by
            funext q
            unfold zup
            split
            · exact (nI_1 _)
            · rfl
          rw [e3]
          exact nx
  have k0 := key 4 0 (by omega) 24 (fun _ => rfl) (fun h => absurd h (by omega))
  have e0 : zsIr (zsIr M 2 0 (fd (M.1 2 0) F v 0)) 1 0 (zup (M.1 1 0) 1 (nI (F + nbk v 0))) = M := by
    have e1 : zup (M.1 1 0) 1 (nI (F + nbk v 0)) = M.1 1 0 := by
      funext q
      unfold zup
      split
      · next c => rw [c]; exact hF.symm
      · rfl
    rw [e1, show fd (M.1 2 0) F v 0 = M.1 2 0 from rfl, zsI0, zsI0]
  rw [e0] at k0
  exact zm_X4_take k0
end
