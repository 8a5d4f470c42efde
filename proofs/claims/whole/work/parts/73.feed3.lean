section
variable {l : Launch} {G : zG} {M : zM} {A : Nat}
theorem R_feeds {v : Int32} {F : Nat} {Kf : zM → Prop} (hF : M.1 30 0 10 = nI F) (hb : F + nbk v 4 ≤ 500) (h : Kf (zsIr (zsIr M 37 0 (fd (M.1 37 0) F v 4)) 30 0 (zup (M.1 30 0) 10 (nI (F + nbk v 4))))) : zCalV l G Y_X9_feeds 0 0 [vr 30 0, vi v] M Kf := by
  have mono : ∀ d k, k + d = 4 → nbk v k ≤ nbk v 4 := fun d => by
    induction d with
    | zero => intro k hk; rw [show k = 4 by omega]; exact Nat.le_refl _
    | succ d ih =>
      intro k hk
      have := ih (k + 1) (by omega)
      have e : nbk v (k + 1) = nbk v k + (if byt v k = 0 then 0 else 1) := rfl
      omega
  have key : ∀ d k : Nat, k + d = 4 → ∀ y : Int32, (k < 4 → y = nI (24 - 8 * k)) → (k = 4 → y.toInt = -8) → zAt l G Y_X9_feeds (zEV G Y_X9_feeds Kf) 3 [(0, vr 30 0), (1, vi v), (2, vi y)] [] (zsIr (zsIr M 37 0 (fd (M.1 37 0) F v k)) 30 0 (zup (M.1 30 0) 10 (nI (F + nbk v k)))) 0 0 := by
    intro d
    induction d with
    | zero =>
      intro k hk y hy hy4
      have k4 : k = 4 := by omega
      refine zb_X9_feeds_3 ⟨fun _ => by rw [k4]; exact h, fun c => ?_⟩
      exfalso
      rw [ti_lt, hy4 k4, ti_0] at c
      omega
    | succ d ih =>
      intro k hk y hy hy4
      have y1 := hy (by omega)
      have hm := mono (4 - k) k (by omega)
      have nx := ih (k + 1) (by omega) (y + (-8)) (fun h => nI_ofT (by rw [y1, sh_next (by omega)]; omega)) (fun h => by rw [y1, sh_next (by omega)]; omega)
      have e : nbk v (k + 1) = nbk v k + (if byt v k = 0 then 0 else 1) := rfl
      have ef : fd (M.1 37 0) F v (k + 1) = if byt v k = 0 then fd (M.1 37 0) F v k else zup (fd (M.1 37 0) F v k) (F + nbk v k) (byt v k) := rfl
      have hl : zmI (zsIr (zsIr M 37 0 (fd (M.1 37 0) F v k)) 30 0 (zup (M.1 30 0) 10 (nI (F + nbk v k)))) 30 0 10 = nI (F + nbk v k) := by
        simp only [zmI, zsI1, zup_self]
      have hI : (nI (F + nbk v k)).toInt = (F + nbk v k : Nat) := ti_nI (by omega)
      refine zb_X9_feeds_3 ⟨fun c => ?_, fun _ => ?_⟩
      · exfalso
        rw [ti_lt, y1, ti_nI (by omega), ti_0] at c
        omega
      · rw [show ((v >>> (y &&& 31)) &&& 255) = byt v k by rw [y1]; rfl, hl]
        refine ⟨fun c => ⟨ti_in (by rw [hI]; have h1 := mono (4 - (k + 1)) (k + 1) (by omega); rw [e, if_neg c] at h1; omega), zb_X9_feeds_42 ?_⟩, fun c => zb_X9_feeds_42 ?_⟩
        · rw [e, ef, if_neg c, if_neg c] at nx
          rw [ti_at hI]
          have q1 : ∀ f g : Nat → Int32, zsIr (zsIr (zsIr (zsIr M 37 0 f) 30 0 g) 37 0 (zup f (F + nbk v k) (byt v k))) 30 0 (zup g 10 (nI (F + nbk v k) + 1)) = zsIr (zsIr M 37 0 (zup f (F + nbk v k) (byt v k))) 30 0 (zup g 10 (nI (F + nbk v k) + 1)) := fun f g => by
            refine Prod.ext ?_ rfl
            funext s i
            simp only [zmI_sI]
            by_cases c1 : s = 30 ∧ i = 0
            · simp only [c1, and_self, if_true]
            · simp only [c1, if_false]
              by_cases c2 : s = 37 ∧ i = 0
              · simp only [c2, and_self, if_true]
              · simp only [c2, if_false]
          have r2 : ∀ f g : Nat → Int32, (zsIr (zsIr M 37 0 f) 30 0 g).1 37 0 = f := fun f g => (zsIo _ _ _ _ _ _ (by omega)).trans (zsI1 _ _ _ _)
          have r1 : ∀ f g h' : Nat → Int32, (zsIr (zsIr (zsIr M 37 0 f) 30 0 g) 37 0 h').1 30 0 = g := fun f g h' => (zsIo _ _ _ _ _ _ (by omega)).trans (zsI1 _ _ _ _)
          have hmem : zsI (zsI (zsIr (zsIr M 37 0 (fd (M.1 37 0) F v k)) 30 0 (zup (M.1 30 0) 10 (nI (F + nbk v k)))) 37 0 (F + nbk v k) (byt v k)) 30 0 10 (nI (F + nbk v k) + 1) = zsIr (zsIr M 37 0 (zup (fd (M.1 37 0) F v k) (F + nbk v k) (byt v k))) 30 0 (zup (zup (M.1 30 0) 10 (nI (F + nbk v k))) 10 (nI (F + nbk v k) + 1)) := by
            show zsIr (zsIr (zsIr (zsIr M 37 0 (fd (M.1 37 0) F v k)) 30 0 (zup (M.1 30 0) 10 (nI (F + nbk v k)))) 37 0 (zup ((zsIr (zsIr M 37 0 (fd (M.1 37 0) F v k)) 30 0 (zup (M.1 30 0) 10 (nI (F + nbk v k)))).1 37 0) (F + nbk v k) (byt v k))) 30 0 (zup ((zsIr (zsIr (zsIr M 37 0 (fd (M.1 37 0) F v k)) 30 0 (zup (M.1 30 0) 10 (nI (F + nbk v k)))) 37 0 (zup ((zsIr (zsIr M 37 0 (fd (M.1 37 0) F v k)) 30 0 (zup (M.1 30 0) 10 (nI (F + nbk v k)))).1 37 0) (F + nbk v k) (byt v k))).1 30 0) 10 (nI (F + nbk v k) + 1)) = _
            rw [r2, r1, q1]
          simp only [zmI, r1, zup_self]
          rw [hmem]
          have e3 : zup (zup (M.1 30 0) 10 (nI (F + nbk v k))) 10 (nI (F + nbk v k) + 1) = zup (M.1 30 0) 10 (nI (F + (nbk v k + 1))) := by
            funext q
            unfold zup
            split
            · exact (nI_1 _)
            · rfl
          rw [e3]
          exact nx
        · rw [e, ef, if_pos c, if_pos c] at nx
          exact nx
  have k0 := key 4 0 (by omega) 24 (fun _ => rfl) (fun h => absurd h (by omega))
  have e0 : zsIr (zsIr M 37 0 (fd (M.1 37 0) F v 0)) 30 0 (zup (M.1 30 0) 10 (nI (F + nbk v 0))) = M := by
    have e1 : zup (M.1 30 0) 10 (nI (F + nbk v 0)) = M.1 30 0 := by
      funext q
      unfold zup
      split
      · next c => rw [c]; exact hF.symm
      · rfl
    rw [e1, show fd (M.1 37 0) F v 0 = M.1 37 0 from rfl, zsI0, zsI0]
  rw [e0] at k0
  exact zm_X9_feeds k0
end
