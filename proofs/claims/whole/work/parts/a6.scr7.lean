/-! SCRIPTS: a bracket is closed, the class -/
section
variable {l : Launch} {G : zG} {M M0 Mz : zM} {A : Nat} {b : Nat → Int32} {F : Nat} {S S' : Nat × Int32 × Int32} {w f Q Q0 : Nat → Int32} {t : Int32}
variable {told L a : Nat} {sk r : List Nat} {o z : Nat → Int32}
theorem YR.set7 {v : Int32} (h : YR told L sk o f z M) : YR told L sk o f (zup z a v) (zsI M 7 0 a v) := by
  refine YR.mk (by rw [zmO _ _ _ _ _ _ (by omega)]; exact h.len) (by rw [zmO _ _ _ _ _ _ (by omega)]; exact h.tol) (by rw [zmO _ _ _ _ _ _ (by omega)]; exact h.dep) (fun k hk => ?_) (fun i hi => by rw [zmO _ _ _ _ _ _ (by omega)]; exact h.opn i hi)
  rw [zmO _ _ _ _ _ _ (by omega), zmO _ _ _ _ _ _ (by omega), zmU]
  obtain ⟨q1, q2, q3⟩ := h.row k hk
  refine ⟨q1, q2, ?_⟩
  by_cases c : k = a
  · rw [c, zup_self, zup_self]
  · rw [zup_ne _ _ c, zup_ne _ _ c]; exact q3
theorem YR.pop {v : Int32} (h : YR told L (a :: r) o f z M) (hv : v = nI r.length) : YR told L r o f z (zsI M 4 0 9 v) := by
  refine YR.mk (by rw [zmU, zup_ne _ _ (by omega)]; exact h.len) (by rw [zmU, zup_ne _ _ (by omega)]; exact h.tol) (by rw [zmU, zup_self, hv]) (fun k hk => by rw [zmO _ _ _ _ _ _ (by omega), zmO _ _ _ _ _ _ (by omega), zmO _ _ _ _ _ _ (by omega)]; exact h.row k hk) (fun i hi => ?_)
  rw [zmO _ _ _ _ _ _ (by omega), h.opn i (by show i < r.length + 1; omega)]
  show nI ((a :: r).getD (r.length + 1 - 1 - i) 0) = _
  rw [show r.length + 1 - 1 - i = (r.length - 1 - i) + 1 by omega]
  rfl
theorem C_unbrack {Kf : zM → Prop} (hT : Tx b F M) (hk : TK b F S (zmI M 1 0)) (hf : yFr M0 M) (hY : S.2.1 = 0 → YR told L (a :: r) o f z M) (hs : r.length < 2) (hL : L < 60) (ha : a < L) (h : ∀ M', Tx b F M' → TK b F (t_exp b F 3 (t_exp b F 5 S)) (zmI M' 1 0) → yFr M0 M' → ((t_exp b F 3 (t_exp b F 5 S)).2.1 = 0 → YR told (L + 1) r (zup o L 9) (zup f L (nI a)) (zup (zup z L 0) a (nI (L + 1))) M') → Kf M') : zCalV l G Y_X6_closeBracket 0 0 [vr 4 0] M Kf := by
  refine zm_X6_closeBracket (C_expT (k := 5) hT hk rfl (by decide) fun P1 k1 => C_expT (S := t_exp b F 5 S) (k := 3) (hT.set k1.len) (by rw [zmU]; exact k1) rfl (by decide) fun P2 k2 => ?_)
  rw [zsI2]
  have f2 : yFr M0 (zsIr M 1 0 P2) := hf.I (.inl rfl)
  have hT2 : Tx b F (zsIr M 1 0 P2) := hT.set k2.len
  have t2 : TK b F (t_exp b F 3 (t_exp b F 5 S)) (zmI (zsIr M 1 0 P2) 1 0) := by rw [zmU]; exact k2
  have hY2 : (t_exp b F 3 (t_exp b F 5 S)).2.1 = 0 → YR told L (a :: r) o f z (zsIr M 1 0 P2) := fun g => (hY (t_exp_0 (t_exp_0 g))).one
  generalize zsIr M 1 0 P2 = M2 at f2 hT2 t2 hY2
  generalize t_exp b F 3 (t_exp b F 5 S) = S2 at t2 hY2 h
  have e9 : zmI (zsI M2 4 0 9 (zmI M2 4 0 9 - 1)) 4 0 9 = zmI M2 4 0 9 - 1 := by rw [zmU, zup_self]
  rw [e9]
  have f3 : yFr M0 (zsI M2 4 0 9 (zmI M2 4 0 9 - 1)) := f2.I (by omega)
  have hT3 : Tx b F (zsI M2 4 0 9 (zmI M2 4 0 9 - 1)) := hT2.y (zmO _ _ _ _ _ _ (by omega)) (zmO _ _ _ _ _ _ (by omega))
  have t3 : TK b F S2 (zmI (zsI M2 4 0 9 (zmI M2 4 0 9 - 1)) 1 0) := by rw [zmO _ _ _ _ _ _ (by omega)]; exact t2
  have ed : S2.2.1 = 0 → zmI M2 4 0 9 - 1 = nI r.length := fun g => by
    rw [(hY2 g).dep, show (a :: r).length = r.length + 1 from rfl]
    exact nI_ofT (by
      rw [ti_sub (by rw [ti_nI (by omega), ti_1]; omega), ti_nI (by omega), ti_1]
      omega)
  have hY3 : S2.2.1 = 0 → YR told L r o f z (zsI M2 4 0 9 (zmI M2 4 0 9 - 1)) := fun g => (hY2 g).pop (ed g)
  have e90 : zmI (zsI M2 4 0 9 (zmI M2 4 0 9 - 1)) 9 0 (zmI M2 4 0 9 - 1).toNatClampNeg = zmI M2 9 0 (zmI M2 4 0 9 - 1).toNatClampNeg := by rw [zmO _ _ _ _ _ _ (by omega)]
  rw [e90]
  have eag : S2.2.1 = 0 → zmI M2 9 0 (zmI M2 4 0 9 - 1).toNatClampNeg = nI a := fun g => by
    rw [ed g, ti_at (ti_nI (by omega)), (hY2 g).opn r.length (by show r.length < r.length + 1; omega)]
    show nI ((a :: r).getD (r.length + 1 - 1 - r.length) 0) = _
    rw [show r.length + 1 - 1 - r.length = 0 by omega]
    rfl
  generalize zmI M2 9 0 (zmI M2 4 0 9 - 1).toNatClampNeg = ag at eag
  have no : ¬ S2.2.1 = 0 → ∀ M', Tx b F M' → TK b F S2 (zmI M' 1 0) → yFr M0 M' → Kf M' := fun n M' a1 a2 a3 => h M' a1 a2 a3 fun g => absurd g n
  refine ⟨fun c => no (fun g => ?_) _ hT3 t3 f3, fun c => ⟨fun d => ⟨ti_in ?_, C_row (told := told) (L := L) (sk := r) (o := o) (f := f) (z := z) f3 fun M4 f4 e4 y4 => ?_⟩, fun d => no (fun g => ?_) _ hT3 t3 f3⟩⟩
  · rw [ed g, ti_lt, ti_nI (by omega), ti_0] at c
    omega
  · rw [ti_lt, ti_0] at c
    rw [ti_lt, show (2 : Int32).toInt = 2 from rfl] at d
    omega
  · have hT4 : Tx b F M4 := Tx.mk hT3.hF (by rw [e4]; exact hT3.len) (fun j hj => by
      show M4.1 2 0 j = _
      rw [f4.1 2 0 (by omega), ← f3.1 2 0 (by omega)]
      exact hT3.byt j hj)
    have t4 : TK b F S2 (zmI M4 1 0) := by rw [e4]; exact t3
    refine ⟨fun g => no (fun q => ?_) _ hT4 t4 f4, fun g => ⟨fun p => no (fun q => ?_) _ hT4 t4 f4, fun p => ⟨ti_in ?_, ?_⟩⟩⟩
    · rw [eag q, ti_lt, ti_nI (by omega), ti_0] at g
      omega
    · rw [eag q, ti_le, ti_nI (by omega), show (60 : Int32).toInt = 60 from rfl] at p
      omega
    · rw [ti_lt, ti_0] at g
      rw [ti_le, show (60 : Int32).toInt = 60 from rfl] at p
      omega
    · refine h _ (hT4.y (zmO _ _ _ _ _ _ (by omega)) (zmO _ _ _ _ _ _ (by omega))) (by rw [zmO _ _ _ _ _ _ (by omega)]; exact t4) (f4.I (by omega)) fun q => ?_
      have y5 := y4 (hY3 q) hL
      rw [y5.len]
      have eA : ag.toNatClampNeg = a := by rw [eag q]; exact ti_at (ti_nI (by omega))
      rw [eA]
      rw [eag q] at y5
      exact y5.set7
  · rw [ed g, ti_lt, ti_nI (by omega), show (2 : Int32).toInt = 2 from rfl] at d
    omega
end
