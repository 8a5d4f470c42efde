/-! SCRIPTS: an order is read, the class -/
section
variable {l : Launch} {G : zG} {M M0 Mz : zM} {A : Nat} {b : Nat → Int32} {F : Nat} {S S' : Nat × Int32 × Int32} {w f Q Q0 : Nat → Int32} {t : Int32}
def yFr (M M' : zM) : Prop := (∀ s i, ¬ (s = 1 ∨ s = 4 ∨ s = 5 ∨ s = 6 ∨ s = 7 ∨ s = 9) → M'.1 s i = M.1 s i) ∧ M'.2 = M.2
theorem yFr.I {M M' : zM} {s i : Nat} {f : Nat → Int32} (h : yFr M M') (hs : s = 1 ∨ s = 4 ∨ s = 5 ∨ s = 6 ∨ s = 7 ∨ s = 9) : yFr M (zsIr M' s i f) :=
  ⟨fun s' i' n => (zsIo _ _ _ _ _ _ (fun e => n (by rw [e.1]; exact hs))).trans (h.1 s' i' n), h.2⟩
theorem yFr.rel {M M' : zM} {e : Bool} (h : yFr M M') (hn : (w 11).toInt ≤ 6) (hR : Rel M 1 w e) : Rel M' 1 w e :=
  hR.kept hn (fun s i hi => h.1 s i (by unfold inR at hi; omega)) (fun _ _ _ => by rw [h.2]) (fun _ _ _ => by rw [h.2]) (fun a t q => by rw [h.2]; exact q)
/-- the script's rows, its counts and what is open -/
def YR (told L : Nat) (sk : List Nat) (o f z : Nat → Int32) (M : zM) : Prop := (zmI M 4 0 7 = nI L) ∧ (zmI M 4 0 8 = nI told) ∧ (zmI M 4 0 9 = nI sk.length) ∧ (∀ k, k < L → zmI M 5 0 k = o k ∧ zmI M 6 0 k = f k ∧ zmI M 7 0 k = z k) ∧ (∀ i, i < sk.length → zmI M 9 0 i = nI (sk.getD (sk.length - 1 - i) 0))
theorem YR.len {told L : Nat} {sk : List Nat} {o f z : Nat → Int32} {M : zM} (h9 : YR told L sk o f z M) : zmI M 4 0 7 = nI L := h9.1
theorem YR.tol {told L : Nat} {sk : List Nat} {o f z : Nat → Int32} {M : zM} (h9 : YR told L sk o f z M) : zmI M 4 0 8 = nI told := h9.2.1
theorem YR.dep {told L : Nat} {sk : List Nat} {o f z : Nat → Int32} {M : zM} (h9 : YR told L sk o f z M) : zmI M 4 0 9 = nI sk.length := h9.2.2.1
theorem YR.row {told L : Nat} {sk : List Nat} {o f z : Nat → Int32} {M : zM} (h9 : YR told L sk o f z M) : ∀ k, k < L → zmI M 5 0 k = o k ∧ zmI M 6 0 k = f k ∧ zmI M 7 0 k = z k := h9.2.2.2.1
theorem YR.opn {told L : Nat} {sk : List Nat} {o f z : Nat → Int32} {M : zM} (h9 : YR told L sk o f z M) : ∀ i, i < sk.length → zmI M 9 0 i = nI (sk.getD (sk.length - 1 - i) 0) := h9.2.2.2.2
theorem YR.mk {told L : Nat} {sk : List Nat} {o f z : Nat → Int32} {M : zM} (len : zmI M 4 0 7 = nI L) (tol : zmI M 4 0 8 = nI told) (dep : zmI M 4 0 9 = nI sk.length) (row : ∀ k, k < L → zmI M 5 0 k = o k ∧ zmI M 6 0 k = f k ∧ zmI M 7 0 k = z k) (opn : ∀ i, i < sk.length → zmI M 9 0 i = nI (sk.getD (sk.length - 1 - i) 0)) : YR told L sk o f z M := ⟨len, tol, dep, row, opn⟩
variable {told L : Nat} {sk : List Nat} {o z : Nat → Int32}
theorem YR.one {P : Nat → Int32} (h : YR told L sk o f z M) : YR told L sk o f z (zsIr M 1 0 P) :=
  YR.mk (by rw [zmO _ _ _ _ _ _ (by omega)]; exact h.len) (by rw [zmO _ _ _ _ _ _ (by omega)]; exact h.tol) (by rw [zmO _ _ _ _ _ _ (by omega)]; exact h.dep) (fun k hk => by rw [zmO _ _ _ _ _ _ (by omega), zmO _ _ _ _ _ _ (by omega), zmO _ _ _ _ _ _ (by omega)]; exact h.row k hk) (fun i hi => by rw [zmO _ _ _ _ _ _ (by omega)]; exact h.opn i hi)
/-- a row more: where there was no error, the row is there; else, none is looked at -/
theorem C_row {k x y : Int32} {Kf : zM → Prop} (hf : yFr M0 M) (h : ∀ M', yFr M0 M' → zmI M' 1 0 = zmI M 1 0 → (YR told L sk o f z M → L < 60 → YR told (L + 1) sk (zup o L k) (zup f L x) (zup z L y) M') → Kf M') : zCalV l G Y_X6_addRow 0 0 [vr 4 0, vi k, vi x, vi y] M Kf := by
  have same : (zmI M 4 0 7 < 0 ∨ ¬ zmI M 4 0 7 < 60) → Kf M := fun g => h M hf rfl fun hY hL => by
    exfalso
    rw [hY.len, ti_lt, ti_lt, ti_nI (by omega), ti_0, show (60 : Int32).toInt = 60 from rfl] at g
    omega
  refine zm_X6_addRow ⟨fun c => same (.inl c), fun c => ⟨fun d => ?_, fun d => same (.inr d)⟩⟩
  have cn : 0 ≤ (zmI M 4 0 7).toInt ∧ (zmI M 4 0 7).toInt < 60 := by
    rw [ti_lt, ti_0] at c
    rw [ti_lt, show (60 : Int32).toInt = 60 from rfl] at d
    omega
  have e1 : zmI (zsI M 5 0 (zmI M 4 0 7).toNatClampNeg k) 4 0 7 = zmI M 4 0 7 := by rw [zmO _ _ _ _ _ _ (by omega)]
  rw [e1]
  have e2 : zmI (zsI (zsI M 5 0 (zmI M 4 0 7).toNatClampNeg k) 6 0 (zmI M 4 0 7).toNatClampNeg x) 4 0 7 = zmI M 4 0 7 := by rw [zmO _ _ _ _ _ _ (by omega)]; exact e1
  rw [e2]
  have e3 : zmI (zsI (zsI (zsI M 5 0 (zmI M 4 0 7).toNatClampNeg k) 6 0 (zmI M 4 0 7).toNatClampNeg x) 7 0 (zmI M 4 0 7).toNatClampNeg y) 4 0 7 = zmI M 4 0 7 := by rw [zmO _ _ _ _ _ _ (by omega)]; exact e2
  rw [e3]
  refine ⟨ti_in (by omega), ti_in (by omega), ti_in (by omega), h _ ?_ ?_ fun hY hL => ?_⟩
  · exact (((hf.I (by omega)).I (by omega)).I (by omega)).I (by omega)
  · rw [zmO _ _ _ _ _ _ (by omega), zmO _ _ _ _ _ _ (by omega), zmO _ _ _ _ _ _ (by omega), zmO _ _ _ _ _ _ (by omega)]
  · have eL : (zmI M 4 0 7).toNatClampNeg = L := ti_at (by rw [hY.len, ti_nI (by omega)])
    rw [eL]
    refine YR.mk ?_ ?_ ?_ (fun j hj => ?_) (fun i hi => ?_)
    · rw [zmU, zup_self, hY.len]
      exact nI_ofT (ti_inc (ti_nI (by omega)) (by omega))
    · rw [zmU, zup_ne _ _ (by omega), zmO _ _ _ _ _ _ (by omega), zmO _ _ _ _ _ _ (by omega), zmO _ _ _ _ _ _ (by omega)]
      exact hY.tol
    · rw [zmU, zup_ne _ _ (by omega), zmO _ _ _ _ _ _ (by omega), zmO _ _ _ _ _ _ (by omega), zmO _ _ _ _ _ _ (by omega)]
      exact hY.dep
    · have r5 : zmI (zsI (zsI (zsI (zsI M 5 0 L k) 6 0 L x) 7 0 L y) 4 0 7 (zmI M 4 0 7 + 1)) 5 0 = zup (zmI M 5 0) L k := by
        rw [zmO _ _ _ _ _ _ (by omega), zmO _ _ _ _ _ _ (by omega), zmO _ _ _ _ _ _ (by omega), zmU]
      have r6 : zmI (zsI (zsI (zsI (zsI M 5 0 L k) 6 0 L x) 7 0 L y) 4 0 7 (zmI M 4 0 7 + 1)) 6 0 = zup (zmI M 6 0) L x := by
        rw [zmO _ _ _ _ _ _ (by omega), zmO _ _ _ _ _ _ (by omega), zmU, zmO _ _ _ _ _ _ (by omega)]
      have r7 : zmI (zsI (zsI (zsI (zsI M 5 0 L k) 6 0 L x) 7 0 L y) 4 0 7 (zmI M 4 0 7 + 1)) 7 0 = zup (zmI M 7 0) L y := by
        rw [zmO _ _ _ _ _ _ (by omega), zmU, zmO _ _ _ _ _ _ (by omega), zmO _ _ _ _ _ _ (by omega)]
      rw [r5, r6, r7]
      by_cases c : j = L
      · rw [c]
        simp only [zup_self]
        exact ⟨trivial, trivial, trivial⟩
      · simp only [zup_ne _ _ c]
        exact hY.row j (by omega)
    · rw [zmO _ _ _ _ _ _ (by omega), zmO _ _ _ _ _ _ (by omega), zmO _ _ _ _ _ _ (by omega), zmO _ _ _ _ _ _ (by omega)]
      exact hY.opn i hi
end
