/-! SCRIPTS: what holds of the rows while they are read -/
section
variable {n told L : Nat} {sk : List Nat} {st : Nat → List Nat} {o f z : Nat → Int32}
/-- an order with numbers as it may have them -/
def o_ok (n : Nat) (k f z : Int32) : Prop := (k = 0 ∧ 1 ≤ f.toInt ∧ f.toInt ≤ 50) ∨ (k = 1 ∧ 0 ≤ f.toInt ∧ f.toInt < n ∧ 1 ≤ z.toInt ∧ z.toInt ≤ 40) ∨ (k = 2 ∧ 0 ≤ f.toInt ∧ f.toInt ≤ 39 ∧ f.toInt < z.toInt ∧ z.toInt ≤ 40) ∨ (k = 3 ∧ 0 ≤ f.toInt ∧ f.toInt ≤ 65536) ∨ (k = 4 ∧ 0 ≤ f.toInt ∧ f.toInt ≤ 10) ∨ (k = 5 ∧ 0 ≤ f.toInt ∧ f.toInt ≤ 1) ∨ ((k = 6 ∨ k = 7) ∧ 0 ≤ f.toInt ∧ f.toInt < n)
theorem o_ok_89 {k x y : Int32} (h : o_ok n k x y) : ¬ k = 8 ∧ ¬ k = 9 := by
  rcases h with h | h | h | h | h | h | h
  all_goals first
    | (rw [h.1]; decide)
    | (rcases h.1 with e | e <;> (rw [e]; decide))
def y_row (n L : Nat) (st : Nat → List Nat) (o f z : Nat → Int32) (k : Nat) : Prop := (o k = 8 ∧ st (k + 1) = k :: st k ∧ 0 ≤ (f k).toInt ∧ (f k).toInt ≤ 20 ∧ (st k).length < 2) ∨ (o k = 9 ∧ ∃ a r, st k = a :: r ∧ f k = nI a ∧ st (k + 1) = r ∧ z a = nI (k + 1) ∧ ∀ j, k < j → j ≤ L → ¬ a ∈ st j) ∨ (o_ok n (o k) (f k) (z k) ∧ st (k + 1) = st k)
def YJ (n told L : Nat) (sk : List Nat) (st : Nat → List Nat) (o f z : Nat → Int32) : Prop := (told ≤ 30) ∧ (L + sk.length ≤ 2 * told) ∧ (sk.length ≤ 2) ∧ (st 0 = []) ∧ (st L = sk) ∧ (∀ k, k ≤ L → ∀ a r, st k = a :: r → a < k ∧ o a = 8 ∧ st a = r) ∧ (∀ k, k < L → y_row n L st o f z k) ∧ (∀ k, k < L → o k = 8 → k ∈ st L ∨ ∃ c, k < c ∧ c < L ∧ o c = 9 ∧ st c = k :: st k)
theorem YJ.tol {n told L : Nat} {sk : List Nat} {st : Nat → List Nat} {o f z : Nat → Int32} (h9 : YJ n told L sk st o f z) : told ≤ 30 := h9.1
theorem YJ.cnt {n told L : Nat} {sk : List Nat} {st : Nat → List Nat} {o f z : Nat → Int32} (h9 : YJ n told L sk st o f z) : L + sk.length ≤ 2 * told := h9.2.1
theorem YJ.dep {n told L : Nat} {sk : List Nat} {st : Nat → List Nat} {o f z : Nat → Int32} (h9 : YJ n told L sk st o f z) : sk.length ≤ 2 := h9.2.2.1
theorem YJ.st0 {n told L : Nat} {sk : List Nat} {st : Nat → List Nat} {o f z : Nat → Int32} (h9 : YJ n told L sk st o f z) : st 0 = [] := h9.2.2.2.1
theorem YJ.stL {n told L : Nat} {sk : List Nat} {st : Nat → List Nat} {o f z : Nat → Int32} (h9 : YJ n told L sk st o f z) : st L = sk := h9.2.2.2.2.1
theorem YJ.stk {n told L : Nat} {sk : List Nat} {st : Nat → List Nat} {o f z : Nat → Int32} (h9 : YJ n told L sk st o f z) : ∀ k, k ≤ L → ∀ a r, st k = a :: r → a < k ∧ o a = 8 ∧ st a = r := h9.2.2.2.2.2.1
theorem YJ.row {n told L : Nat} {sk : List Nat} {st : Nat → List Nat} {o f z : Nat → Int32} (h9 : YJ n told L sk st o f z) : ∀ k, k < L → y_row n L st o f z k := h9.2.2.2.2.2.2.1
theorem YJ.cls {n told L : Nat} {sk : List Nat} {st : Nat → List Nat} {o f z : Nat → Int32} (h9 : YJ n told L sk st o f z) : ∀ k, k < L → o k = 8 → k ∈ st L ∨ ∃ c, k < c ∧ c < L ∧ o c = 9 ∧ st c = k :: st k := h9.2.2.2.2.2.2.2
theorem YJ.mk {n told L : Nat} {sk : List Nat} {st : Nat → List Nat} {o f z : Nat → Int32} (tol : told ≤ 30) (cnt : L + sk.length ≤ 2 * told) (dep : sk.length ≤ 2) (st0 : st 0 = []) (stL : st L = sk) (stk : ∀ k, k ≤ L → ∀ a r, st k = a :: r → a < k ∧ o a = 8 ∧ st a = r) (row : ∀ k, k < L → y_row n L st o f z k) (cls : ∀ k, k < L → o k = 8 → k ∈ st L ∨ ∃ c, k < c ∧ c < L ∧ o c = 9 ∧ st c = k :: st k) : YJ n told L sk st o f z := ⟨tol, cnt, dep, st0, stL, stk, row, cls⟩
theorem YJ.low (h : YJ n told L sk st o f z) : ∀ d k, k ≤ d → k ≤ L → ∀ x, x ∈ st k → x < k := by
  intro d
  induction d with
  | zero =>
    intro k hk hL x hx
    rw [show k = 0 by omega, h.st0] at hx
    exact absurd hx List.not_mem_nil
  | succ d ih =>
    intro k hk hL x hx
    generalize e : st k = s at hx
    cases s with
    | nil => exact absurd hx List.not_mem_nil
    | cons a r =>
      obtain ⟨h1, h2, h3⟩ := h.stk k hL a r e
      rcases List.mem_cons.mp hx with g | g
      · rw [g]; exact h1
      · have := ih a (by omega) (by omega) x (by rw [h3]; exact g)
        omega
theorem YJ.lt (h : YJ n told L sk st o f z) {k x : Nat} (hk : k ≤ L) (hx : x ∈ st k) : x < k := h.low k k (Nat.le_refl _) hk x hx
/-- an old row where a new one has come -/
theorem y_row.push {s : List Nat} {kd x y : Int32} {k : Nat} (hJ : YJ n told L sk st o f z) (hk : k < L) (hs : ∀ a, a < L → ¬ a ∈ sk → ¬ a ∈ s) : y_row n (L + 1) (zup st (L + 1) s) (zup o L kd) (zup f L x) (zup z L y) k := by
  have e1 : zup st (L + 1) s k = st k := zup_ne _ _ (by omega)
  have e2 : zup st (L + 1) s (k + 1) = st (k + 1) := zup_ne _ _ (by omega)
  have e3 : zup o L kd k = o k := zup_ne _ _ (by omega)
  have e4 : zup f L x k = f k := zup_ne _ _ (by omega)
  have e5 : zup z L y k = z k := zup_ne _ _ (by omega)
  unfold y_row
  rw [e1, e2, e3, e4, e5]
  rcases hJ.row k hk with h | ⟨h, a, r, h1, h2, h3, h4, h5⟩ | h
  · exact .inl h
  · have ha : a < k := hJ.lt (by omega) (by rw [h1]; exact List.mem_cons_self)
    refine .inr (.inl ⟨h, a, r, h1, h2, h3, by rw [zup_ne _ _ (by omega)]; exact h4, fun j g1 g2 => ?_⟩)
    by_cases c : j = L + 1
    · rw [c, zup_self]
      refine hs a (by omega) ?_
      rw [← hJ.stL]
      exact h5 L hk (Nat.le_refl _)
    · rw [zup_ne _ _ c]
      exact h5 j g1 (by omega)
  · exact .inr (.inr h)
theorem YJ.order {kd x y : Int32} (hJ : YJ n told L sk st o f z) (ht : told < 30) (hk : o_ok n kd x y) : YJ n (told + 1) (L + 1) sk (zup st (L + 1) sk) (zup o L kd) (zup f L x) (zup z L y) := by
  have k89 := o_ok_89 hk
  have c1 := hJ.cnt
  refine YJ.mk (by omega) (by omega) hJ.dep (by rw [zup_ne _ _ (by omega)]; exact hJ.st0) (zup_self _ _ _) (fun k g a r e => ?_) (fun k g => ?_) (fun k g e => ?_)
  · have old : st k = a :: r ∨ (k = L + 1 ∧ st L = a :: r) := by
      by_cases c : k = L + 1
      · rw [c, zup_self] at e
        exact .inr ⟨c, by rw [hJ.stL]; exact e⟩
      · rw [zup_ne _ _ c] at e
        exact .inl e
    obtain ⟨k0, hk0, hk1, q⟩ : ∃ k0, k0 ≤ L ∧ k0 ≤ k ∧ st k0 = a :: r := by
      by_cases c : k = L + 1
      · rw [c, zup_self] at e
        exact ⟨L, Nat.le_refl _, by omega, by rw [hJ.stL]; exact e⟩
      · rw [zup_ne _ _ c] at e
        exact ⟨k, by omega, Nat.le_refl _, e⟩
    obtain ⟨h1, h2, h3⟩ := hJ.stk k0 hk0 a r q
    rw [zup_ne o _ (by omega), zup_ne st _ (by omega)]
    exact ⟨by omega, h2, h3⟩
  · by_cases c : k = L
    · rw [c]
      unfold y_row
      rw [zup_self o, zup_self f, zup_self z, zup_self st, zup_ne st _ (by omega)]
      exact .inr (.inr ⟨hk, hJ.stL.symm⟩)
    · exact y_row.push hJ (by omega) fun a _ g => g
  · by_cases c : k = L
    · rw [c, zup_self] at e
      exact absurd e k89.1
    · rw [zup_ne o _ c] at e
      rw [zup_self st, zup_ne st _ (show k ≠ L + 1 by omega)]
      rcases hJ.cls k (by omega) e with q | ⟨c0, q1, q2, q3, q4⟩
      · exact .inl (by rw [← hJ.stL]; exact q)
      · exact .inr ⟨c0, q1, by omega, by rw [zup_ne _ _ (by omega)]; exact q3, by rw [zup_ne _ _ (by omega)]; exact q4⟩
theorem YJ.again {x y : Int32} (hJ : YJ n told L sk st o f z) (ht : told < 30) (hd : sk.length < 2) (hx : 0 ≤ x.toInt ∧ x.toInt ≤ 20) : YJ n (told + 1) (L + 1) (L :: sk) (zup st (L + 1) (L :: sk)) (zup o L 8) (zup f L x) (zup z L y) := by
  have c1 := hJ.cnt
  have el : (L :: sk).length = sk.length + 1 := rfl
  refine YJ.mk (by omega) (by omega) (by omega) (by rw [zup_ne _ _ (by omega)]; exact hJ.st0) (zup_self _ _ _) (fun k g a r e => ?_) (fun k g => ?_) (fun k g e => ?_)
  · by_cases c : k = L + 1
    · rw [c, zup_self] at e
      injection e with e1 e2
      rw [← e1, ← e2, zup_self o, zup_ne st _ (by omega)]
      exact ⟨by omega, rfl, hJ.stL⟩
    · rw [zup_ne _ _ c] at e
      obtain ⟨h1, h2, h3⟩ := hJ.stk k (by omega) a r e
      rw [zup_ne o _ (by omega), zup_ne st _ (by omega)]
      exact ⟨by omega, h2, h3⟩
  · by_cases c : k = L
    · rw [c]
      unfold y_row
      rw [zup_self o, zup_self f, zup_self st, zup_ne st _ (by omega), hJ.stL]
      exact .inl ⟨rfl, rfl, hx.1, hx.2, hd⟩
    · refine y_row.push hJ (by omega) fun a ha g q => ?_
      rcases List.mem_cons.mp q with q | q
      · omega
      · exact g q
  · rw [zup_self st]
    by_cases c : k = L
    · exact .inl (by rw [c]; exact List.mem_cons_self)
    · rw [zup_ne o _ c] at e
      rw [zup_ne st _ (show k ≠ L + 1 by omega)]
      rcases hJ.cls k (by omega) e with q | ⟨c0, q1, q2, q3, q4⟩
      · exact .inl (List.mem_cons_of_mem _ (by rw [← hJ.stL]; exact q))
      · exact .inr ⟨c0, q1, by omega, by rw [zup_ne _ _ (by omega)]; exact q3, by rw [zup_ne _ _ (by omega)]; exact q4⟩
theorem YJ.close {a : Nat} {r : List Nat} (hJ : YJ n told L (a :: r) st o f z) : YJ n told (L + 1) r (zup st (L + 1) r) (zup o L 9) (zup f L (nI a)) (zup (zup z L 0) a (nI (L + 1))) := by
  have c1 := hJ.cnt
  have c2 := hJ.dep
  have el : (a :: r).length = r.length + 1 := rfl
  obtain ⟨ha, ha8, har⟩ := hJ.stk L (Nat.le_refl _) a r hJ.stL
  have hnr : ¬ a ∈ r := fun q => by
    rw [← har] at q
    have := hJ.lt (by omega) q
    omega
  refine YJ.mk hJ.tol (by omega) (by omega) (by rw [zup_ne _ _ (by omega)]; exact hJ.st0) (zup_self _ _ _) (fun k g a2 r2 e => ?_) (fun k g => ?_) (fun k g e => ?_)
  · obtain ⟨k0, hk0, hk1, q⟩ : ∃ k0, k0 ≤ L ∧ k0 ≤ k ∧ st k0 = a2 :: r2 := by
      by_cases c : k = L + 1
      · rw [c, zup_self] at e
        exact ⟨a, by omega, by omega, by rw [har]; exact e⟩
      · rw [zup_ne _ _ c] at e
        exact ⟨k, by omega, Nat.le_refl _, e⟩
    obtain ⟨h1, h2, h3⟩ := hJ.stk k0 hk0 a2 r2 q
    rw [zup_ne o _ (by omega), zup_ne st _ (by omega)]
    exact ⟨by omega, h2, h3⟩
  · by_cases c : k = L
    · rw [c]
      unfold y_row
      refine .inr (.inl ⟨zup_self _ _ _, a, r, ?_, zup_self _ _ _, zup_self _ _ _, zup_self _ _ _, fun j g1 g2 => ?_⟩)
      · rw [zup_ne st _ (by omega)]; exact hJ.stL
      · rw [show j = L + 1 by omega, zup_self]
        exact hnr
    · have p := y_row.push (n := n) (s := r) (kd := 9) (x := nI a) (y := 0) hJ (show k < L by omega) fun x hx g q => g (List.mem_cons_of_mem _ q)
      have eo : zup o L 9 k = o k := zup_ne _ _ c
      unfold y_row at p ⊢
      rcases p with h | ⟨h, a2, r2, h1, h2, h3, h4, h5⟩ | h
      · exact .inl h
      · refine .inr (.inl ⟨h, a2, r2, h1, h2, h3, ?_, h5⟩)
        rw [zup_ne _ _ fun e => ?_]
        · exact h4
        · have q := h5 L (by omega) (by omega)
          rw [zup_ne st _ (by omega), hJ.stL, e] at q
          exact q List.mem_cons_self
      · have ne : k ≠ a := fun e => by
          have := (o_ok_89 h.1).1
          rw [eo, e] at this
          exact this ha8
        refine .inr (.inr ⟨?_, h.2⟩)
        rw [zup_ne (zup z L 0) _ ne]
        exact h.1
  · rw [zup_self st]
    by_cases c : k = L
    · rw [c, zup_self] at e
      exact absurd e (by decide)
    · rw [zup_ne o _ c] at e
      rw [zup_ne st _ (show k ≠ L + 1 by omega)]
      rcases hJ.cls k (by omega) e with q | ⟨c0, q1, q2, q3, q4⟩
      · rw [hJ.stL] at q
        rcases List.mem_cons.mp q with q | q
        · refine .inr ⟨L, by omega, by omega, zup_self _ _ _, ?_⟩
          rw [zup_ne st _ (by omega), hJ.stL, q, har]
        · exact .inl q
      · exact .inr ⟨c0, q1, by omega, by rw [zup_ne _ _ (by omega)]; exact q3, by rw [zup_ne _ _ (by omega)]; exact q4⟩
end
