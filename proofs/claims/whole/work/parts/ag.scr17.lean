/-! SCRIPTS: rows done one after another; how many steps are left -/
section
variable {n told L k a : Nat} {sk r : List Nat} {st : Nat → List Nat} {o f z : Nat → Int32}
theorem YJ.brack (hJ : YJ n told L [] st o f z) (hk : k < L) (h8 : o k = 8) : ∃ c, k < c ∧ c < L ∧ z k = nI (c + 1) ∧ st (c + 1) = st k ∧ ∀ j, c < j → j ≤ L → ¬ k ∈ st j := by
  rcases hJ.cls k hk h8 with q | ⟨c, q1, q2, q3, q4⟩
  · rw [hJ.stL] at q
    exact absurd q List.not_mem_nil
  · rcases hJ.row c q2 with h | ⟨h, a, r, h1, h2, h3, h4, h5⟩ | h
    · rw [q3] at h
      exact absurd h.1 (by decide)
    · rw [q4] at h1
      injection h1 with e1 e2
      rw [← e1] at h4 h5
      exact ⟨c, q1, q2, h4, by rw [h3, e2], h5⟩
    · exact absurd q3 (o_ok_89 h.1).2
theorem YJ.again_ (hJ : YJ n told L [] st o f z) (hk : k < L) (h8 : o k = 8) : st (k + 1) = k :: st k ∧ 0 ≤ (f k).toInt ∧ (f k).toInt ≤ 20 ∧ (st k).length < 2 := by
  rcases hJ.row k hk with h | ⟨h, _⟩ | h
  · exact h.2
  · rw [h8] at h
    exact absurd h (by decide)
  · exact absurd h8 (o_ok_89 h.1).1
theorem YJ.shut (hJ : YJ n told L [] st o f z) (hk : k < L) (h9 : o k = 9) : ∃ a r, st k = a :: r ∧ f k = nI a ∧ st (k + 1) = r ∧ z a = nI (k + 1) ∧ a < k ∧ st (a + 1) = a :: r ∧ ¬ a ∈ r := by
  rcases hJ.row k hk with h | ⟨h, a, r, h1, h2, h3, h4, h5⟩ | h
  · rw [h9] at h
    exact absurd h.1 (by decide)
  · obtain ⟨g1, g2, g3⟩ := hJ.stk k (by omega) a r h1
    refine ⟨a, r, h1, h2, h3, h4, g1, ?_, fun q => ?_⟩
    · rw [(hJ.again_ (by omega) g2).1, g3]
    · rw [← g3] at q
      have := hJ.lt (by omega) q
      omega
  · exact absurd h9 (o_ok_89 h.1).2
theorem YJ.plain (hJ : YJ n told L [] st o f z) (hk : k < L) (h8 : ¬ o k = 8) (h9 : ¬ o k = 9) : o_ok n (o k) (f k) (z k) ∧ st (k + 1) = st k := by
  rcases hJ.row k hk with h | h | h
  · exact absurd h.1 h8
  · exact absurd h.1 h9
  · exact h
/-- where the bracket that begins at a row ends -/
def cz (z : Nat → Int32) (a : Nat) : Nat := (z a).toInt.toNat - 1
theorem cz_of {c : Nat} (h : z a = nI (c + 1)) (hc : c < 1000) : cz z a = c := by
  unfold cz
  rw [h, ti_nI (by omega)]
  omega
/-- inside a bracket -/
theorem YJ.inn (hJ : YJ n told L [] st o f z) (hL : L ≤ 60) (hk : k ≤ L) (h : st k = a :: r) : k ≤ cz z a := by
  obtain ⟨g1, g2, g3⟩ := hJ.stk k hk a r h
  obtain ⟨c, c1, c2, c3, c4, c5⟩ := hJ.brack (k := a) (by omega) g2
  rw [cz_of c3 (by omega)]
  refine Nat.le_of_not_lt fun q => c5 k q hk ?_
  rw [h]
  exact List.mem_cons_self
def pg (r : List Nat) : Nat := if r.length = 0 then 21 else 1
def ph (z : Nat → Int32) (L : Nat) : Nat → List Nat → List Nat → Nat
  | k, a :: r, l :: ls => pg r * (cz z a + 1 - k) + ((l - 1) * (pg r * (cz z a - a)) + ph z L (cz z a + 1) r ls)
  | k, [], _ => 441 * (L - k)
  | k, _ :: _, [] => 441 * (L - k)
theorem ph_c {l : Nat} {ls : List Nat} : ph z L k (a :: r) (l :: ls) = pg r * (cz z a + 1 - k) + ((l - 1) * (pg r * (cz z a - a)) + ph z L (cz z a + 1) r ls) := by
  rw [ph]
theorem ph_n {ls : List Nat} : ph z L k [] ls = 441 * (L - k) := by
  rw [ph]
theorem pg_1 : pg r = 21 ∨ pg r = 1 := by
  unfold pg
  split
  · exact .inl rfl
  · exact .inr rfl
theorem ph_mono {k' : Nat} {s ls : List Nat} (hs : s.length = ls.length) (hk : k < k') (hL : k' ≤ L) (ha : ∀ a r, s = a :: r → k' ≤ cz z a + 1) : ph z L k' s ls + 1 ≤ ph z L k s ls := by
  cases s with
  | nil => rw [ph_n, ph_n]; omega
  | cons a r =>
    cases ls with
    | nil => exact absurd hs (by intro q; cases q)
    | cons l ls =>
      have h1 := ha a r rfl
      rw [ph_c, ph_c]
      generalize (l - 1) * (pg r * (cz z a - a)) = X
      generalize ph z L (cz z a + 1) r ls = Y
      rcases pg_1 (r := r) with e | e <;> rw [e] <;> omega
theorem ph_open {s ls : List Nat} {l : Nat} (hs : s.length = ls.length) (h2 : s.length < 2) (hk : k < cz z k) (hL : cz z k + 1 ≤ L) (ha : ∀ a r, s = a :: r → cz z k + 1 ≤ cz z a + 1) (hl : l ≤ 20) : ph z L (k + 1) (k :: s) (l :: ls) + 1 ≤ ph z L k s ls := by
  rw [ph_c]
  cases s with
  | nil =>
    rw [ph_n, ph_n]
    have hp : pg [] = 21 := rfl
    rw [hp]
    have m : (l - 1) * (21 * (cz z k - k)) ≤ 19 * (21 * (cz z k - k)) := Nat.mul_le_mul_right _ (by omega)
    generalize (l - 1) * (21 * (cz z k - k)) = X at m ⊢
    omega
  | cons b r =>
    cases ls with
    | nil => exact absurd hs (by intro q; cases q)
    | cons l2 ls =>
      have hr : r = [] := by
        cases r with
        | nil => rfl
        | cons _ _ => exact absurd h2 (by simp)
      have h1 := ha b r rfl
      rw [ph_c, ph_c]
      have hp : pg (b :: r) = 1 := rfl
      have hp2 : pg r = 21 := by rw [hr]; rfl
      rw [hp, hp2]
      have m : (l - 1) * (1 * (cz z k - k)) ≤ 19 * (1 * (cz z k - k)) := Nat.mul_le_mul_right _ (by omega)
      generalize (l - 1) * (1 * (cz z k - k)) = X at m ⊢
      generalize (l2 - 1) * (21 * (cz z b - b)) = X2
      generalize ph z L (cz z b + 1) r ls = Y
      omega
theorem ph_more {ls : List Nat} {l : Nat} (hl : 2 ≤ l) (ha : a < cz z a) : ph z L (a + 1) (a :: r) ((l - 1) :: ls) + 1 ≤ ph z L (cz z a) (a :: r) (l :: ls) := by
  rw [ph_c, ph_c]
  have m : (l - 1) * (pg r * (cz z a - a)) = (l - 1 - 1) * (pg r * (cz z a - a)) + pg r * (cz z a - a) := by
    obtain ⟨x, rfl⟩ : ∃ x, l = x + 2 := ⟨l - 2, by omega⟩
    rw [show x + 2 - 1 = x + 1 by omega, show x + 1 - 1 = x by omega, Nat.succ_mul]
  rw [m]
  generalize (l - 1 - 1) * (pg r * (cz z a - a)) = X
  generalize ph z L (cz z a + 1) r ls = Y
  rcases pg_1 (r := r) with e | e <;> rw [e] <;> omega
theorem ph_end {ls : List Nat} {l : Nat} : ph z L (cz z a + 1) r ls + 1 ≤ ph z L (cz z a) (a :: r) (l :: ls) := by
  rw [ph_c]
  generalize (l - 1) * (pg r * (cz z a - a)) = X
  generalize ph z L (cz z a + 1) r ls = Y
  rcases pg_1 (r := r) with e | e <;> rw [e] <;> omega
/-- the rows are done: how many orders, and what the router comes to -/
def q_run (L : Nat) (o f z : Nat → Int32) : Nat → Nat → List Nat → Nat → (Nat → Int32) → Nat × (Nat → Int32)
  | 0, _, _, dn, w => (dn, w)
  | d + 1, k, ls, dn, w =>
    if L ≤ k ∨ 40 ≤ dn then (dn, w) else
    if o k = 8 then (if f k = 0 then q_run L o f z d (cz z k + 1) ls dn w else q_run L o f z d (k + 1) ((f k).toInt.toNat :: ls) dn w) else
    if o k = 9 then (if 1 < ls.headD 0 then q_run L o f z d ((f k).toInt.toNat + 1) ((ls.headD 0 - 1) :: ls.tail) dn w else q_run L o f z d (k + 1) ls.tail dn w) else
    match q_do w (o k) (f k) (z k) with
    | some w' => q_run L o f z d (k + 1) ls (dn + 1) w'
    | none => (dn, w)
/-- a list of rounds beside the rows that are open -/
def rnd (g : Nat → Int32) : List Nat → List Nat → Prop
  | a :: r, l :: ls => g a = nI l ∧ rnd g r ls
  | [], [] => True
  | _ :: _, [] => False
  | [], _ :: _ => False
def bgn (g h : Nat → Int32) : List Nat → List Nat → Prop
  | a :: r, l :: ls => g r.length = nI a ∧ h r.length = nI l ∧ bgn g h r ls
  | [], [] => True
  | _ :: _, [] => False
  | [], _ :: _ => False
theorem rnd.len {g : Nat → Int32} : ∀ {s ls : List Nat}, rnd g s ls → s.length = ls.length
  | [], [], _ => rfl
  | a :: r, l :: ls, h => by
    have := rnd.len h.2
    show r.length + 1 = ls.length + 1
    omega
  | _ :: _, [], h => False.elim h
  | [], _ :: _, h => False.elim h
theorem rnd.up {g : Nat → Int32} {v : Int32} : ∀ {s ls : List Nat}, rnd g s ls → ¬ a ∈ s → rnd (zup g a v) s ls
  | [], [], _, _ => trivial
  | b :: r, l :: ls, h, ha => ⟨(zup_ne _ _ fun e => ha (by rw [e]; exact List.mem_cons_self)).trans h.1, rnd.up h.2 fun q => ha (List.mem_cons_of_mem _ q)⟩
  | _ :: _, [], h, _ => False.elim h
  | [], _ :: _, h, _ => False.elim h
theorem bgn.len {g h : Nat → Int32} : ∀ {s ls : List Nat}, bgn g h s ls → s.length = ls.length
  | [], [], _ => rfl
  | a :: r, l :: ls, q => by
    have := bgn.len q.2.2
    show r.length + 1 = ls.length + 1
    omega
  | _ :: _, [], q => False.elim q
  | [], _ :: _, q => False.elim q
theorem bgn.up {g h : Nat → Int32} {i : Nat} {u v : Int32} : ∀ {s ls : List Nat}, bgn g h s ls → s.length ≤ i → bgn (zup g i u) (zup h i v) s ls
  | [], [], _, _ => trivial
  | b :: r, l :: ls, q, hi => by
    have hi2 : r.length + 1 ≤ i := hi
    exact ⟨(zup_ne _ _ (by omega)).trans q.1, (zup_ne _ _ (by omega)).trans q.2.1, bgn.up q.2.2 (by omega)⟩
  | _ :: _, [], q, _ => False.elim q
  | [], _ :: _, q, _ => False.elim q
theorem bgn.up2 {g h : Nat → Int32} {i : Nat} {v : Int32} : ∀ {s ls : List Nat}, bgn g h s ls → s.length ≤ i → bgn g (zup h i v) s ls
  | [], [], _, _ => trivial
  | b :: r, l :: ls, q, hi => by
    have hi2 : r.length + 1 ≤ i := hi
    exact ⟨q.1, (zup_ne _ _ (by omega)).trans q.2.1, bgn.up2 q.2.2 (by omega)⟩
  | _ :: _, [], q, _ => False.elim q
  | [], _ :: _, q, _ => False.elim q
end
