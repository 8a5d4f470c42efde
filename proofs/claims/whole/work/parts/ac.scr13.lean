/-! SCRIPTS: an order is read, the reference -/
section
variable {l : Launch} {G : zG} {M M0 Mz M' : zM} {A : Nat} {b : Nat → Int32} {F : Nat} {S S' : Nat × Int32 × Int32} {w f Q Q0 : Nat → Int32} {t : Int32}
variable {n told L a : Nat} {sk r : List Nat} {st : Nat → List Nat} {o z : Nat → Int32} {Y : SY}
/-- what the reference's reading of a script may change -/
def rFr (Mz M : zM) : Prop := (∀ s i, ¬ (s = 30 ∨ (38 ≤ s ∧ s ≤ 43)) → M.1 s i = Mz.1 s i) ∧ M.2 = Mz.2 ∧ ∀ j, ¬ (11 ≤ j ∧ j ≤ 16) → ¬ (25 ≤ j ∧ j ≤ 27) → zmI M 30 0 j = zmI Mz 30 0 j
theorem rFr.I (h : rFr Mz M) {s i : Nat} {g : Nat → Int32} (hs : 38 ≤ s ∧ s ≤ 43) : rFr Mz (zsIr M s i g) :=
  ⟨fun s' i' q => (zsIo _ _ _ _ _ _ (by omega)).trans (h.1 s' i' q), h.2.1, fun j h1 h2 => by rw [zmO _ _ _ _ _ _ (by omega)]; exact h.2.2 j h1 h2⟩
theorem rFr.k (h : rFr Mz M) (hQ : ∀ j, ¬ (11 ≤ j ∧ j ≤ 16) → ¬ (25 ≤ j ∧ j ≤ 27) → Q j = zmI M 30 0 j) : rFr Mz (zsIr M 30 0 Q) :=
  ⟨fun s' i' q => (zsIo _ _ _ _ _ _ (by omega)).trans (h.1 s' i' q), h.2.1, fun j h1 h2 => by rw [zmU, hQ j h1 h2]; exact h.2.2 j h1 h2⟩
theorem rFr.v {k : Nat} {v : Int32} (h : rFr Mz M) (hk : 25 ≤ k ∧ k ≤ 27) : rFr Mz (zsI M 30 0 k v) := h.k fun j _ h2 => zup_ne _ _ (by omega)
/-- the reference's rows -/
def UR (told L : Nat) (sk : List Nat) (o f z : Nat → Int32) (M : zM) : Prop := (zmI M 30 0 25 = nI L) ∧ (zmI M 30 0 26 = nI told) ∧ (zmI M 30 0 27 = nI sk.length) ∧ (∀ k, k < L → zmI M 38 0 k = o k ∧ (¬ o k = 9 → zmI M 39 0 k = f k) ∧ (¬ o k = 8 → ¬ o k = 9 → zmI M 40 0 k = z k)) ∧ (∀ i, i < sk.length → zmI M 42 0 i = nI (sk.getD (sk.length - 1 - i) 0)) ∧ (∀ k, k < L → o k = 8 → k ∈ sk ∨ ∃ c : Nat, c < 1000 ∧ z k = nI (c + 1) ∧ zmI M 41 0 k = nI c)
theorem UR.len {told L : Nat} {sk : List Nat} {o f z : Nat → Int32} {M : zM} (h9 : UR told L sk o f z M) : zmI M 30 0 25 = nI L := h9.1
theorem UR.tol {told L : Nat} {sk : List Nat} {o f z : Nat → Int32} {M : zM} (h9 : UR told L sk o f z M) : zmI M 30 0 26 = nI told := h9.2.1
theorem UR.dep {told L : Nat} {sk : List Nat} {o f z : Nat → Int32} {M : zM} (h9 : UR told L sk o f z M) : zmI M 30 0 27 = nI sk.length := h9.2.2.1
theorem UR.row {told L : Nat} {sk : List Nat} {o f z : Nat → Int32} {M : zM} (h9 : UR told L sk o f z M) : ∀ k, k < L → zmI M 38 0 k = o k ∧ (¬ o k = 9 → zmI M 39 0 k = f k) ∧ (¬ o k = 8 → ¬ o k = 9 → zmI M 40 0 k = z k) := h9.2.2.2.1
theorem UR.opn {told L : Nat} {sk : List Nat} {o f z : Nat → Int32} {M : zM} (h9 : UR told L sk o f z M) : ∀ i, i < sk.length → zmI M 42 0 i = nI (sk.getD (sk.length - 1 - i) 0) := h9.2.2.2.2.1
theorem UR.fin {told L : Nat} {sk : List Nat} {o f z : Nat → Int32} {M : zM} (h9 : UR told L sk o f z M) : ∀ k, k < L → o k = 8 → k ∈ sk ∨ ∃ c : Nat, c < 1000 ∧ z k = nI (c + 1) ∧ zmI M 41 0 k = nI c := h9.2.2.2.2.2
theorem UR.mk {told L : Nat} {sk : List Nat} {o f z : Nat → Int32} {M : zM} (len : zmI M 30 0 25 = nI L) (tol : zmI M 30 0 26 = nI told) (dep : zmI M 30 0 27 = nI sk.length) (row : ∀ k, k < L → zmI M 38 0 k = o k ∧ (¬ o k = 9 → zmI M 39 0 k = f k) ∧ (¬ o k = 8 → ¬ o k = 9 → zmI M 40 0 k = z k)) (opn : ∀ i, i < sk.length → zmI M 42 0 i = nI (sk.getD (sk.length - 1 - i) 0)) (fin : ∀ k, k < L → o k = 8 → k ∈ sk ∨ ∃ c : Nat, c < 1000 ∧ z k = nI (c + 1) ∧ zmI M 41 0 k = nI c) : UR told L sk o f z M := ⟨len, tol, dep, row, opn, fin⟩
theorem UR.k (h : UR told L sk o f z M) (hQ : ∀ j, ¬ (11 ≤ j ∧ j ≤ 16) → Q j = zmI M 30 0 j) : UR told L sk o f z (zsIr M 30 0 Q) := by
  have e : ∀ s, s = 38 ∨ s = 39 ∨ s = 40 ∨ s = 41 ∨ s = 42 → zmI (zsIr M 30 0 Q) s 0 = zmI M s 0 := fun s hs => zmO _ _ _ _ _ _ (by omega)
  refine UR.mk (by rw [zmU, hQ 25 (by omega)]; exact h.len) (by rw [zmU, hQ 26 (by omega)]; exact h.tol) (by rw [zmU, hQ 27 (by omega)]; exact h.dep) (fun k hk => ?_) (fun i hi => ?_) (fun k hk h8 => ?_)
  · rw [e 38 (by omega), e 39 (by omega), e 40 (by omega)]; exact h.row k hk
  · rw [e 42 (by omega)]; exact h.opn i hi
  · rw [e 41 (by omega)]; exact h.fin k hk h8
theorem UR.at_ {s : Nat} {v : Int32} (h : UR told L sk o f z M) (hs : s = 38 ∨ s = 39 ∨ s = 40) : UR told L sk o f z (zsI M s 0 L v) := by
  have e : ∀ s', ¬ s' = s → zmI (zsI M s 0 L v) s' 0 = zmI M s' 0 := fun s' hs => zmO _ _ _ _ _ _ (by omega)
  have e2 : ∀ s' k, k < L → zmI (zsI M s 0 L v) s' 0 k = zmI M s' 0 k := fun s' k hk => by
    by_cases c : s' = s
    · rw [c, zmU, zup_ne _ _ (by omega)]
    · rw [e s' c]
  refine UR.mk (by rw [e 30 (by omega)]; exact h.len) (by rw [e 30 (by omega)]; exact h.tol) (by rw [e 30 (by omega)]; exact h.dep) (fun k hk => ?_) (fun i hi => ?_) (fun k hk h8 => ?_)
  · rw [e2 38 k hk, e2 39 k hk, e2 40 k hk]; exact h.row k hk
  · rw [e 42 (by omega)]; exact h.opn i hi
  · rw [e 41 (by omega)]; exact h.fin k hk h8
theorem UR.more (h : UR told L sk o f z M) (ht : told < 1000) : UR (told + 1) L sk o f z (zsI M 30 0 26 (zmI M 30 0 26 + 1)) := by
  have e : ∀ s, s = 38 ∨ s = 39 ∨ s = 40 ∨ s = 41 ∨ s = 42 → zmI (zsI M 30 0 26 (zmI M 30 0 26 + 1)) s 0 = zmI M s 0 := fun s hs => zmO _ _ _ _ _ _ (by omega)
  refine UR.mk (by rw [zmU, zup_ne _ _ (by omega)]; exact h.len) ?_ (by rw [zmU, zup_ne _ _ (by omega)]; exact h.dep) (fun k hk => ?_) (fun i hi => ?_) (fun k hk h8 => ?_)
  · rw [zmU, zup_self, h.tol]
    exact nI_ofT (ti_inc (ti_nI (by omega)) (by omega))
  · rw [e 38 (by omega), e 39 (by omega), e 40 (by omega)]; exact h.row k hk
  · rw [e 42 (by omega)]; exact h.opn i hi
  · rw [e 41 (by omega)]; exact h.fin k hk h8
/-- the row at the end counts -/
theorem UR.add {kd x y : Int32} (h : UR told L sk o f z M) (hL : L < 1000) (h8 : ¬ kd = 8) (h9 : ¬ kd = 9) (hk : zmI M 38 0 L = kd) (hx : zmI M 39 0 L = x) (hy : zmI M 40 0 L = y) : UR told (L + 1) sk (zup o L kd) (zup f L x) (zup z L y) (zsI M 30 0 25 (zmI M 30 0 25 + 1)) := by
  have e : ∀ s, s = 38 ∨ s = 39 ∨ s = 40 ∨ s = 41 ∨ s = 42 → zmI (zsI M 30 0 25 (zmI M 30 0 25 + 1)) s 0 = zmI M s 0 := fun s hs => zmO _ _ _ _ _ _ (by omega)
  refine UR.mk ?_ (by rw [zmU, zup_ne _ _ (by omega)]; exact h.tol) (by rw [zmU, zup_ne _ _ (by omega)]; exact h.dep) (fun k hk' => ?_) (fun i hi => ?_) (fun k hk' g8 => ?_)
  · rw [zmU, zup_self, h.len]
    exact nI_ofT (ti_inc (ti_nI (by omega)) (by omega))
  · rw [e 38 (by omega), e 39 (by omega), e 40 (by omega)]
    by_cases c : k = L
    · rw [c, zup_self, zup_self, zup_self]
      exact ⟨hk, fun _ => hx, fun _ _ => hy⟩
    · rw [zup_ne _ _ c, zup_ne _ _ c, zup_ne _ _ c]
      exact h.row k (by omega)
  · rw [e 42 (by omega)]; exact h.opn i hi
  · rw [e 41 (by omega)]
    by_cases c : k = L
    · rw [c, zup_self] at g8
      exact absurd g8 h8
    · rw [zup_ne _ _ c] at g8 ⊢
      exact h.fin k (by omega) g8
theorem UR.open_ {x y : Int32} {v : zM} (h : UR told L sk o f z M) (hL : L < 1000) (hs : sk.length < 2) (hk : zmI M 38 0 L = 8) (hx : zmI M 39 0 L = x) (hv : v = zsI (zsI (zsI M 42 0 sk.length (nI L)) 30 0 27 (nI (sk.length + 1))) 30 0 25 (nI (L + 1))) : UR told (L + 1) (L :: sk) (zup o L 8) (zup f L x) (zup z L y) v := by
  have e3 : zmI v 30 0 = zup (zup (zmI M 30 0) 27 (nI (sk.length + 1))) 25 (nI (L + 1)) := by
    rw [hv, zsU _ 30 0, zmU, zmO _ _ _ _ _ _ (by omega)]
  have e : ∀ s, s = 38 ∨ s = 39 ∨ s = 40 ∨ s = 41 → zmI v s 0 = zmI M s 0 := fun s hs => by
    rw [hv, zmO _ _ _ _ _ _ (by omega), zmO _ _ _ _ _ _ (by omega), zmO _ _ _ _ _ _ (by omega)]
  have e2 : zmI v 42 0 = zup (zmI M 42 0) sk.length (nI L) := by
    rw [hv, zmO _ _ _ _ _ _ (by omega), zmO _ _ _ _ _ _ (by omega), zmU]
  refine UR.mk (by rw [e3, zup_self]) (by rw [e3, zup_ne _ _ (by omega), zup_ne _ _ (by omega)]; exact h.tol) (by rw [e3, zup_ne _ _ (by omega), zup_self]; rfl) (fun k hk' => ?_) (fun i hi => ?_) (fun k hk' g8 => ?_)
  · rw [e 38 (by omega), e 39 (by omega), e 40 (by omega)]
    by_cases c : k = L
    · rw [c, zup_self, zup_self, zup_self]
      exact ⟨hk, fun _ => hx, fun g => absurd rfl g⟩
    · rw [zup_ne _ _ c, zup_ne _ _ c, zup_ne _ _ c]
      exact h.row k (by omega)
  · have hi2 : i < sk.length + 1 := hi
    rw [e2]
    by_cases c : i = sk.length
    · rw [c, zup_self]
      show nI L = nI ((L :: sk).getD (sk.length + 1 - 1 - sk.length) 0)
      rw [show sk.length + 1 - 1 - sk.length = 0 by omega]
      rfl
    · rw [zup_ne _ _ c, h.opn i (by omega)]
      show nI (sk.getD (sk.length - 1 - i) 0) = nI ((L :: sk).getD (sk.length + 1 - 1 - i) 0)
      rw [show sk.length + 1 - 1 - i = (sk.length - 1 - i) + 1 by omega]
      rfl
  · rw [e 41 (by omega)]
    by_cases c : k = L
    · exact .inl (by rw [c]; exact List.mem_cons_self)
    · rw [zup_ne _ _ c] at g8 ⊢
      rcases h.fin k (by omega) g8 with q | q
      · exact .inl (List.mem_cons_of_mem _ q)
      · exact .inr q
theorem UR.close_ {v : zM} (h : UR told L (a :: r) o f z M) (hL : L < 1000) (ha : o a = 8) (hv38 : zmI v 38 0 = zup (zmI M 38 0) L 9) (hv41 : zmI v 41 0 = zup (zmI M 41 0) a (nI L)) (e : ∀ s, s = 39 ∨ s = 40 ∨ s = 42 → zmI v s 0 = zmI M s 0) (e25 : zmI v 30 0 25 = nI (L + 1)) (e26 : zmI v 30 0 26 = zmI M 30 0 26) (e27 : zmI v 30 0 27 = nI r.length) : UR told (L + 1) r (zup o L 9) (zup f L (nI a)) (zup (zup z L 0) a (nI (L + 1))) v := by
  refine UR.mk e25 (by rw [e26]; exact h.tol) e27 (fun k hk' => ?_) (fun i hi => ?_) (fun k hk' g8 => ?_)
  · rw [hv38, e 39 (by omega), e 40 (by omega)]
    by_cases c : k = L
    · rw [c, zup_self, zup_self]
      exact ⟨rfl, fun g => absurd rfl g, fun _ g => absurd rfl g⟩
    · rw [zup_ne _ _ c, zup_ne _ _ c, zup_ne _ _ c]
      obtain ⟨h1, h2, h3⟩ := h.row k (by omega)
      refine ⟨h1, h2, fun g1 g2 => ?_⟩
      have q := h3 g1 g2
      by_cases ca : k = a
      · rw [ca] at g1
        exact absurd ha g1
      · rw [zup_ne _ _ ca, zup_ne _ _ c]
        exact q
  · rw [e 42 (by omega), h.opn i (by show i < r.length + 1; omega)]
    show nI ((a :: r).getD (r.length + 1 - 1 - i) 0) = _
    rw [show r.length + 1 - 1 - i = (r.length - 1 - i) + 1 by omega]
    rfl
  · rw [hv41]
    by_cases ca : k = a
    · rw [ca, zup_self, zup_self]
      exact .inr ⟨L, hL, rfl, rfl⟩
    · by_cases c : k = L
      · rw [c, zup_self] at g8
        exact absurd g8 (by decide)
      · rw [zup_ne _ _ c] at g8
        rw [zup_ne _ _ ca, zup_ne _ _ ca, zup_ne _ _ c]
        rcases h.fin k (by omega) g8 with q | q
        · rcases List.mem_cons.mp q with q | q
          · exact absurd q ca
          · exact .inl q
        · exact .inr q
end
