/-! THE FIRST MEMORY: what the constructors leave; the invariant at the start -/
def vR0 : Nat → Int32 := fun k => match k with
  | 0 => 20
  | 1 => 1
  | 2 => 5
  | 3 => 15
  | 4 => 6554
  | 5 => 4
  | 9 => -1
  | 10 => 1
  | 11 => 1
  | _ => 0
def vM0 : Nat → Int32 := fun k => match k with
  | 17 => -1
  | _ => 0
def vD0 : Nat → Int32 := fun k => match k with
  | 6 => -1
  | _ => 0
def i00 : Nat → Nat → Nat → Int32 := fun s _ => match s with
  | 1 => vD0
  | 15 => vR0
  | 30 => vM0
  | 31 => w00
  | _ => fun _ => 0
abbrev m00 (a9 : Nat) (T0 : Nat → Option (List Nat)) : zM := (i00, fun _ _ _ => 0, fun _ _ _ => 0, fun _ _ _ => a9, T0, ([], 16), none)
section
variable {a9 : Nat} {T0 : Nat → Option (List Nat)}
theorem m00_rel : Rel (m00 a9 T0) 1 w00 true := by
  refine ⟨⟨fun k hk => ?_, rfl, fun _ => rfl, rfl, rfl, rfl⟩, fun i hi => ?_, ⟨rfl, fun j hj => ?_⟩, ⟨0, 0, by omega, by omega, rfl, rfl, fun _ => ⟨rfl, fun k q hk _ => absurd hk (by omega)⟩⟩⟩
  · have hk8 : k = 0 ∨ k = 1 ∨ k = 2 ∨ k = 3 ∨ k = 4 ∨ k = 5 ∨ k = 6 ∨ k = 7 := by omega
    rcases hk8 with e | e | e | e | e | e | e | e <;> subst e <;> rfl
  · rw [w00_0 (by omega)] at hi
    exact absurd hi (by rw [ti_0]; omega)
  · rw [w00_0 (by omega)] at hj
    exact absurd hj (by rw [ti_0]; omega)
theorem m00_inv : Inv (m00 a9 T0) 0 := by
  have hok := w00_ok.ok
  have e11 : (w00 11).toInt.toNat = 0 := by decide
  refine ⟨⟨0, m00_rel, ?_⟩, rfl, ⟨0, 0, by omega, by omega, rfl, rfl, rfl, fun j hj => absurd hj (by omega)⟩, fun s _ => ⟨.inl rfl, rfl, fun e => absurd e (by show ¬ (0 : Int32) = 1; decide)⟩, ⟨0, by omega, rfl, rfl, fun j hj => absurd hj (by omega), rfl⟩, by show 0 ≤ 400; omega, rfl, fun j hj => absurd hj (by show ¬ j < 0; omega)⟩
  rw [e11] at hok
  exact hok
theorem hA.congI {G : zG} {H : Heap} {v t n : Nat} {f g : Nat → Int32} (h : hA G H v t n (.inl f)) (e : ∀ j, j < n → f j = g j) : hA G H v t n (.inl g) := by
  refine h.trans (congrArg some ?_)
  rw [vp_cell_i, vp_cell_i]
  unfold arrV
  congr 1
  apply Array.ext
  · simp
  · intro i h1 h2
    simp only [Array.size_ofFn] at h1
    simp [e i h1]
/-- an object as the memory has it -/
theorem hO.z {G : zG} {M : zM} {H : Heap} {s i ci N : Nat} {Cn : String} {T : u_T} {V : Nat → Value} (hk : zkd s = some (.inl ci)) (hc : vwCl[ci]? = some (Cn, T, N)) (h : hO G H (ga G s i) ci V) (e : ∀ k, k < N → V k = zfv G M s i k) : zhold G M s i H := by
  obtain ⟨r, h1, h2⟩ := h
  have hr : r = (Cn, T, N) := Option.some.inj (h1.symm.trans hc)
  subst hr
  unfold zhold
  rw [hk]
  exact ⟨_, h1, h2.to e⟩
theorem hA.z {G : zG} {M : zM} {H : Heap} {s i t n : Nat} {f : ((Nat → Int32) ⊕ (Nat → Int64) ⊕ (Nat → UInt32) ⊕ (Nat → UInt64) ⊕ (Nat → Option Nat))} (hk : zkd s = some (.inr (t, n))) (h : hA G H (ga G s i) t n f) (e : f = zarr G M s i t) : zhold G M s i H := by
  subst e
  unfold zhold
  rw [hk]
  exact h
end
