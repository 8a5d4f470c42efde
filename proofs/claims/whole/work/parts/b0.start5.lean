/-! printed by wip/whole/h_start2.py: THE HEAP BEHIND THE CONSTRUCTORS HOLDS THE FIRST MEMORY -/
section
variable {D : va_G} {Ak : Nat → ClassId} {z b : Nat} {B : Nat → Option Cell} {T : String → Nat → Nat} {y : ClassId → Prop} {n : Nat} {xs : Nat → Int32} {T0 : Nat → Option (List Nat)}
abbrev lGz (D : va_G) (Ak : Nat → ClassId) (z b : Nat) (B : Nat → Option Cell) (T : String → Nat → Nat) (y : ClassId → Prop) (n : Nat) (xs : Nat → Int32) : zG := (D, Ak, lga z b, z, B, T, y, n, xs)
theorem X8w.kept {G : zG} {H H1 H2 : Heap} {a : Nat} (h : X8w G H a H1) (ha : a < H.size) (e : ∀ q, q < H.size + 249 → H2[q]? = H1[q]?) : X8w G H a H2 :=
  X8w.mk (h.ob.kept (e _ (by omega))) (h.rd.kept (e _ (by omega))) ((e _ (by omega)).trans h.byt) (h.su.kept (e _ (by omega))) (h.r0.kept fun q _ _ => e q (by omega)) (h.r1.kept fun q _ _ => e q (by omega)) (h.sc.kept (e _ (by omega))) ((e _ (by omega)).trans h.s1) ((e _ (by omega)).trans h.s2) ((e _ (by omega)).trans h.s3) ((e _ (by omega)).trans h.s4) ((e _ (by omega)).trans h.s5) (h.r2.kept fun q _ _ => e q (by omega)) (h.pa.kept (e _ (by omega))) ((e _ (by omega)).trans h.pl) (fun j hj => (h.pr j hj).kept fun q _ _ => e q (by omega)) ((e _ (by omega)).trans h.sv) (h.q0.kept fun q _ _ => e q (by omega)) (h.q1.kept fun q _ _ => e q (by omega)) ((e _ (by omega)).trans h.isv) (h.sb.kept (e _ (by omega))) ((e _ (by omega)).trans h.sa)
theorem X9w.kept {G : zG} {H H1 H2 : Heap} {a : Nat} (h : X9w G H a H1) (ha : a < H.size) (e : ∀ q, q < H.size + 14 → H2[q]? = H1[q]?) : X9w G H a H2 :=
  X9w.mk (h.ob.kept (e _ (by omega))) (by obtain ⟨g, g1, g2⟩ := h.w0; exact ⟨g, (e _ (by omega)).trans g1, g2⟩) ((e _ (by omega)).trans h.f1) ((e _ (by omega)).trans h.f2) ((e _ (by omega)).trans h.f3) ((e _ (by omega)).trans h.f4) ((e _ (by omega)).trans h.f5) ((e _ (by omega)).trans h.f6) ((e _ (by omega)).trans h.f7) ((e _ (by omega)).trans h.f8) ((e _ (by omega)).trans h.f9) ((e _ (by omega)).trans h.f10) ((e _ (by omega)).trans h.f11) ((e _ (by omega)).trans h.f12) ((e _ (by omega)).trans h.f13)
theorem zs_R {G : zG} {H H0 : Heap} {a z : Nat} (hs : H0.size = z + 1) (h : X8w G H0 a H) : ∀ r, r < 13 → Rtr G H (lrA z r) := by
  intro r hr
  have h3 := h.pr
  have h0 := h.r0
  have h1 := h.r1
  have h2 := h.r2
  have h11 := h.q0
  have h12 := h.q1
  rw [hs] at h0 h1 h2 h11 h12
  simp only [hs] at h3
  have hc : r = 0 ∨ r = 1 ∨ r = 2 ∨ r = 3 ∨ r = 4 ∨ r = 5 ∨ r = 6 ∨ r = 7 ∨ r = 8 ∨ r = 9 ∨ r = 10 ∨ r = 11 ∨ r = 12 := by omega
  rcases hc with e | e | e | e | e | e | e | e | e | e | e | e | e
  · subst e; exact h0
  · subst e; exact h1
  · subst e; exact h2
  · subst e; exact h3 0 (by omega)
  · subst e; exact h3 1 (by omega)
  · subst e; exact h3 2 (by omega)
  · subst e; exact h3 3 (by omega)
  · subst e; exact h3 4 (by omega)
  · subst e; exact h3 5 (by omega)
  · subst e; exact h3 6 (by omega)
  · subst e; exact h3 7 (by omega)
  · subst e; exact h11
  · subst e; exact h12
theorem zs_hold {H H8 H9 : Heap} (s8 : H8.size = z + 1) (s9 : H9.size = z + 251) (h8 : X8w (lGz D Ak z b B T y n xs) H8 z H) (h9 : X9w (lGz D Ak z b B T y n xs) H9 (z + 250) H) (hsz : z + 267 ≤ H.size) : ∀ s i : Nat, i < zcnt s → zhold (lGz D Ak z b B T y n xs) (m00 (T "EarlyDrops$Flow" 9) T0) s i H := by
  have R := zs_R s8 h8
  intro s i hi
  have hs := zs_lt hi
  have hc : s = 0 ∨ s = 1 ∨ s = 2 ∨ s = 3 ∨ s = 4 ∨ s = 5 ∨ s = 6 ∨ s = 7 ∨ s = 8 ∨ s = 9 ∨ s = 10 ∨ s = 11 ∨ s = 12 ∨ s = 13 ∨ s = 14 ∨ s = 15 ∨ s = 16 ∨ s = 17 ∨ s = 18 ∨ s = 19 ∨ s = 20 ∨ s = 21 ∨ s = 22 ∨ s = 23 ∨ s = 24 ∨ s = 25 ∨ s = 26 ∨ s = 27 ∨ s = 28 ∨ s = 29 ∨ s = 30 ∨ s = 31 ∨ s = 32 ∨ s = 33 ∨ s = 34 ∨ s = 35 ∨ s = 36 ∨ s = 37 ∨ s = 38 ∨ s = 39 ∨ s = 40 ∨ s = 41 ∨ s = 42 ∨ s = 43 ∨ s = 44 ∨ s = 45 ∨ s = 46 ∨ s = 47 ∨ s = 48 ∨ s = 49 ∨ s = 50 ∨ s = 51 ∨ s = 52 := by omega
  rcases hc with e | e | e | e | e | e | e | e | e | e | e | e | e | e | e | e | e | e | e | e | e | e | e | e | e | e | e | e | e | e | e | e | e | e | e | e | e | e | e | e | e | e | e | e | e | e | e | e | e | e | e | e | e
  · subst e; have hi0 : i < 1 := hi; have e0 : i = 0 := (by omega); subst e0; have h := h8.ob; rw [s8] at h; exact hO.z (ci := 12) (N := 9) rfl rfl h (fun k hk => by have h4 : k = 0 ∨ k = 1 ∨ k = 2 ∨ k = 3 ∨ k = 4 ∨ k = 5 ∨ k = 6 ∨ k = 7 ∨ k = 8 := (by omega); rcases h4 with e | e | e | e | e | e | e | e | e <;> subst e <;> rfl)
  · subst e; have hi0 : i < 1 := hi; have e0 : i = 0 := (by omega); subst e0; have h := h8.rd; rw [s8] at h; exact hO.z (ci := 8) (N := 7) rfl rfl h (fun k hk => by have h4 : k = 0 ∨ k = 1 ∨ k = 2 ∨ k = 3 ∨ k = 4 ∨ k = 5 ∨ k = 6 := (by omega); rcases h4 with e | e | e | e | e | e | e <;> subst e <;> rfl)
  · subst e; have hi0 : i < 1 := hi; have e0 : i = 0 := (by omega); subst e0; have h := h8.byt; rw [s8] at h; exact hA.z rfl h rfl
  · subst e; have hi0 : i < 1 := hi; have e0 : i = 0 := (by omega); subst e0; have h := h8.su; rw [s8] at h; exact hO.z (ci := 11) (N := 3) rfl rfl h (fun k hk => by have h4 : k = 0 ∨ k = 1 ∨ k = 2 := (by omega); rcases h4 with e | e | e <;> subst e <;> rfl)
  · subst e; have hi0 : i < 1 := hi; have e0 : i = 0 := (by omega); subst e0; have h := h8.sc; rw [s8] at h; exact hO.z (ci := 10) (N := 10) rfl rfl h (fun k hk => by have h4 : k = 0 ∨ k = 1 ∨ k = 2 ∨ k = 3 ∨ k = 4 ∨ k = 5 ∨ k = 6 ∨ k = 7 ∨ k = 8 ∨ k = 9 := (by omega); rcases h4 with e | e | e | e | e | e | e | e | e | e <;> subst e <;> rfl)
  · subst e; have hi0 : i < 1 := hi; have e0 : i = 0 := (by omega); subst e0; have h := h8.s1; rw [s8] at h; exact hA.z rfl h rfl
  · subst e; have hi0 : i < 1 := hi; have e0 : i = 0 := (by omega); subst e0; have h := h8.s2; rw [s8] at h; exact hA.z rfl h rfl
  · subst e; have hi0 : i < 1 := hi; have e0 : i = 0 := (by omega); subst e0; have h := h8.s3; rw [s8] at h; exact hA.z rfl h rfl
  · subst e; have hi0 : i < 1 := hi; have e0 : i = 0 := (by omega); subst e0; have h := h8.s4; rw [s8] at h; exact hA.z rfl h rfl
  · subst e; have hi0 : i < 1 := hi; have e0 : i = 0 := (by omega); subst e0; have h := h8.s5; rw [s8] at h; exact hA.z rfl h rfl
  · subst e; have hi0 : i < 1 := hi; have e0 : i = 0 := (by omega); subst e0; have h := h8.pa; rw [s8] at h; exact hO.z (ci := 6) (N := 3) rfl rfl h (fun k hk => by have h4 : k = 0 ∨ k = 1 ∨ k = 2 := (by omega); rcases h4 with e | e | e <;> subst e <;> rfl)
  · subst e; have hi0 : i < 1 := hi; have e0 : i = 0 := (by omega); subst e0; have h := h8.pl; simp only [s8] at h; exact hA.z rfl (hA.cong (g := fun k => some (lga z b 15 (3 + k))) h (fun j hj => by have h4 : j = 0 ∨ j = 1 ∨ j = 2 ∨ j = 3 ∨ j = 4 ∨ j = 5 ∨ j = 6 ∨ j = 7 := (by omega); rcases h4 with e | e | e | e | e | e | e | e <;> subst e <;> rfl)) rfl
  · subst e; have hi0 : i < 1 := hi; have e0 : i = 0 := (by omega); subst e0; have h := h8.sv; simp only [s8] at h; exact hA.z rfl (hA.cong (g := fun k => some (lga z b 15 (11 + k))) h (fun j hj => by have h4 : j = 0 ∨ j = 1 := (by omega); rcases h4 with e | e <;> subst e <;> rfl)) rfl
  · subst e; have hi0 : i < 1 := hi; have e0 : i = 0 := (by omega); subst e0; have h := h8.isv; rw [s8] at h; exact hA.z rfl h rfl
  · subst e; exact fun h => absurd h (by omega)
  · subst e; exact hO.z (ci := 9) (N := 16) rfl rfl (R i hi).ob (fun k hk => by have h4 : k = 0 ∨ k = 1 ∨ k = 2 ∨ k = 3 ∨ k = 4 ∨ k = 5 ∨ k = 6 ∨ k = 7 ∨ k = 8 ∨ k = 9 ∨ k = 10 ∨ k = 11 ∨ k = 12 ∨ k = 13 ∨ k = 14 ∨ k = 15 := (by omega); rcases h4 with e | e | e | e | e | e | e | e | e | e | e | e | e | e | e | e <;> subst e <;> rfl)
  · subst e; exact hA.z rfl (hA.cong (g := fun k => some (lga z b 17 (6 * i + k))) (R i hi).arr (fun j hj => by show some _ = some (lrA z ((6 * i + j) / 6) + 6 + 2 * ((6 * i + j) % 6)); rw [show (6 * i + j) / 6 = i by omega, show (6 * i + j) % 6 = j by omega])) rfl
  · subst e; have hi0 : i < 78 := hi; exact hO.z (ci := 5) (N := 11) rfl rfl ((R (i / 6) (by omega)).fl (i % 6) (by omega)).1 (fun k hk => by have h4 : k = 0 ∨ k = 1 ∨ k = 2 ∨ k = 3 ∨ k = 4 ∨ k = 5 ∨ k = 6 ∨ k = 7 ∨ k = 8 ∨ k = 9 ∨ k = 10 := (by omega); rcases h4 with e | e | e | e | e | e | e | e | e | e | e <;> subst e <;> rfl)
  · subst e; have hi0 : i < 78 := hi; exact hA.z rfl ((R (i / 6) (by omega)).fl (i % 6) (by omega)).2 rfl
  · subst e; exact hO.z (ci := 7) (N := 2) rfl rfl (R i hi).qo (fun k hk => by have h4 : k = 0 ∨ k = 1 := (by omega); rcases h4 with e | e <;> subst e <;> rfl)
  · subst e; exact hA.z rfl (R i hi).qa rfl
  · subst e; exact hO.z (ci := 4) (N := 3) rfl rfl (R i hi).dO (fun k hk => by have h4 : k = 0 ∨ k = 1 ∨ k = 2 := (by omega); rcases h4 with e | e | e <;> subst e <;> rfl)
  · subst e; exact hA.z rfl (R i hi).da rfl
  · subst e; exact absurd hi (by show ¬ i < 0; omega)
  · subst e; exact absurd hi (by show ¬ i < 0; omega)
  · subst e; exact absurd hi (by show ¬ i < 0; omega)
  · subst e; exact absurd hi (by show ¬ i < 0; omega)
  · subst e; exact absurd hi (by show ¬ i < 0; omega)
  · subst e; exact absurd hi (by show ¬ i < 0; omega)
  · subst e; exact absurd hi (by show ¬ i < 0; omega)
  · subst e; have hi0 : i < 1 := hi; have e0 : i = 0 := (by omega); subst e0; have h := h9.ob; rw [s9] at h; exact hO.z (ci := 13) (N := 30) rfl rfl h (fun k hk => by have h4 : k = 0 ∨ k = 1 ∨ k = 2 ∨ k = 3 ∨ k = 4 ∨ k = 5 ∨ k = 6 ∨ k = 7 ∨ k = 8 ∨ k = 9 ∨ k = 10 ∨ k = 11 ∨ k = 12 ∨ k = 13 ∨ k = 14 ∨ k = 15 ∨ k = 16 ∨ k = 17 ∨ k = 18 ∨ k = 19 ∨ k = 20 ∨ k = 21 ∨ k = 22 ∨ k = 23 ∨ k = 24 ∨ k = 25 ∨ k = 26 ∨ k = 27 ∨ k = 28 ∨ k = 29 := (by omega); rcases h4 with e | e | e | e | e | e | e | e | e | e | e | e | e | e | e | e | e | e | e | e | e | e | e | e | e | e | e | e | e | e <;> subst e <;> rfl)
  · subst e; have hi0 : i < 1 := hi; have e0 : i = 0 := (by omega); subst e0; obtain ⟨g, g1, g2⟩ := h9.w0; rw [s9] at g1; exact hA.z rfl (hA.congI g1 g2) rfl
  · subst e; have hi0 : i < 1 := hi; have e0 : i = 0 := (by omega); subst e0; have h := h9.f1; rw [s9] at h; exact hA.z rfl h rfl
  · subst e; have hi0 : i < 1 := hi; have e0 : i = 0 := (by omega); subst e0; have h := h9.f2; rw [s9] at h; exact hA.z rfl h rfl
  · subst e; have hi0 : i < 1 := hi; have e0 : i = 0 := (by omega); subst e0; have h := h9.f3; rw [s9] at h; exact hA.z rfl h rfl
  · subst e; have hi0 : i < 1 := hi; have e0 : i = 0 := (by omega); subst e0; have h := h9.f4; rw [s9] at h; exact hA.z rfl h rfl
  · subst e; have hi0 : i < 1 := hi; have e0 : i = 0 := (by omega); subst e0; have h := h9.f5; rw [s9] at h; exact hA.z rfl h rfl
  · subst e; have hi0 : i < 1 := hi; have e0 : i = 0 := (by omega); subst e0; have h := h9.f6; rw [s9] at h; exact hA.z rfl h rfl
  · subst e; have hi0 : i < 1 := hi; have e0 : i = 0 := (by omega); subst e0; have h := h9.f7; rw [s9] at h; exact hA.z rfl h rfl
  · subst e; have hi0 : i < 1 := hi; have e0 : i = 0 := (by omega); subst e0; have h := h9.f8; rw [s9] at h; exact hA.z rfl h rfl
  · subst e; have hi0 : i < 1 := hi; have e0 : i = 0 := (by omega); subst e0; have h := h9.f9; rw [s9] at h; exact hA.z rfl h rfl
  · subst e; have hi0 : i < 1 := hi; have e0 : i = 0 := (by omega); subst e0; have h := h9.f10; rw [s9] at h; exact hA.z rfl h rfl
  · subst e; have hi0 : i < 1 := hi; have e0 : i = 0 := (by omega); subst e0; have h := h9.f11; rw [s9] at h; exact hA.z rfl h rfl
  · subst e; have hi0 : i < 1 := hi; have e0 : i = 0 := (by omega); subst e0; have h := h9.f12; rw [s9] at h; exact hA.z rfl h rfl
  · subst e; have hi0 : i < 1 := hi; have e0 : i = 0 := (by omega); subst e0; have h := h9.f13; rw [s9] at h; exact hA.z rfl h rfl
  · subst e; exact absurd hi (by show ¬ i < 0; omega)
  · subst e; exact absurd hi (by show ¬ i < 0; omega)
  · subst e; exact absurd hi (by show ¬ i < 0; omega)
  · subst e; exact absurd hi (by show ¬ i < 0; omega)
  · subst e; exact absurd hi (by show ¬ i < 0; omega)
  · subst e; have hi0 : i < 1 := hi; have e0 : i = 0 := (by omega); subst e0; exact fun _ => (by show z + 265 < H.size; omega)
  · subst e; have hi0 : i < 1 := hi; have e0 : i = 0 := (by omega); subst e0; exact fun _ => (by show z + 266 < H.size; omega)
  · subst e; exact fun h => absurd h (by omega)
end
