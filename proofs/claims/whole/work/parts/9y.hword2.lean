/-! printed by wip/whole/h_*.py -/
theorem zw_654 : Cond.classLink RX4 49 RJ0 ∈ zAll := zin 654 (by decide +kernel) (by decide +kernel)
theorem zw_655 : Cond.instantiable RJ0 4 ∈ zAll := zin 655 (by decide +kernel) (by decide +kernel)
theorem zw_656 : Cond.methodLink RX4 85 yJ0_init_905df ∈ zAll := zin 656 (by decide +kernel) (by decide +kernel)
theorem zw_658 : Cond.code yJ0_init_905df cJ0_init_905df 2 none ∈ zAll := zin 658 (by decide +kernel) (by decide +kernel)
theorem zw_657 : Cond.instanceMethod yJ0_init_905df ∈ zAll := zin 657 (by decide +kernel) (by decide +kernel)
theorem hci_X4_word_J0_init_905df_85 : hLI Y_X4_word 85 Y_J0_init_905df 1 := ⟨zw_656, zw_657, zw_122, zw_658, rfl, rfl, by decide +kernel, by decide, by decide⟩

section HW2
variable {l : Launch} {G : zG} {H : Heap} {M : zM}
theorem hX_word55 {u n : Nat} {g : Nat → Int32} {K : hK} (hn0 : 0 < n) (hn : n ≤ 8) (hf : ∀ i, i < n → ¬ (255 : Int32) < g i) (hu : hA G H u 3 n (.inl g))
    (hp : ∀ (H2 : Heap) (g' : Nat → Int32), H2.size = H.size + 2 → (∀ q, q < H.size → H2[q]? = H[q]?) → hA G H2 (H.size + 1) 4 n (.inl g') → (∀ i, i < n → g' i = (g i).toInt8.toInt32) → hO G H2 H.size 0 (vp_V [.ref (H.size + 1), .int 0, .int 0, .int 0]) → K (some (.ref H.size)) H2) : hAt l G Y_X4_word (hEM G Y_X4_word 3 20 K) 55 [(2, Value.ref u)] [] H 1 n := by
  have hE : ∀ {mc ms : Nat} {K : hK}, zRm Y_X4_word (hEM G Y_X4_word mc ms K).1 := zRm_M
  refine H_bs (fun hB0 hg4 => ?_)
  refine H_new (ci := 0) (N := 4) (V := vp_V [.null, .int 0, .int 0, .int 0]) tyJ0 rfl zws_J0 tyJ0_ok zw_654 zw_655 zw_122 (fun j hj => by have h4 : j = 0 ∨ j = 1 ∨ j = 2 ∨ j = 3 := (by omega); rcases h4 with e | e | e | e <;> subst e <;> rfl) (by show 1 + 1 ≤ 3; omega) (by show n + 4 ≤ 20; omega) dX4_word_55 (fun H1 z1 o1 b1 => ?_)
  have hul := hu.lt
  have hu1 : hA G H1 u 3 n (.inl g) := (o1 u hul).trans hu
  have hun : u ≠ H.size := by omega
  refine H_dup rfl dX4_word_58 ?_
  refine H_aload_n dX4_word_59 rfl 0 rfl ?_
  have hz1 : H1.size = H.size + 1 := z1
  refine H_callI (as := [Value.ref u]) (st := [Value.ref H.size]) (mc' := 1) (ms' := n) hE hci_X4_word_J0_init_905df_85 rfl rfl (zle rfl) dX4_word_60 ⟨by show 1 + 1 + 1 ≤ 3; omega, by show n + 4 + n ≤ 20; omega⟩ (hJ_str1 (K := fun r H2 => r = none ∧ ∃ g' : Nat → Int32, H2.size = H1.size + 1 ∧ (∀ q, q < H1.size → q ≠ H.size → H2[q]? = H1[q]?) ∧ hA G H2 H1.size 4 n (.inl g') ∧ (∀ i, i < n → g' i = (g i).toInt8.toInt32) ∧ hO G H2 H.size 0 (vp_V [.ref H1.size, .int 0, .int 0, .int 0])) hn0 (by omega) hf hu1 b1 (hB0.fr) (Nat.le_refl 1) (Nat.le_refl n) (fun H2 g' z2 o2 n2 a2 b2 => ⟨rfl, g', z2, o2, n2, a2, b2⟩)) (fun r2 H2 q2 => ?_)
  obtain ⟨rfl, g', z2, o2, n2, a2, b2⟩ := q2
  exact H_aret rfl (Or.inl ⟨_, rfl⟩) dX4_word_63 (by show 1 + 1 + 1 ≤ 3; omega) (by show n + 4 + n ≤ 20; omega) (hp H2 g' (by omega) (fun q hq => (o2 q (by omega) (by omega)).trans (o1 q hq)) (hz1 ▸ n2) a2 (hz1 ▸ b2))
theorem hX_word55z {u n v0 : Nat} {g : Nat → Int32} {K : hK} (hn0 : n = 0) (hl0 : hF G H (gl G RJ0 7) 0 0 (.ref v0)) (hl1 : hF G H (gl G RJ0 7) 0 1 (.int 0)) (hll : gl G RJ0 7 < H.size) (hu : hA G H u 3 n (.inl g))
    (hp : ∀ (H2 : Heap), H2.size = H.size + 1 → (∀ q, q < H.size → H2[q]? = H[q]?) → hO G H2 H.size 0 (vp_V [.ref v0, .int 0, .int 0, .int 0]) → K (some (.ref H.size)) H2) : hAt l G Y_X4_word (hEM G Y_X4_word 3 20 K) 55 [(2, Value.ref u)] [] H 1 n := by
  have hE : ∀ {mc ms : Nat} {K : hK}, zRm Y_X4_word (hEM G Y_X4_word mc ms K).1 := zRm_M
  refine H_bs (fun hB0 hg4 => ?_)
  refine H_new (ci := 0) (N := 4) (V := vp_V [.null, .int 0, .int 0, .int 0]) tyJ0 rfl zws_J0 tyJ0_ok zw_654 zw_655 zw_122 (fun j hj => by have h4 : j = 0 ∨ j = 1 ∨ j = 2 ∨ j = 3 := (by omega); rcases h4 with e | e | e | e <;> subst e <;> rfl) (by show 1 + 1 ≤ 3; omega) (by show n + 4 ≤ 20; omega) dX4_word_55 (fun H1 z1 o1 b1 => ?_)
  have hul := hu.lt
  have hu1 : hA G H1 u 3 n (.inl g) := (o1 u hul).trans hu
  have hun : u ≠ H.size := by omega
  refine H_dup rfl dX4_word_58 ?_
  refine H_aload_n dX4_word_59 rfl 0 rfl ?_
  have hu0 : hA G H1 u 3 0 (.inl g) := hn0 ▸ hu1
  refine H_callI (as := [Value.ref u]) (st := [Value.ref H.size]) (mc' := 1) (ms' := 0) hE hci_X4_word_J0_init_905df_85 rfl rfl (zle rfl) dX4_word_60 ⟨by show 1 + 1 + 1 ≤ 3; omega, by show n + 4 + 0 ≤ 20; omega⟩ (hJ_str0 (K := fun r H2 => r = none ∧ H2.size = H1.size ∧ (∀ q, q ≠ H.size → H2[q]? = H1[q]?) ∧ hO G H2 H.size 0 (vp_V [.ref v0, .int 0, .int 0, .int 0])) (hFkept hl0 (o1 _ hll)) (hFkept hl1 (o1 _ hll)) (by omega) hu0 b1 (hB0.fr) (fun H2 z2 o2 b2 => ⟨rfl, z2, o2, b2⟩)) (fun r2 H2 q2 => ?_)
  obtain ⟨rfl, z2, o2, b2⟩ := q2
  exact H_aret rfl (Or.inl ⟨_, rfl⟩) dX4_word_63 (by show 1 + 1 + 1 ≤ 3; omega) (by show n + 4 + 0 ≤ 20; omega) (hp H2 (by omega) (fun q hq => (o2 q (by omega)).trans (o1 q hq)) b2)
end HW2
