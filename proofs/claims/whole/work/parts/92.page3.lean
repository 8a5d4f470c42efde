/-! THE REPORT, as the class writes it -/
def ap1 (m n k : Nat) : Nat × Nat := if n + k ≤ m then (0, 0) else (1, sb_cap (n + k) m)
def apc : List (List Nat) → Nat → Nat → Nat × Nat
  | [], _, _ => (0, 0)
  | s :: r, n, m => ((ap1 m n s.length).1 + (apc r (n + s.length) (sb_cap (n + s.length) m)).1, (ap1 m n s.length).2 + (apc r (n + s.length) (sb_cap (n + s.length) m)).2)
def apm : List (List Nat) → Nat → Nat → Nat
  | [], _, m => m
  | s :: r, n, m => apm r (n + s.length) (sb_cap (n + s.length) m)
theorem ap1_room {m n k : Nat} (h : n + k ≤ 400) : sb_Room (n + k) m (ap1 m n k).1 (ap1 m n k).2 := by
  unfold ap1
  by_cases c : n + k ≤ m
  · exact Or.inl c
  · rw [if_neg c]
    refine Or.inr ⟨Nat.le_refl _, Nat.le_refl _, ?_⟩
    unfold sb_cap
    rw [if_neg c]
    split <;> omega
theorem apc_app : ∀ (L K : List (List Nat)) (n m : Nat), apc (L ++ K) n m = ((apc L n m).1 + (apc K (n + L.flatten.length) (apm L n m)).1, (apc L n m).2 + (apc K (n + L.flatten.length) (apm L n m)).2)
  | [], K, n, m => by simp [apc, apm]
  | s :: r, K, n, m => by
    show apc (s :: (r ++ K)) n m = _
    have ih := apc_app r K (n + s.length) (sb_cap (n + s.length) m)
    simp only [apc, apm, ih, List.flatten_cons, List.length_append, Nat.add_assoc]
theorem apm_app : ∀ (L K : List (List Nat)) (n m : Nat), apm (L ++ K) n m = apm K (n + L.flatten.length) (apm L n m)
  | [], K, n, m => by simp [apm]
  | s :: r, K, n, m => by
    show apm (s :: (r ++ K)) n m = _
    have ih := apm_app r K (n + s.length) (sb_cap (n + s.length) m)
    simp only [apm, ih, List.flatten_cons, List.length_append, Nat.add_assoc]
theorem apm_ge : ∀ (L : List (List Nat)) (n m : Nat), n ≤ m → n + L.flatten.length ≤ apm L n m
  | [], n, m, h => by simpa [apm] using h
  | s :: r, n, m, h => by
    have ih := apm_ge r (n + s.length) (sb_cap (n + s.length) m) (sb_cap_ge _ _)
    simp only [apm, List.flatten_cons, List.length_append]
    omega
theorem apc_bnd : ∀ (L : List (List Nat)) (n m : Nat), n + L.flatten.length ≤ 400 → (apc L n m).2 + 2 * m ≤ 2 * apm L n m ∧ 2 ^ (apc L n m).1 * (m + 2) ≤ apm L n m + 2 ∧ (((apc L n m).1 = 0 ∧ (apc L n m).2 = 0 ∧ apm L n m = m) ∨ apm L n m ≤ 802)
  | [], n, m, _ => by simp [apc, apm]
  | s :: r, n, m, h => by
    simp only [List.flatten_cons, List.length_append] at h
    have ih := apc_bnd r (n + s.length) (sb_cap (n + s.length) m) (by omega)
    simp only [apc, apm]
    generalize apc r (n + s.length) (sb_cap (n + s.length) m) = C at ih ⊢
    generalize apm r (n + s.length) (sb_cap (n + s.length) m) = m2 at ih ⊢
    obtain ⟨h1, h2, h3⟩ := ih
    unfold ap1
    by_cases c : n + s.length ≤ m
    · have e : sb_cap (n + s.length) m = m := by
        unfold sb_cap
        rw [if_pos c]
      rw [e] at h1 h2 h3
      rw [if_pos c]
      simp only [Nat.zero_add]
      exact ⟨h1, h2, h3⟩
    · have e : 2 * m + 2 ≤ sb_cap (n + s.length) m ∧ sb_cap (n + s.length) m ≤ 802 := by
        unfold sb_cap
        rw [if_neg c]
        split <;> omega
      rw [if_neg c]
      generalize sb_cap (n + s.length) m = m1 at *
      refine ⟨by show m1 + C.2 + _ ≤ _; omega, ?_, Or.inr (by omega)⟩
      show 2 ^ (1 + C.1) * (m + 2) ≤ _
      have e2 : 2 ^ (1 + C.1) * (m + 2) = 2 ^ C.1 * (2 * (m + 2)) := by rw [Nat.pow_add, Nat.pow_one, Nat.mul_comm 2, Nat.mul_assoc]
      rw [e2]
      exact Nat.le_trans (Nat.mul_le_mul_left _ (by omega)) h2
theorem apc_max (L : List (List Nat)) (m : Nat) (h : L.flatten.length ≤ 400) : (apc L 0 m).1 ≤ 9 ∧ (apc L 0 m).2 ≤ 1700 := by
  obtain ⟨h1, h2, h3⟩ := apc_bnd L 0 m (by omega)
  rcases h3 with ⟨e1, e2, -⟩ | h3
  · omega
  · refine ⟨Nat.not_lt.mp fun c => ?_, by omega⟩
    have e3 : 2 ^ 10 ≤ 2 ^ (apc L 0 m).1 := Nat.pow_le_pow_right (by omega) (by omega)
    have e4 : 2 ^ 10 * 2 ≤ 2 ^ (apc L 0 m).1 * (m + 2) := Nat.mul_le_mul e3 (by omega)
    omega
section
variable {l : Launch} {G : zG} {M : zM} {t : List Nat} {m : Nat} {w : Nat → Int32}
theorem K_C {c : Nat} {p : Int32} {Kf : zI → zM → Prop} (hB : zmB M = (t, m)) (hl : t.length + 1 ≤ 400) (hp : p.toInt = c) (hc : c < 256) (h : Kf (14, 0) (zsB M (t ++ [c], sb_cap (t.length + 1) m))) : zCalR l G Y_J4_append_cf468 (ap1 m t.length 1).1 (ap1 m t.length 1).2 [vr 14 0, vi p] M Kf := by
  refine C_bapC hp hc ?_ ?_ <;> rw [hB]
  · exact ap1_room hl
  · exact h
theorem K_I {x : Nat} {p : Int32} {Kf : zI → zM → Prop} (hB : zmB M = (t, m)) (hl : t.length + (decL x).length ≤ 400) (hp : p.toInt = x) (h : Kf (14, 0) (zsB M (t ++ decL x, sb_cap (t.length + (decL x).length) m))) : zCalR l G Y_J4_append_bf812 (ap1 m t.length (decL x).length).1 (ap1 m t.length (decL x).length).2 [vr 14 0, vi p] M Kf := by
  rw [decL_len] at hl h ⊢
  refine C_bapI hp ?_ ?_ <;> rw [hB]
  · exact ap1_room hl
  · exact h
theorem K_S {a : Nat} {s : List Nat} {Kf : zI → zM → Prop} (hB : zmB M = (t, m)) (hs : zmT M a = some s) (hl : t.length + s.length ≤ 400) (h : Kf (14, 0) (zsB M (t ++ s, sb_cap (t.length + s.length) m))) : zCalR l G Y_J4_append_15ec4 (ap1 m t.length s.length).1 (ap1 m t.length s.length).2 [vr 14 0, va a] M Kf := by
  refine C_bapS hs ?_ ?_ <;> rw [hB]
  · exact ap1_room hl
  · exact h
theorem ap1_0 (q m : Nat) : ap1 (sb_cap q m) q 0 = (0, 0) := if_pos (sb_cap_ge q m)
theorem cap_2 (q m : Nat) : sb_cap q (sb_cap q m) = sb_cap q m := if_pos (sb_cap_ge q m)
theorem zsB_2 (M : zM) (b b' : List Nat × Nat) : zsB (zsB M b) b' = zsB M b' := rfl
theorem zmB_s (M : zM) (b : List Nat × Nat) : zmB (zsB M b) = b := rfl
theorem l2i {x : Int32} : (x.toInt64).toInt32 = x := by simp
theorem C_wrF {n A S T i : Nat} {Kf : zM → Prop} (hO : OK w n A S T) (hb : sBnd A S) (hi : i < n) (hR : Rel M 1 w true) (hB : zmB M = (t, m)) (htm : t.length ≤ m) (ht : t.length + 30 ≤ 400) (hk : Kf (zsB M (t ++ (rpF w i).flatten, apm (rpF w i) t.length m))) : zCalV l G Y_X8_writeFlow (apc (rpF w i) t.length m).1 (apc (rpF w i) t.length m).2 [vr 0 0, vr 17 (6 * 1 + i)] M Kf := by
  have hn := hO.nf
  obtain ⟨L1, L2, L3, L4⟩ := rpF_len hO hb hi
  obtain ⟨ff1, ff2, s, hs, sl, sv⟩ := hR.2.1 i (by omega)
  have es : s = nm w i := nm_of sl sv
  subst es
  have f := hO.fl i hi
  have h18 : 0 ≤ (w (sf i 18)).toInt ∧ (w (sf i 18)).toInt ≤ A := f.a0
  have h23 : 0 ≤ (w (sf i 23)).toInt ∧ (w (sf i 23)).toInt ≤ S := f.a5
  have htl : w (sf i 7) = 0 ∨ w (sf i 7) = 1 := f.tld
  have d1 := (dg_b (x := (w (sf i 18)).toInt.toNat) L3).2.2
  have d2 := (dg_b (x := (w (sf i 23)).toInt.toNat) L4).2.2
  have a0 : zmL M 18 (6 * 1 + i) 0 = (w (sf i 18)).toInt64 := ff2 0 (by omega)
  have a5 : zmL M 18 (6 * 1 + i) 5 = (w (sf i 23)).toInt64 := ff2 5 (by omega)
  have a8 : zmI M 17 (6 * 1 + i) 8 = w (sf i 7) := ff1 7 (by omega)
  have ln1 := decL_len (w (sf i 18)).toInt.toNat
  have ln2 := decL_len (w (sf i 23)).toInt.toNat
  rcases htl with c | c
  · have e : rpF w i = [nm w i, [58], decL (w (sf i 18)).toInt.toNat, [47], decL (w (sf i 23)).toInt.toNat, [], [32]] := by
      unfold rpF
      rw [if_neg (by rw [c]; decide)]
    rw [e] at hk ⊢
    simp only [apc, apm, List.length_cons, List.length_nil, Nat.zero_add, Nat.add_zero, List.flatten_cons, List.flatten_nil, List.append_nil, List.nil_append, ap1_0, cap_2, Nat.add_assoc] at hk ⊢
    refine zm_X8_writeFlow ⟨_, _, ?_, ?_, K_S hB hs (by omega) ⟨rfl, _, _, ?_, ?_, K_C (zmB_s _ _) (by simp only [List.length_append]; omega) (c := 58) rfl (by omega) ⟨rfl, _, _, ?_, ?_, K_I (zmB_s _ _) (x := (w (sf i 18)).toInt.toNat) (by simp only [List.length_append, List.length_cons, List.length_nil]; omega) (by show (zmL M 18 (6 * 1 + i) 0).toInt32.toInt = _; rw [a0, l2i]; omega) ⟨rfl, _, _, ?_, ?_, K_C (zmB_s _ _) (by simp only [List.length_append, List.length_cons, List.length_nil]; omega) (c := 47) rfl (by omega) ⟨rfl, _, _, ?_, ?_, K_I (zmB_s _ _) (x := (w (sf i 23)).toInt.toNat) (by simp only [List.length_append, List.length_cons, List.length_nil]; omega) (by show (zmL M 18 (6 * 1 + i) 5).toInt32.toInt = _; rw [a5, l2i]; omega) ⟨rfl, fun _ => zb_X8_writeFlow_79 ⟨_, _, ?_, ?_, K_C (zmB_s _ _) (by simp only [List.length_append, List.length_cons, List.length_nil]; omega) (c := 32) rfl (by omega) ⟨rfl, ?_, ?_, ?_⟩⟩, fun g => absurd (a8.trans c) g⟩⟩⟩⟩⟩⟩
    all_goals simp only [List.length_append, List.length_cons, List.length_nil, Nat.zero_add, Nat.add_assoc, zsB_2]
    all_goals first | omega | (simp only [List.append_assoc]; exact hk)
  · have e : rpF w i = [nm w i, [58], decL (w (sf i 18)).toInt.toNat, [47], decL (w (sf i 23)).toInt.toNat, [33], [32]] := by
      unfold rpF
      rw [if_pos c]
    rw [e] at hk ⊢
    simp only [apc, apm, List.length_cons, List.length_nil, Nat.zero_add, Nat.add_zero, List.flatten_cons, List.flatten_nil, List.append_nil, List.nil_append, ap1_0, cap_2, Nat.add_assoc] at hk ⊢
    refine zm_X8_writeFlow ⟨_, _, ?_, ?_, K_S hB hs (by omega) ⟨rfl, _, _, ?_, ?_, K_C (zmB_s _ _) (by simp only [List.length_append]; omega) (c := 58) rfl (by omega) ⟨rfl, _, _, ?_, ?_, K_I (zmB_s _ _) (x := (w (sf i 18)).toInt.toNat) (by simp only [List.length_append, List.length_cons, List.length_nil]; omega) (by show (zmL M 18 (6 * 1 + i) 0).toInt32.toInt = _; rw [a0, l2i]; omega) ⟨rfl, _, _, ?_, ?_, K_C (zmB_s _ _) (by simp only [List.length_append, List.length_cons, List.length_nil]; omega) (c := 47) rfl (by omega) ⟨rfl, _, _, ?_, ?_, K_I (zmB_s _ _) (x := (w (sf i 23)).toInt.toNat) (by simp only [List.length_append, List.length_cons, List.length_nil]; omega) (by show (zmL M 18 (6 * 1 + i) 5).toInt32.toInt = _; rw [a5, l2i]; omega) ⟨rfl, fun g => absurd (g.symm.trans (a8.trans c)) (by decide), fun _ => ⟨_, _, ?_, ?_, K_C (zmB_s _ _) (by simp only [List.length_append, List.length_cons, List.length_nil]; omega) (c := 33) rfl (by omega) ⟨rfl, zb_X8_writeFlow_79 ⟨_, _, ?_, ?_, K_C (zmB_s _ _) (by simp only [List.length_append, List.length_cons, List.length_nil]; omega) (c := 32) rfl (by omega) ⟨rfl, ?_, ?_, ?_⟩⟩⟩⟩⟩⟩⟩⟩⟩⟩
    all_goals simp only [List.length_append, List.length_cons, List.length_nil, Nat.zero_add, Nat.add_assoc, zsB_2]
    all_goals first | omega | (simp only [List.append_assoc]; exact hk)
end
