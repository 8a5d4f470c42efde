
section
variable {s : State} {b : Nat}
/-- where a text of the class files lies -/
def gT (s : State) (own : String) (k : Nat) : Nat := match (Term.string own k).eval #[] s none [] s with
  | some (.ref a) => a
  | _ => 0
theorem T1_one {args : Array Value} {D : va_G} {own tx : String} {k : Nat} (h1 : (Cond.stringRef own k tx).before args s = true) (h : ∃ a v : Nat, (Term.string own k).eval args s none [] s = some (.ref a) ∧ lSt D s a v (zch tx)) : vk_R own k tx (gT s own k) s ∧ ∃ v : Nat, lSt D s (gT s own k) v (zch tx) := by
  obtain ⟨a, v, h2, h3⟩ := h
  have h4 : (Term.string own k).eval #[] s none [] s = some (.ref a) := h2
  have e : gT s own k = a := by
    unfold gT
    rw [h4]
  rw [e]
  exact ⟨vk_R.of h1 h2, v, h3⟩
theorem T1_T {args : Array Value} {D : va_G} (hts : ∀ w ∈ lw_tbl, w.before args s = true) (hf : ∀ c ∈ fl9, c.before args s = true) (hD : u_Kn s RJ0 TJ0 4 (D.1 0) (D.2 0)) : ∀ q ∈ zLits, vk_R q.1 q.2.1 q.2.2 (gT s q.1 q.2.1) s ∧ ∃ v : Nat, lSt D s (gT s q.1 q.2.1) v (zch q.2.2) :=
  List.forall_mem_cons.mpr ⟨T1_one (hts _ (List.mem_of_getElem? (i := 235) (by decide +kernel))) (T1_l0 hf hD), List.forall_mem_cons.mpr ⟨T1_one (hts _ (List.mem_of_getElem? (i := 548) (by decide +kernel))) (T1_l1 hf hD), List.forall_mem_cons.mpr ⟨T1_one (hts _ (List.mem_of_getElem? (i := 621) (by decide +kernel))) (T1_l2 hf hD), List.forall_mem_cons.mpr ⟨T1_one (hts _ (List.mem_of_getElem? (i := 626) (by decide +kernel))) (T1_l3 hf hD), List.forall_mem_cons.mpr ⟨T1_one (hts _ (List.mem_of_getElem? (i := 628) (by decide +kernel))) (T1_l4 hf hD), List.forall_mem_cons.mpr ⟨T1_one (hts _ (List.mem_of_getElem? (i := 629) (by decide +kernel))) (T1_l5 hf hD), List.forall_mem_cons.mpr ⟨T1_one (hts _ (List.mem_of_getElem? (i := 630) (by decide +kernel))) (T1_l6 hf hD), List.forall_mem_cons.mpr ⟨T1_one (hts _ (List.mem_of_getElem? (i := 631) (by decide +kernel))) (T1_l7 hf hD), List.forall_mem_cons.mpr ⟨T1_one (hts _ (List.mem_of_getElem? (i := 653) (by decide +kernel))) (T1_l8 hf hD), List.forall_mem_cons.mpr ⟨T1_one (hts _ (List.mem_of_getElem? (i := 705) (by decide +kernel))) (T1_l9 hf hD), List.forall_mem_cons.mpr ⟨T1_one (hts _ (List.mem_of_getElem? (i := 768) (by decide +kernel))) (T1_l10 hf hD), List.forall_mem_cons.mpr ⟨T1_one (hts _ (List.mem_of_getElem? (i := 770) (by decide +kernel))) (T1_l11 hf hD), List.forall_mem_cons.mpr ⟨T1_one (hts _ (List.mem_of_getElem? (i := 771) (by decide +kernel))) (T1_l12 hf hD), List.forall_mem_cons.mpr ⟨T1_one (hts _ (List.mem_of_getElem? (i := 772) (by decide +kernel))) (T1_l13 hf hD), List.forall_mem_cons.mpr ⟨T1_one (hts _ (List.mem_of_getElem? (i := 773) (by decide +kernel))) (T1_l14 hf hD), List.forall_mem_cons.mpr ⟨T1_one (hts _ (List.mem_of_getElem? (i := 774) (by decide +kernel))) (T1_l15 hf hD), List.forall_mem_cons.mpr ⟨T1_one (hts _ (List.mem_of_getElem? (i := 775) (by decide +kernel))) (T1_l16 hf hD), List.forall_mem_cons.mpr ⟨T1_one (hts _ (List.mem_of_getElem? (i := 776) (by decide +kernel))) (T1_l17 hf hD), List.forall_mem_cons.mpr ⟨T1_one (hts _ (List.mem_of_getElem? (i := 777) (by decide +kernel))) (T1_l18 hf hD), List.forall_mem_cons.mpr ⟨T1_one (hts _ (List.mem_of_getElem? (i := 1330) (by decide +kernel))) (T1_l19 hf hD), List.forall_mem_cons.mpr ⟨T1_one (hts _ (List.mem_of_getElem? (i := 1357) (by decide +kernel))) (T1_l20 hf hD), List.forall_mem_cons.mpr ⟨T1_one (hts _ (List.mem_of_getElem? (i := 1738) (by decide +kernel))) (T1_l21 hf hD), List.forall_mem_cons.mpr ⟨T1_one (hts _ (List.mem_of_getElem? (i := 1765) (by decide +kernel))) (T1_l22 hf hD), List.forall_mem_cons.mpr ⟨T1_one (hts _ (List.mem_of_getElem? (i := 1774) (by decide +kernel))) (T1_l23 hf hD), List.forall_mem_cons.mpr ⟨T1_one (hts _ (List.mem_of_getElem? (i := 1780) (by decide +kernel))) (T1_l24 hf hD), List.forall_mem_cons.mpr ⟨T1_one (hts _ (List.mem_of_getElem? (i := 1781) (by decide +kernel))) (T1_l25 hf hD), List.forall_mem_cons.mpr ⟨T1_one (hts _ (List.mem_of_getElem? (i := 1782) (by decide +kernel))) (T1_l26 hf hD), List.forall_mem_cons.mpr ⟨T1_one (hts _ (List.mem_of_getElem? (i := 1783) (by decide +kernel))) (T1_l27 hf hD), List.forall_mem_cons.mpr ⟨T1_one (hts _ (List.mem_of_getElem? (i := 1800) (by decide +kernel))) (T1_l28 hf hD), List.forall_mem_cons.mpr ⟨T1_one (hts _ (List.mem_of_getElem? (i := 1829) (by decide +kernel))) (T1_l29 hf hD), List.forall_mem_cons.mpr ⟨T1_one (hts _ (List.mem_of_getElem? (i := 1830) (by decide +kernel))) (T1_l30 hf hD), List.forall_mem_cons.mpr ⟨T1_one (hts _ (List.mem_of_getElem? (i := 1831) (by decide +kernel))) (T1_l31 hf hD), List.forall_mem_cons.mpr ⟨T1_one (hts _ (List.mem_of_getElem? (i := 1832) (by decide +kernel))) (T1_l32 hf hD), List.forall_mem_cons.mpr ⟨T1_one (hts _ (List.mem_of_getElem? (i := 1833) (by decide +kernel))) (T1_l33 hf hD), List.forall_mem_cons.mpr ⟨T1_one (hts _ (List.mem_of_getElem? (i := 663) (by decide +kernel))) (T1_l34 hf hD), fun _ h => absurd h List.not_mem_nil⟩⟩⟩⟩⟩⟩⟩⟩⟩⟩⟩⟩⟩⟩⟩⟩⟩⟩⟩⟩⟩⟩⟩⟩⟩⟩⟩⟩⟩⟩⟩⟩⟩⟩⟩
theorem zLits_sm : ∀ q ∈ zLits, (∀ c ∈ zch q.2.2, c < 256) ∧ (zch q.2.2).length ≤ 65536 :=
  List.forall_mem_cons.mpr ⟨by decide +kernel, List.forall_mem_cons.mpr ⟨by decide +kernel, List.forall_mem_cons.mpr ⟨by decide +kernel, List.forall_mem_cons.mpr ⟨by decide +kernel, List.forall_mem_cons.mpr ⟨by decide +kernel, List.forall_mem_cons.mpr ⟨by decide +kernel, List.forall_mem_cons.mpr ⟨by decide +kernel, List.forall_mem_cons.mpr ⟨by decide +kernel, List.forall_mem_cons.mpr ⟨by decide +kernel, List.forall_mem_cons.mpr ⟨by decide +kernel, List.forall_mem_cons.mpr ⟨by decide +kernel, List.forall_mem_cons.mpr ⟨by decide +kernel, List.forall_mem_cons.mpr ⟨by decide +kernel, List.forall_mem_cons.mpr ⟨by decide +kernel, List.forall_mem_cons.mpr ⟨by decide +kernel, List.forall_mem_cons.mpr ⟨by decide +kernel, List.forall_mem_cons.mpr ⟨by decide +kernel, List.forall_mem_cons.mpr ⟨by decide +kernel, List.forall_mem_cons.mpr ⟨by decide +kernel, List.forall_mem_cons.mpr ⟨by decide +kernel, List.forall_mem_cons.mpr ⟨by decide +kernel, List.forall_mem_cons.mpr ⟨by decide +kernel, List.forall_mem_cons.mpr ⟨by decide +kernel, List.forall_mem_cons.mpr ⟨by decide +kernel, List.forall_mem_cons.mpr ⟨by decide +kernel, List.forall_mem_cons.mpr ⟨by decide +kernel, List.forall_mem_cons.mpr ⟨by decide +kernel, List.forall_mem_cons.mpr ⟨by decide +kernel, List.forall_mem_cons.mpr ⟨by decide +kernel, List.forall_mem_cons.mpr ⟨by decide +kernel, List.forall_mem_cons.mpr ⟨by decide +kernel, List.forall_mem_cons.mpr ⟨by decide +kernel, List.forall_mem_cons.mpr ⟨by decide +kernel, List.forall_mem_cons.mpr ⟨by decide +kernel, List.forall_mem_cons.mpr ⟨by decide +kernel, fun _ h => absurd h List.not_mem_nil⟩⟩⟩⟩⟩⟩⟩⟩⟩⟩⟩⟩⟩⟩⟩⟩⟩⟩⟩⟩⟩⟩⟩⟩⟩⟩⟩⟩⟩⟩⟩⟩⟩⟩⟩
theorem lSt.uniq {D : va_G} {a v v' : Nat} {t t' : List Nat} (h : lSt D s a v t) (h' : lSt D s a v' t') (ht : ∀ c ∈ t, c < 256) (ht' : ∀ c ∈ t', c < 256) : t = t' := by
  obtain ⟨⟨c1, a1, a2, a3, a4, a5, a6⟩, c2, b1, b2, b3, b4, b5, b6⟩ := h
  obtain ⟨⟨c1', a1', -, -, -, a5', -⟩, c2', b1', -, -, -, b5', b6'⟩ := h'
  have e1 : c1 = c1' := Option.some.inj (a1.symm.trans a1')
  subst e1
  have e2 : v = v' := Value.ref.inj (Option.some.inj (a5.symm.trans a5'))
  subst e2
  have e3 : c2 = c2' := Option.some.inj (b1.symm.trans b1')
  subst e3
  have hl : t.length = t'.length := b5.symm.trans b5'
  refine List.ext_getElem hl fun i h1 h2 => ?_
  have h4 : sb_b (t.getD i 0) = sb_b (t'.getD i 0) := Value.int.inj (Option.some.inj ((b6 i h1).symm.trans (b6' i h2)))
  have g1 : t.getD i 0 = t[i] := by rw [List.getD_eq_getElem?_getD, List.getElem?_eq_getElem h1]; rfl
  have g2 : t'.getD i 0 = t'[i] := by rw [List.getD_eq_getElem?_getD, List.getElem?_eq_getElem h2]; rfl
  rw [g1, g2] at h4
  have k1 := ht _ (List.getElem_mem h1)
  have k2 := ht' _ (List.getElem_mem h2)
  have e := (sb_byte _ k1).1.symm.trans ((congrArg (fun x => x &&& 255) h4).trans (sb_byte _ k2).1)
  have e4 := congrArg Int32.toInt e
  rw [ti_nI (by omega), ti_nI (by omega)] at e4
  omega
/-- the texts by address -/
theorem T1_T0 {D : va_G} {T : String → Nat → Nat} (h : ∀ q ∈ zLits, ∃ v : Nat, lSt D s (T q.1 q.2.1) v (zch q.2.2)) : ∃ T0 : Nat → Option (List Nat), (∀ (a : Nat) (t : List Nat), T0 a = some t → ∃ q ∈ zLits, T q.1 q.2.1 = a ∧ zch q.2.2 = t) ∧ ∀ q ∈ zLits, T0 (T q.1 q.2.1) = some (zch q.2.2) := by
  have h0 : ∀ a : Nat, ∃ o : Option (List Nat), (∀ t : List Nat, o = some t → ∃ q ∈ zLits, T q.1 q.2.1 = a ∧ zch q.2.2 = t) ∧ ∀ q ∈ zLits, T q.1 q.2.1 = a → o = some (zch q.2.2) := by
    intro a
    by_cases c : ∃ q ∈ zLits, T q.1 q.2.1 = a
    · obtain ⟨q, hq, e⟩ := c
      refine ⟨some (zch q.2.2), fun t ht => ⟨q, hq, e, Option.some.inj ht⟩, fun q' hq' e' => ?_⟩
      obtain ⟨v, k⟩ := h q hq
      obtain ⟨v', k'⟩ := h q' hq'
      rw [e] at k
      rw [e'] at k'
      rw [k.uniq k' (zLits_sm q hq).1 (zLits_sm q' hq').1]
    · exact ⟨none, (fun t ht => by cases ht), fun q hq e => absurd ⟨q, hq, e⟩ c⟩
  obtain ⟨f, hf⟩ := Classical.axiomOfChoice h0
  exact ⟨f, fun a t ht => (hf a).1 t ht, fun q hq => (hf _).2 q hq rfl⟩
theorem T1_zZ {D : va_G} {Ak : Nat → ClassId} {T : String → Nat → Nat} {y : ClassId → Prop} {n z0 : Nat} {xs : Nat → Int32} {C f d : String} {v : Value} (hz0 : z0 = s.heap.size) (h : va_Z C f d v (fun _ => False) s s.heap) : zZ (lGz D Ak z0 b (fun q => s.heap[q]?) T y n xs) C f d v s := by
  obtain ⟨cf, kf, fi, fl, a, cell, h1, h2, h3, h4, h5, h6, h7, -⟩ := h
  exact ⟨cf, kf, fi, fl, a, cell, h1, h2, h3, h4, h5, h6, h7, by rw [hz0]; exact (Array.getElem?_eq_some_iff.mp h5).1⟩
theorem zFace_in : ∀ w ∈ zFace, w ∈ lw_tbl := by decide +kernel
/-- what a walk needs of the tables, at the start -/
theorem T1_tb {D : va_G} {Ak : Nat → ClassId} {L z0 : Nat} {xs : Nat → Int32} (hz0 : z0 = s.heap.size) (hts : ∀ w ∈ lw_tbl, w.before #[Value.ref b] s = true) (hf : ∀ c ∈ fl9, c.before #[Value.ref b] s = true) (hX : va_X b L xs s s.heap) (hbl : b < s.heap.size) (hD : ∀ (c : Nat) (r : vw_C), vwCl[c]? = some r → u_Kn s r.1 r.2.1 r.2.2 (D.1 c) (D.2 c)) (hAk : ∀ t : Nat, t < 8 → ArrOfT s (Ak t) (zty t) ∧ va_RA s (Ak t) (zty t)) (hA4 : lY s (Ak 4)) (hT : ∀ q ∈ zLits, vk_R q.1 q.2.1 q.2.2 (gT s q.1 q.2.1) s) :
    zTb (lGz D Ak z0 b (fun q => s.heap[q]?) (gT s) (lY s) L xs) s ∧ zTh (lGz D Ak z0 b (fun q => s.heap[q]?) (gT s) (lY s) L xs) s s.heap := by
  have hA : ∀ a : Nat, a < s.heap.size → ¬ (fun _ : Nat => False) a := fun _ _ h => h
  have hA2 : ∀ a : Nat, a < s.heap.size → ¬ (fun q : Nat => z0 ≤ q) a := fun a h1 h2 => by
    have h3 : z0 ≤ a := h2
    omega
  obtain ⟨tOnes, uOnes, vOnes⟩ := va_Tof (ty := .byte) (tm := .static "java/lang/Integer" "DigitOnes" "[B") (N := 100) (f := fun j => .int (nI (48 + j % 10))) (by decide) (hf _ (List.mem_of_getElem? (i := 10) (by decide +kernel))) (va_eqt (z := 100) (hf _ (List.mem_of_getElem? (i := 11) (by decide +kernel)))) (fun j hj => va_eqt (hf _ (List.mem_of_getElem? (i := 12 + j) ((show ∀ j : Nat, j < 100 → fl9[12 + j]? = some (Cond.eq (.elem (.static "java/lang/Integer" "DigitOnes" "[B") (.int (Int32.ofNat j))) (.int (nI (48 + j % 10)))) by decide +kernel) j hj)))) hA
  obtain ⟨tTens, uTens, vTens⟩ := va_Tof (ty := .byte) (tm := .static "java/lang/Integer" "DigitTens" "[B") (N := 100) (f := fun j => .int (nI (48 + j / 10))) (by decide) (hf _ (List.mem_of_getElem? (i := 113) (by decide +kernel))) (va_eqt (z := 100) (hf _ (List.mem_of_getElem? (i := 114) (by decide +kernel)))) (fun j hj => va_eqt (hf _ (List.mem_of_getElem? (i := 115 + j) ((show ∀ j : Nat, j < 100 → fl9[115 + j]? = some (Cond.eq (.elem (.static "java/lang/Integer" "DigitTens" "[B") (.int (Int32.ofNat j))) (.int (nI (48 + j / 10)))) by decide +kernel) j hj)))) hA
  obtain ⟨scr, x1, x2, x3, x4, x5⟩ := hX
  refine ⟨⟨⟨hD, fun k q hq => ?_⟩, hT, fun c h => h, ⟨scr, x1, x2, x3, x4, x5⟩, by show b < z0; omega, T1_zZ hz0 (va_Zof (hts _ (List.mem_of_getElem? (i := 458) (by decide +kernel))) (hts _ (List.mem_of_getElem? (i := 122) (by decide +kernel))) (va_eqt (hf _ (List.mem_of_getElem? (i := 4) (by decide +kernel)))) hA), ?_, hA4, ⟨va_AO.of (hts _ (List.mem_of_getElem? (i := 197) (by decide +kernel))), va_AO.of (hts _ (List.mem_of_getElem? (i := 435) (by decide +kernel))), List.forall_mem_cons.mpr ⟨va_Nw.of rfl (hts _ (List.mem_of_getElem? (i := 150) (by decide +kernel))), List.forall_mem_cons.mpr ⟨va_Nw.of rfl (hts _ (List.mem_of_getElem? (i := 200) (by decide +kernel))), List.forall_mem_cons.mpr ⟨va_Nw.of rfl (hts _ (List.mem_of_getElem? (i := 215) (by decide +kernel))), List.forall_mem_cons.mpr ⟨va_Nw.of rfl (hts _ (List.mem_of_getElem? (i := 231) (by decide +kernel))), fun _ h => absurd h List.not_mem_nil⟩⟩⟩⟩, va_Nc.of (hf _ (List.mem_of_getElem? (i := 244) (by decide +kernel)))⟩, ⟨tOnes, T1_zZ hz0 (va_Zof (hts _ (List.mem_of_getElem? (i := 1103) (by decide +kernel))) (hts _ (List.mem_of_getElem? (i := 138) (by decide +kernel))) uOnes hA), ?_⟩, tTens, T1_zZ hz0 (va_Zof (hts _ (List.mem_of_getElem? (i := 1105) (by decide +kernel))) (hts _ (List.mem_of_getElem? (i := 138) (by decide +kernel))) uTens hA), ?_⟩, vx_Zqof (hts _ (List.mem_of_getElem? (i := 1175) (by decide +kernel))) (hts _ (List.mem_of_getElem? (i := 130) (by decide +kernel))) (hf _ (List.mem_of_getElem? (i := 215) (by decide +kernel))) hA2, vx_Zqof (hts _ (List.mem_of_getElem? (i := 1177) (by decide +kernel))) (hts _ (List.mem_of_getElem? (i := 130) (by decide +kernel))) (hf _ (List.mem_of_getElem? (i := 216) (by decide +kernel))) hA2, fun w hw a => va_tabs (zFace_ok w hw).2 rfl (hts w (zFace_in w hw))⟩
  · have hk : k < 8 := by
      have h := (List.getElem?_eq_some_iff.mp hq).1
      simpa [zTys] using h
    rw [zTys_at _ hk] at hq
    have e := Option.some.inj hq
    subst e
    exact hAk k hk
  · rcases va_Zqof (C := "jdk/internal/util/Preconditions") (n := "SIOOBE_FORMATTER") (d := "Ljava/util/function/BiFunction;") (hts _ (List.mem_of_getElem? (i := 577) (by decide +kernel))) (hts _ (List.mem_of_getElem? (i := 126) (by decide +kernel))) (hf _ (List.mem_of_getElem? (i := 5) (by decide +kernel))) hA with h | ⟨t, h⟩
    · exact .inl (T1_zZ hz0 h)
    · exact .inr ⟨t, T1_zZ hz0 h⟩
  · obtain ⟨cell, c1, c2, c3, c4, c5, c6, -⟩ := vOnes
    exact ⟨⟨cell, c1, c2, c3, c4, c6⟩, by show tOnes < z0; rw [hz0]; exact (Array.getElem?_eq_some_iff.mp c1).1⟩
  · obtain ⟨cell, c1, c2, c3, c4, c5, c6, -⟩ := vTens
    exact ⟨⟨cell, c1, c2, c3, c4, c6⟩, by show tTens < z0; rw [hz0]; exact (Array.getElem?_eq_some_iff.mp c1).1⟩
/-- a text's cells are not the script -/
theorem lSt.ne {D : va_G} {a v L : Nat} {t : List Nat} {xs : Nat → Int32} (hD : u_Kn s RJ0 TJ0 4 (D.1 0) (D.2 0)) (hX : va_X b L xs s s.heap) (h : lSt D s a v t) : ¬ a = b ∧ ¬ v = b := by
  obtain ⟨⟨c1, a1, a2, a3, a4, a5, a6⟩, c2, b1, b2, b3, ⟨k2, comp2, b4, b4'⟩, b5, b6⟩ := h
  obtain ⟨scr, x1, ⟨-, k, x2, comp, x2'⟩, -⟩ := hX
  refine ⟨fun e => ?_, fun e => ?_⟩
  · subst e
    have e1 : c1 = scr := Option.some.inj (a1.symm.trans x1)
    subst e1
    obtain ⟨-, -, kC, g1, g2⟩ := hD
    rw [a4] at x2
    have e2 : kC = k := Option.some.inj (g1.symm.trans x2)
    subst e2
    rw [g2] at x2'
    cases x2'
  · subst e
    have e1 : c2 = scr := Option.some.inj (b1.symm.trans x1)
    subst e1
    have e2 : k2 = k := Option.some.inj (b4.symm.trans x2)
    subst e2
    rw [b4'] at x2'
    cases x2'
end
