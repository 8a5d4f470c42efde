/-! printed by wip/whole/h_*.py -/
theorem hfl_X4_X4_25 : hFL RX4 25 8 4 := ⟨RX4, TX4, 7, rfl, by decide, zw_161, zws_X4⟩
theorem zw_704 : Cond.arrayClass .char ∈ zAll := zin 704 (by decide +kernel) (by decide +kernel)

section HW3
variable {l : Launch} {G : zG} {M : zM}
/-- a new text on the heap -/
theorem zRep.newT {H H2 : Heap} {a v : Nat} {t : List Nat} (hR : zRep G M H) (h52 : ga G 52 0 < gz G) (z : H.size ≤ H2.size) (o : ∀ q : Nat, q < H.size → H2[q]? = H[q]?) (ha : H.size ≤ a) (hv : H.size ≤ v ∨ ∃ (a0 : Nat) (t0 : List Nat), zmT M a0 = some t0 ∧ zStrAt G a0 v t0 H) (hS : zStrAt G a v t H2) : zmT M a = none ∧ zRep G (zsT M (fun q => if q = a then some t else zmT M q)) H2 := by
  have lt := hR.lt h52
  obtain ⟨-, g1, g2, g3, -, -⟩ := hR.grow z o
  obtain ⟨hG, r1, r2, r3, ⟨v0, ⟨ml, f, ⟨cl, b1, b1'⟩, b2, b3⟩, r5, r6, r7⟩, r8⟩ := hR
  have hno : ∀ q tt, zmT M q = some tt → q < H.size := fun q tt hq => by
    obtain ⟨v2, ⟨⟨c1, d1, -⟩, -⟩, -⟩ := r5 q tt hq
    exact (Array.getElem?_eq_some_iff.mp d1).1
  have hnone : zmT M a = none := by
    cases h : zmT M a with
    | none => rfl
    | some tt => have := hno a tt h; omega
  have fa : zfree G a := fun s i hi e => by
    have := lt s i hi
    omega
  have hb2 : v0 < H.size := (Array.getElem?_eq_some_iff.mp b2).1
  have hch : ∀ q n g, zmC M = some (q, n, g) → q < H.size := fun q n g h => (Array.getElem?_eq_some_iff.mp (r6 q n g h).1).1
  have nxa : ¬ zx M v0 a := fun h => by
    rcases h with h | ⟨n, g, h⟩
    · omega
    · have := hch a n g h; omega
  have fv : zfree G v ∧ ¬ zx M v0 v := by
    rcases hv with h | ⟨a0, t0, h, hs⟩
    · refine ⟨fun s i hi e => by have := lt s i hi; omega, fun h2 => ?_⟩
      rcases h2 with h2 | ⟨n, g, h2⟩
      · omega
      · have := hch v n g h2; omega
    · obtain ⟨v2, hs2, -, q2, -, q4⟩ := r5 a0 t0 h
      have e : v = v2 := by
        obtain ⟨⟨c1, d1, -, -, -, d2, -⟩, -⟩ := hs
        obtain ⟨⟨c2, d3, -, -, -, d4, -⟩, -⟩ := hs2
        have e1 : c1 = c2 := by injection (d1.symm.trans d3)
        rw [e1, d4] at d2
        injection d2 with d2
        injection d2 with d2
        exact d2.symm
      rw [e]
      exact ⟨q2, q4⟩
  refine ⟨hnone, hG, g1, g2, fun s i hi => (g3 s i hi).same rfl rfl rfl rfl, ⟨v0, ⟨ml, f, ⟨cl, (o _ (Array.getElem?_eq_some_iff.mp b1).1).trans b1, b1'⟩, (o _ hb2).trans b2, b3⟩, fun q tt hq => ?_, fun q n g h => ?_, r7⟩, fun q hq => ?_⟩
  · by_cases c : q = a
    · have e : tt = t := by
        have h2 : (if q = a then some t else zmT M q) = some tt := hq
        rw [if_pos c] at h2
        injection h2 with h2
        exact h2.symm
      rw [c, e]
      exact ⟨v, hS, fa, fv.1, nxa, fv.2⟩
    · have h2 : (if q = a then some t else zmT M q) = some tt := hq
      rw [if_neg c] at h2
      obtain ⟨v2, ⟨⟨c1, d1, d1'⟩, ⟨c2, d2, d2'⟩, d3⟩, w1, w2, w3, w4⟩ := r5 q tt h2
      exact ⟨v2, ⟨⟨c1, (o _ (Array.getElem?_eq_some_iff.mp d1).1).trans d1, d1'⟩, ⟨c2, (o _ (Array.getElem?_eq_some_iff.mp d2).1).trans d2, d2'⟩, d3⟩, w1, w2, w3, w4⟩
  · obtain ⟨d1, d2, d3⟩ := r6 q n g h
    exact ⟨(o _ (Array.getElem?_eq_some_iff.mp d1).1).trans d1, d2, d3⟩
  · have h2 := r8 q hq
    have h3 := hno _ _ h2
    show (if gl G q.1 q.2.1 = a then some t else zmT M (gl G q.1 q.2.1)) = _
    rw [if_neg (by omega)]
    exact h2
theorem zStrAt_of {H : Heap} {a v n : Nat} {g : Nat → Int32} {t : List Nat} (ho : hO G H a 0 (vp_V [.ref v, .int 0, .int 0, .int 0])) (hv : hA G H v 4 n (.inl g)) (hg4 : gy G (gA G 4)) (hl : t.length = n) (hg : ∀ i, i < n → g i = sb_b (t.getD i 0)) (hc : ∀ c ∈ t, c < 256) (hn : n ≤ 65536) : zStrAt G a v t H := by
  obtain ⟨cell, q1, q2, q3, q4, q5, q6⟩ := hv.b hg4
  subst hl
  refine ⟨?_, ⟨cell, q1, q2, q3, q4, q5, fun j hj => by rw [q6 j hj, hg j hj]⟩, hc, hn⟩
  obtain ⟨r, h1, c2, p1, p2, p3, p4⟩ := ho
  have er : r = (RJ0, TJ0, 4) := Option.some.inj (h1.symm.trans rfl)
  subst er
  exact ⟨c2, p1, (by rw [p3]; exact (fun e => (by cases e))), (by rw [p3]; rfl), p2, p4 0 (by decide), p4 1 (by decide)⟩
end HW3
section HW4
variable {l : Launch} {G : zG}
theorem wordC : WordC l G := by
  intro b F s er ea M Kf hT hk hb hsm hbig
  have hF := hT.hF
  have hn := hk.n
  have hs3 : zmI M 1 0 3 = nI s := hk.start
  have he4 : zmI M 1 0 4 = nI (rd_e b F s) := hk.fin
  have hlen : zmI M 1 0 1 = nI F := hT.len
  have hbb := hT.byt
  generalize rd_e b F s = e0 at he4 hn hsm hbig
  refine zCal_h2 fun H hR h52 => ?_
  have ho : hO G H (ga G 1 0) 8 (zfv G M 1 0) := hR.2.2.2.1 1 0 (by decide)
  have hbA : hA G H (ga G 2 0) 0 500 (.inl (zmI M 2 0)) := hR.2.2.2.1 2 0 (by decide)
  have l1 : ga G 1 0 < H.size := hR.lt h52 1 0 (by decide)
  have l2 : ga G 2 0 < H.size := hR.lt h52 2 0 (by decide)
  have hlit : zmT M (gl G RX4 83) = some [] := hR.2.2.2.2.2 (RX4, 83, "") (by decide)
  have hlit7 : zmT M (gl G RJ0 7) = some [] := hR.2.2.2.2.2 (RJ0, 7, "") (by decide)
  have hend : ∀ (H1 H2 : Heap) (g2 : Nat → Int32), e0 - s ≤ 8 → H1.size = H.size + 1 → (∀ q, q < H.size → H1[q]? = H[q]?) → H2.size = H1.size → (∀ q, q ≠ H.size → H2[q]? = H1[q]?) → hA G H2 H.size 3 (e0 - s) (.inl g2) → (∀ i, i < e0 - s → g2 i = b (s + i)) → gy G (gA G 4) → hAt l G Y_X4_word (hEM G Y_X4_word 3 20 (fun r H' => ∃ (rz : Option zV) (M' : zM), r = rz.map (tr G) ∧ (∀ v ∈ rz, zok v) ∧ (zKA Kf) rz M' ∧ zRep G M' H')) 55 [(2, Value.ref H.size)] [] H2 1 (e0 - s) := by
    intro H1 H2 g2 h8 z1 o1 z2 o2 h2 a2 hg4
    have oH : ∀ q, q < H.size → H2[q]? = H[q]? := fun q hq => (o2 q (by omega)).trans (o1 q hq)
    have htx : ∀ c ∈ rd_tx b s (e0 - s), c < 256 := fun c hc => by
      unfold rd_tx at hc
      obtain ⟨i, hi, rfl⟩ := List.mem_map.mp hc
      have := List.mem_range.mp hi
      have := hb (s + i) (by omega)
      omega
    have hbi : ∀ i, i < e0 - s → b (s + i) = nI ((rd_tx b s (e0 - s)).getD i 0) := fun i hi => by
      rw [rd_tx_get hi]
      have := hb (s + i) (by omega)
      exact nI_ofT (by omega)
    rcases Nat.eq_zero_or_pos (e0 - s) with h0 | h0
    · obtain ⟨v0, hS, -⟩ := hR.2.2.2.2.1.choose_spec.2.1 _ _ hlit7
      obtain ⟨⟨q1, q2, q3⟩, q4⟩ := zStr_h hS
      have hll : gl G RJ0 7 < H.size := by
        obtain ⟨c1, d1, -⟩ := hS.1
        exact (Array.getElem?_eq_some_iff.mp d1).1
      refine hX_word55z h0 (hFkept q1 (oH _ hll)) (hFkept q2 (oH _ hll)) (by omega) h2 fun H3 z3 o3 b3 => ?_
      have oH3 : ∀ q, q < H.size → H3[q]? = H[q]? := fun q hq => (o3 q (by omega)).trans (oH q hq)
      have hS3 : zStrAt G H2.size v0 (rd_tx b s (e0 - s)) H3 := by
        have e : rd_tx b s (e0 - s) = [] := by rw [h0]; rfl
        rw [e]
        obtain ⟨-, ⟨c2, d2, d2'⟩, d3⟩ := hS
        refine ⟨?_, ⟨c2, (oH3 _ (Array.getElem?_eq_some_iff.mp d2).1).trans d2, d2'⟩, d3⟩
        obtain ⟨r, h1, c3, p1, p2, p3, p4⟩ := b3
        have er : r = (RJ0, TJ0, 4) := Option.some.inj (h1.symm.trans rfl)
        subst er
        exact ⟨c3, p1, (by rw [p3]; exact (fun e => (by cases e))), (by rw [p3]; rfl), p2, p4 0 (by decide), p4 1 (by decide)⟩
      obtain ⟨n1, n2⟩ := hR.newT h52 (by omega) oH3 (by omega) (.inr ⟨_, _, hlit7, hS⟩) hS3
      exact ⟨some (va H2.size), _, rfl, (fun v hv => by cases hv; trivial), ⟨_, rfl, hsm h8 _ n1⟩, n2⟩
    · refine hX_word55 h0 h8 (fun i hi => ?_) h2 fun H3 g3 z3 o3 h3 a3 b3 => ?_
      · rw [a2 i hi, ti_lt, show (255 : Int32).toInt = 255 from rfl]
        have := hb (s + i) (by omega)
        omega
      have oH3 : ∀ q, q < H.size → H3[q]? = H[q]? := fun q hq => (o3 q (by omega)).trans (oH q hq)
      have hS3 : zStrAt G H2.size (H2.size + 1) (rd_tx b s (e0 - s)) H3 := zStrAt_of b3 h3 hg4 (rd_tx_len _ _ _) (fun i hi => by
        rw [a3 i hi, a2 i hi, hbi i hi]
        rfl) htx (by omega)
      obtain ⟨n1, n2⟩ := hR.newT h52 (by omega) oH3 (by omega) (.inl (by omega)) hS3
      exact ⟨some (va H2.size), _, rfl, (fun v hv => by cases hv; trivial), ⟨_, rfl, hsm h8 _ n1⟩, n2⟩
  refine hCal_of (by decide) rfl (zle rfl) rfl ?_
  refine H_aload_n dX4_word_0 rfl 0 rfl ?_
  refine H_getO hfl_X4_X4_25 ho dX4_word_1 ?_
  rw [show zfv G M 1 0 4 = Value.int (zmI M 1 0 4) from rfl]
  rw [he4]
  refine H_aload_n dX4_word_4 rfl 0 rfl ?_
  refine H_getO hfl_X4_X4_31 ho dX4_word_5 ?_
  rw [show zfv G M 1 0 3 = Value.int (zmI M 1 0 3) from rfl]
  rw [hs3]
  refine H_isub dX4_word_8 ?_
  rw [show (nI e0 - nI s : Int32) = nI (e0 - s) from pk_sub (by omega)]
  refine H_istore_n (lv2 := [(1, Value.int (nI (e0 - s))), (0, Value.ref (ga G 1 0))]) dX4_word_9 rfl (by decide) rfl ?_
  refine H_iload_n dX4_word_10 rfl 0 rfl ?_
  refine H_if_lt (tgt := 20) dX4_word_11 rfl (fun q9 => absurd q9 (nI_pos (by omega))) (fun _ => ?_)
  refine H_iload_n dX4_word_14 rfl 0 rfl ?_
  refine H_bipush (v := 8) rfl dX4_word_15 ?_
  refine H_icmp_le (tgt := 23) dX4_word_17 rfl (fun q => ?_) (fun q => ?_)
  · refine H_iload_n dX4_word_23 rfl 0 rfl ?_
    have h8 : e0 - s ≤ 8 := by rw [ti_le, ti_nI (by omega), show (8 : Int32).toInt = 8 from rfl] at q; omega
    refine H_bs (fun hB0 hg4 => ?_)
    refine H_newa (at_ := .char) (t := 3) (n := e0 - s) (z := .inl (fun _ => 0)) (by decide) rfl zw_704 (ti_nI (by omega)) (fun _ => rfl) (by show (e0 - s) * 2 ≤ _; omega) (by show 0 + 1 ≤ 3; omega) (by show 0 + (e0 - s) ≤ 20; omega) dX4_word_24 (fun H1 z1 o1 n1 => ?_)
    refine H_astore_n (lv2 := [(2, Value.ref H.size), (1, Value.int (nI (e0 - s))), (0, Value.ref (ga G 1 0))]) dX4_word_26 rfl (by decide) rfl ?_
    refine H_iconst (v := 0) rfl dX4_word_27 ?_
    refine H_istore_n (lv2 := [(3, Value.int 0), (2, Value.ref H.size), (1, Value.int (nI (e0 - s))), (0, Value.ref (ga G 1 0))]) dX4_word_28 rfl (by decide) rfl ?_
    refine H_pick [3, 2, 1, 0] rfl ?_
    rw [Nat.zero_add, Nat.zero_add]
    refine hX_wordl (M := M) (u := H.size) (n := e0 - s) (a := s) (F := F) (b := b) (c := 1) (k := e0 - s) h8 hB0.fr (by omega) (by omega) hlen hF hs3 (by omega) hbb hb (by omega) (by omega) (e0 - s) 0 H1 _ (by omega) (ho.kept (o1 _ l1)) ((o1 _ l2).trans hbA) n1 (fun i hi => absurd hi (by omega)) (fun H2 g2 z2 o2 h2 a2 => ?_)
    exact hend H1 H2 g2 h8 z1 o1 z2 o2 h2 a2 hg4
  · refine H_ldcS (idx := 83) (tx := "") (by decide) dX4_word_20 ?_
    exact H_aret rfl (Or.inl ⟨_, rfl⟩) dX4_word_22 (by omega) (by omega) ⟨some (va (gl G RX4 83)), M, rfl, (fun v hv => by cases hv; trivial), ⟨_, rfl, hbig (by rw [ti_le, ti_nI (by omega), show (8 : Int32).toInt = 8 from rfl] at q; omega) _ hlit⟩, hR⟩
end HW4
