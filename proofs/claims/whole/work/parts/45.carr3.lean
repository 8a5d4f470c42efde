theorem sp_how_congr {w w' : Nat → Int32} {a q : Int32} (h : ∀ k, k < 8 → w' k = w k) : sp_how w' a q = sp_how w a q := by
  unfold sp_how sp_end sp_low sp_high
  rw [h 0 (by omega), h 2 (by omega), h 3 (by omega), h 6 (by omega)]
theorem sp_base_congr {w w' : Nat → Int32} {a : Int32} (h : ∀ k, k < 8 → w' k = w k) : sp_base w' a = sp_base w a := by
  unfold sp_base sp_end sp_low sp_high
  rw [h 2 (by omega), h 3 (by omega), h 4 (by omega), h 6 (by omega)]
theorem RA.cnt {a a' w w' : Nat → Int32} {e : Bool} {s0 : Int32} (h : RA a w e) (ha : ∀ k, k ≠ 10 → a' k = a k) (h13 : a' 10 = w' 13) (hs : e = true → s0 = w' 10) (q : ∀ k, k < 12 → k ≠ 8 → k ≠ 10 → w' k = w k) : RA (zup a' 9 s0) w' e :=
  ⟨fun k hk => by rw [zup_ne _ _ (by omega), ha k (by omega), h.1 k hk, q k (by omega) (by omega) (by omega)], by rw [zup_ne _ _ (by omega), ha 8 (by omega), h.2.1, q 9 (by omega) (by omega) (by omega)], fun he => by rw [zup_self]; exact hs he,
    by rw [zup_ne _ _ (by omega)]; exact h13, by rw [zup_ne _ _ (by omega), ha 11 (by omega)]; exact h.2.2.2.2.1, by rw [zup_ne _ _ (by omega), ha 12 (by omega), h.2.2.2.2.2, q 11 (by omega) (by omega) (by omega)]⟩
theorem letsIn_ne {w : Nat → Int32} {p m : Int32} {N j : Nat} (hN : (w 8).toInt = N) (h1 : j ≠ 8) (h2 : ¬ (sq N 0 ≤ j ∧ j < sq N 3)) : sp_letsIn w p m j = w j := by
  unfold sp_letsIn
  rw [show (w 8).toInt.toNat = N by omega, zup_ne _ _ h1, zup_ne _ _ (by (first | omega | (simp only [sf, sq, sd] at *; omega))), zup_ne _ _ (by (first | omega | (simp only [sf, sq, sd] at *; omega))), zup_ne _ _ (by (first | omega | (simp only [sf, sq, sd] at *; omega)))]
theorem RD.keepF {b c x : Nat → Int32} {L K : Nat} (h2 : K ≤ 24) : RD (rd_b b L K) c x false :=
  ⟨(L + 1) % 24, if K < 24 then K + 1 else 24, by omega, by split <;> omega, by unfold rd_b; rw [zup_ne _ _ (by omega), zup_self], zup_self _ _ _, fun he => absurd he (by decide)⟩
section
variable {l : Launch} {G : zG} {M : zM} {r : Nat} {w : Nat → Int32} {e : Bool}
/-- AN ARRIVAL at the class's router is an arrival in the row -/
theorem C_arr {i n A S T : Nat} {Kf : Int32 → zM → Prop} (hO : OK w n A S T) (hR : Rel M r w e) (hi : i < n) (hA : A < 300000000)
    (h : ∀ M', zFr r M M' → Rel M' r (sp_arr w (!e) i).2 e → Kf (sp_arr w (!e) i).1 M') : zCalI l G Y_X5_arrive 0 0 [vr 15 r, vi (nI i)] M Kf := by
  have hn := hO.nf
  have hq := hO.nq
  have hl := hO.lim
  have hI : (nI i).toInt = i := ti_nI (by omega)
  obtain ⟨rA, rF, rQ, L, K, hL, hK, hb2, hb1, hD⟩ := hR
  have hf := hO.fl i hi
  have q8 : M.1 19 r 1 = w 8 := rQ.1
  have q9 : M.1 15 r 8 = w 9 := rA.2.1
  have rFi := rF i (by omega)
  have g8 : zmI M 17 (6 * r + i) 8 = w (sf i 7) := rFi.1 7 (by omega)
  have g5 : M.1 17 (6 * r + i) 5 = w (sf i 4) := rFi.1 4 (by omega)
  have hg8 : zmI M 17 (6 * r + i) 8 = 0 ∨ zmI M 17 (6 * r + i) 8 = 1 := by rw [g8]; exact hf.tld
  obtain ⟨N, hN⟩ : ∃ N : Nat, (w 8).toInt = N := ⟨_, (Int.toNat_of_nonneg hq.1).symm⟩
  have hNb : (zmI M 19 r 1).toInt ≤ 40 ∧ 0 ≤ (zmI M 19 r 1).toInt := by rw [show zmI M 19 r 1 = w 8 from q8]; omega
  -- the row as the decision is made
  obtain ⟨av, hav⟩ : ∃ av, sp_moved w (w 9) (w 8) = av := ⟨_, rfl⟩
  obtain ⟨w2, hw2⟩ : ∃ w2, sp_a2 w i = w2 := ⟨_, rfl⟩
  have a2ne : ∀ j, j ≠ 9 → j ≠ sf i 18 → w2 j = w j := fun j h1 h2 => by rw [← hw2]; exact sp_a2_ne h1 h2
  have a29 : w2 9 = av := by
    rw [← hw2, ← hav]
    unfold sp_a2 sp_moved
    rw [zup_self, sp_counts_ne (by (first | omega | (simp only [sf, sq, sd] at *; omega))), sp_counts_ne (by (first | omega | (simp only [sf, sq, sd] at *; omega))), sp_counts_ne (by (first | omega | (simp only [sf, sq, sd] at *; omega)))]
  have a218 : w2 (sf i 18) = w (sf i 18) + 1 := by rw [← hw2]; exact sp_a2_18
  have a2lt : ∀ k, k < 8 → w2 k = w k := fun k hk => a2ne k (by omega) (by (first | omega | (simp only [sf, sq, sd] at *; omega)))
  have ehow : sp_how w2 (w2 9) (w2 8) = sp_how w2 av (w 8) := by rw [a29, a2ne 8 (by omega) (by (first | omega | (simp only [sf, sq, sd] at *; omega)))]
  have mm2 : sp_mm w2 := by
    have := hO.mm
    unfold sp_mm at *
    rw [a2lt 2 (by omega), a2lt 3 (by omega)]
    exact this
  have gen2 : w2 6 = 0 ∨ w2 6 = 1 := by rw [a2lt 6 (by omega)]; exact hO.gen
  have top2 : 0 ≤ (w2 4).toInt ∧ (w2 4).toInt ≤ 65536 := by rw [a2lt 4 (by omega)]; exact hO.top
  have hbb := sp_base_bnd (a := av) mm2 top2
  have rA1 : RA (zup (M.1 15 r) 8 av) w2 e := ⟨fun k hk => by rw [zup_ne _ _ (by omega), a2lt k hk]; exact rA.1 k hk, by rw [zup_self, a29], fun he => by rw [zup_ne _ _ (by omega), a2ne 10 (by omega) (by (first | omega | (simp only [sf, sq, sd] at *; omega)))]; exact rA.2.2.1 he, by rw [zup_ne _ _ (by omega), a2ne 13 (by omega) (by (first | omega | (simp only [sf, sq, sd] at *; omega)))]; exact rA.2.2.2.1, by rw [zup_ne _ _ (by omega)]; exact rA.2.2.2.2.1, by rw [zup_ne _ _ (by omega), a2ne 11 (by omega) (by (first | omega | (simp only [sf, sq, sd] at *; omega)))]; exact rA.2.2.2.2.2⟩
  have hD2 : e = true → w2 12 = nI K ∧ ∀ k q : Nat, k < K → q < 8 → zmI M 22 r ((L + 24 - k) % 24 * 8 + q) = w2 (sd (K - 1 - k) q) := fun he => by
    obtain ⟨d1, d2⟩ := hD he
    refine ⟨by rw [a2ne 12 (by omega) (by (first | omega | (simp only [sf, sq, sd] at *; omega)))]; exact d1, fun k q hk hq => ?_⟩
    rw [a2ne _ (by (first | omega | (simp only [sf, sq, sd] at *; omega))) (by (first | omega | (simp only [sf, sq, sd] at *; omega)))]
    exact d2 k q hk hq
  have hD3 : ∀ y : Nat → Int32, (∀ j, j = 12 ∨ (292 ≤ j ∧ j < 484) → y j = w2 j) → e = true → y 12 = nI K ∧ ∀ k q : Nat, k < K → q < 8 → zmI M 22 r ((L + 24 - k) % 24 * 8 + q) = y (sd (K - 1 - k) q) := fun y hy he => by
    obtain ⟨d1, d2⟩ := hD2 he
    refine ⟨by rw [hy 12 (Or.inl rfl)]; exact d1, fun k q hk hq => ?_⟩
    rw [hy _ (Or.inr (by (first | omega | (simp only [sf, sq, sd] at *; omega))))]
    exact d2 k q hk hq
  have t7 : M.1 15 r 7 = w 7 := rA.1 7 (by omega)
  -- what every case shares
  have other : ∀ w' : Nat → Int32, (∀ j, 16 ≤ j → j < 172 → ¬ (sf i 0 ≤ j ∧ j < sf i 26) → w' j = w j) → ∀ j, j < n → j ≠ i → RF (zmI M 17 (6 * r + j)) (zmL M 18 (6 * r + j)) (zmT M (zmN M 17 (6 * r + j) 0)) w' j := fun w' hw j hj hji =>
    (rF j (by omega)).congr (hO.fl j hj).lng.2 fun k hk => hw _ (by (first | omega | (simp only [sf, sq, sd] at *; omega))) (by (first | omega | (simp only [sf, sq, sd] at *; omega))) (by (first | omega | (simp only [sf, sq, sd] at *; omega)))
  have pushed : ∀ (x : Nat → Int32) (m : Int32), (∀ j, j = 7 ∨ j = 8 ∨ (172 ≤ j ∧ j < 292) → x j = w j) → ∀ N' : Nat, (zmI M 19 r 1).toInt = N' → RQ (zup (zmI M 19 r) 1 (zmI M 19 r 1 + 1)) (zup (zup (zup (zmI M 20 r) (3 * N') (nI i)) (3 * N' + 1) (M.1 15 r 7)) (3 * N' + 2) m) (sp_letsIn x (nI i) m) := fun x m hx N' hN' => by
    have hx8 : (x 8).toInt = N' := by rw [hx 8 (by omega), ← q8]; exact hN'
    have hz := (rQ.congr (w' := x) (by omega) (hx 8 (by omega)) fun j h1 h2 => hx j (by omega)).push (p := nI i) (m := m) hx8 (by rw [hx 8 (by omega)] at hx8; omega)
    rw [hx 7 (by omega), ← t7] at hz
    exact hz
  have lt40 : sp_how w2 av (w 8) ≠ 0 → (zmI M 19 r 1).toInt < 40 := fun hc => by
    have h1 := sp_how_0 hc
    rw [a2lt 0 (by omega)] at h1
    have h2 : (w 8).toInt ≠ (w 0).toInt := fun e => h1 (ti_eq.mpr e)
    rw [show zmI M 19 r 1 = w 8 from q8]
    omega
  unfold sp_arr at h
  dsimp only at h
  rw [hw2, ehow] at h
  have h4 : sp_how w2 av (w 8) = 0 ∨ sp_how w2 av (w 8) = 1 ∨ sp_how w2 av (w 8) = 2 ∨ sp_how w2 av (w 8) = 3 := sp_how_4 _ _ _
  obtain ⟨M2, hM2⟩ : ∃ M2, zsIr M 15 r (zup (M.1 15 r) 8 av) = M2 := ⟨_, rfl⟩
  have F2 : zFr r M M2 := by rw [← hM2]; exact (zFr.refl r M).I (inR15 r)
  have k15 : M2.1 15 r = zup (M.1 15 r) 8 av := by rw [← hM2]; exact zsI1 _ _ _ _
  have ko : ∀ s, s ≠ 15 → M2.1 s = M.1 s := fun s hs => by rw [← hM2]; funext q; exact zsIo _ _ _ _ _ _ (by omega)
  have kL : M2.2 = M.2 := by rw [← hM2]; rfl
  have k7 : M2.1 15 r 7 = M.1 15 r 7 := by rw [k15, zup_ne _ _ (by omega)]
  have k8 : M2.1 15 r 8 = av := by rw [k15, zup_self]
  -- the cases without a draw
  have noDraw : ∀ way : Int32, way ≠ 3 → (way = 1 ∨ way = 0 ∨ way = 2) →
      zAt l G Y_X5_arrive (zEI G Y_X5_arrive Kf) 126 [(0, vr 15 r), (1, vi (nI i)), (2, vi way), (3, vi 0), (4, vi (if way = 1 then 0 else 65536)), (5, vi (-1)), (6, vi (if way = 1 then 0 else 2))] [vi (if way = 1 then -1 else 0), vr 15 r] M2 0 0 →
      zAt l G Y_X5_arrive (zEI G Y_X5_arrive Kf) 48 [(0, vr 15 r), (1, vi (nI i)), (2, vi way)] [] M2 0 0 := by
    intro way c3 hw hk
    refine zb_X5_arrive_48 ⟨fun _ => zb_X5_arrive_63 (C_base (w := w2) (e := e) (by (simp only [zmI, zmL, zmN, zmT, zmI_sI, zmI_sL, zmI_sN, zsI2, zsL2, zmL_sL, zmL_sI, zmN_sI, zmN_sL, zmT_sI, zmT_sL, Nat.reduceEqDiff, false_and, and_false, and_self, if_false, if_true]); rw [k15]; exact rA1) mm2 gen2 (C_chance ⟨fun _ => zb_X5_arrive_92 (C_out hI (by omega) ?_), fun c => absurd c c3⟩)), fun c => absurd c c3⟩
    rw [if_neg c3]
    by_cases c1 : way = 1
    · rw [if_pos (Or.inl c1), if_pos c1]
      rw [if_pos c1, if_pos c1, if_pos c1] at hk
      exact ⟨fun c => absurd c1 c, fun _ => hk⟩
    · rw [if_neg (by rintro (g | g); exact c1 g; exact c3 g.1), if_neg (fun g => c3 g.1), if_neg c1]
      rw [if_neg c1, if_neg c1, if_neg c1] at hk
      exact ⟨fun _ => ⟨fun _ => hk, fun c => absurd c (by decide)⟩, fun c => absurd c c1⟩
  -- a packet dropped
  have dropEnd : ∀ (M3 : zM) (way counted ch dr s0 : Int32) (a : Nat) (y : Nat → Int32), zFr r M M3 → (∀ s, s ≠ 15 → M3.1 s = M.1 s) → M3.2 = M.2 → M3.1 15 r 7 = M.1 15 r 7 → M3.1 15 r 8 = av →
      ((way = 0 ∧ a = 4) ∨ (way = 2 ∧ a = 3) ∨ (way = 3 ∧ a = 2)) → (∀ j, j ≠ 10 → j ≠ 13 → y j = w2 j) → RA (zup (M3.1 15 r) 9 s0) y e →
      (∀ M', zFr r M M' → Rel M' r (sp_drops (sp_keeps y (nI i) way counted ch dr 2) i a) e → Kf 2 M') →
      zAt l G Y_X5_arrive (zEI G Y_X5_arrive Kf) 126 [(0, vr 15 r), (1, vi (nI i)), (2, vi way), (3, vi counted), (4, vi ch), (5, vi dr), (6, vi 2)] [vi s0, vr 15 r] M3 0 0 := by
    intro M3 way counted ch dr s0 a y F3 o3 L3 t3 v3 ha2 yne hRA h
    have xne : ∀ j, j ≠ 12 → ¬ 292 ≤ j → sp_keeps y (nI i) way counted ch dr 2 j = y j := fun j h1 h2 => sp_keeps_ne h1 h2
    obtain ⟨x, hx⟩ : ∃ x, sp_keeps y (nI i) way counted ch dr 2 = x := ⟨_, rfl⟩
    rw [hx] at h xne
    have dne : ∀ j, j ≠ sf i (18 + a) → j ≠ sf i 7 → sp_drops x i a j = x j := fun j h1 h2 => sp_drops_ne h1 h2
    refine C_arr_end (n := n) (a := a) (L := L) (K := K) (w' := sp_drops x i a) hn.2 hi F3 (o3 17 (by omega)) (by rw [L3]) (o3 19 (by omega)) (o3 20 (by omega)) (o3 21 (by omega)) (o3 22 (by omega)) (by rw [L3]) hNb (fun c => absurd rfl c)
      (by rcases ha2 with g | g | g; exact Or.inr (Or.inr (Or.inl ⟨rfl, g.1, g.2⟩)); exact Or.inr (Or.inr (Or.inr (Or.inl ⟨rfl, g.1, g.2⟩))); exact Or.inr (Or.inr (Or.inr (Or.inr ⟨rfl, g.1, g.2⟩)))) hg8 hL hK hb2 hb1 ?_ ?_ ?_ ?_ ?_ ?_ ?_ h
    · rw [dne 11 (by (first | omega | (simp only [sf, sq, sd] at *; omega))) (by (first | omega | (simp only [sf, sq, sd] at *; omega))), xne 11 (by omega) (by omega), yne 11 (by omega) (by omega), a2ne 11 (by omega) (by (first | omega | (simp only [sf, sq, sd] at *; omega)))]
      exact hn.1
    · exact hRA.congr fun k h1 h2 h3 => by rw [dne k (by (first | omega | (simp only [sf, sq, sd] at *; omega))) (by (first | omega | (simp only [sf, sq, sd] at *; omega))), xne k (by omega) (by omega)]
    · exact other _ fun j h1 h2 h3 => by rw [dne j (by (first | omega | (simp only [sf, sq, sd] at *; omega))) (by (first | omega | (simp only [sf, sq, sd] at *; omega))), xne j (by omega) (by omega), yne j (by omega) (by omega), a2ne j (by omega) (by (first | omega | (simp only [sf, sq, sd] at *; omega)))]
    · refine rFi.count hf hA (by omega) (by constructor <;> intro g; exact absurd g (by decide); omega) (fun k h1 h2 h3 h4 => ?_) ?_ fun _ => ⟨?_, ?_⟩
      · rw [dne _ (by (first | omega | (simp only [sf, sq, sd] at *; omega))) (by have := h4 (by omega); (first | omega | (simp only [sf, sq, sd] at *; omega))), xne _ (by (first | omega | (simp only [sf, sq, sd] at *; omega))) (by (first | omega | (simp only [sf, sq, sd] at *; omega))), yne _ (by (first | omega | (simp only [sf, sq, sd] at *; omega))) (by (first | omega | (simp only [sf, sq, sd] at *; omega))), a2ne _ (by (first | omega | (simp only [sf, sq, sd] at *; omega))) (by (first | omega | (simp only [sf, sq, sd] at *; omega)))]
      · rw [dne _ (by (first | omega | (simp only [sf, sq, sd] at *; omega))) (by (first | omega | (simp only [sf, sq, sd] at *; omega))), xne _ (by (first | omega | (simp only [sf, sq, sd] at *; omega))) (by (first | omega | (simp only [sf, sq, sd] at *; omega))), yne _ (by (first | omega | (simp only [sf, sq, sd] at *; omega))) (by (first | omega | (simp only [sf, sq, sd] at *; omega))), a218]
      · unfold sp_drops
        rw [zup_ne _ _ (by (first | omega | (simp only [sf, sq, sd] at *; omega))), sp_counts_eq, xne _ (by (first | omega | (simp only [sf, sq, sd] at *; omega))) (by (first | omega | (simp only [sf, sq, sd] at *; omega))), yne _ (by (first | omega | (simp only [sf, sq, sd] at *; omega))) (by (first | omega | (simp only [sf, sq, sd] at *; omega))), a2ne _ (by (first | omega | (simp only [sf, sq, sd] at *; omega))) (by (first | omega | (simp only [sf, sq, sd] at *; omega)))]
      · exact zup_self _ _ _
    · exact fun c => absurd rfl c
    · exact fun _ => rQ.congr (by omega) (by rw [dne 8 (by (first | omega | (simp only [sf, sq, sd] at *; omega))) (by (first | omega | (simp only [sf, sq, sd] at *; omega))), xne 8 (by omega) (by omega), yne 8 (by omega) (by omega), a2ne 8 (by omega) (by (first | omega | (simp only [sf, sq, sd] at *; omega)))]) fun j h1 h2 => by rw [dne j (by (first | omega | (simp only [sf, sq, sd] at *; omega))) (by (first | omega | (simp only [sf, sq, sd] at *; omega))), xne j (by omega) (by omega), yne j (by omega) (by omega), a2ne j (by omega) (by (first | omega | (simp only [sf, sq, sd] at *; omega)))]
    · have hz := RD.keep (b := zmI M 21 r) (c := zmI M 22 r) (t := M3.1 15 r 7) (av := M3.1 15 r 8) (f := nI i) (how := way) (count := counted) (chance := ch) (draw := dr) (came := 2) hL hK (hD3 y fun j hj => yne j (by omega) (by omega)) (fun _ => by rw [t3, t7, yne 7 (by omega) (by omega), a2lt 7 (by omega)]) (fun _ => by rw [v3, yne 9 (by omega) (by omega), a29])
      rw [hx] at hz
      exact hz.congr (dne 12 (by (first | omega | (simp only [sf, sq, sd] at *; omega))) (by (first | omega | (simp only [sf, sq, sd] at *; omega)))) fun j h1 h2 => dne j (by (first | omega | (simp only [sf, sq, sd] at *; omega))) (by (first | omega | (simp only [sf, sq, sd] at *; omega)))
  -- a drop by the limits
  have dropped : ∀ way : Int32, (way = 0 ∨ way = 2) → (h : ∀ M', zFr r M M' → Rel M' r (sp_drops (sp_keeps (zup w2 10 0) (nI i) way 0 65536 (-1) 2) i (if way = 0 then 4 else 3)) e → Kf 2 M') →
      zAt l G Y_X5_arrive (zEI G Y_X5_arrive Kf) 48 [(0, vr 15 r), (1, vi (nI i)), (2, vi way)] [] M2 0 0 := by
    intro way hw h
    have c1 : way ≠ 1 := by rcases hw with g | g <;> rw [g] <;> decide
    have c3 : way ≠ 3 := by rcases hw with g | g <;> rw [g] <;> decide
    refine noDraw way c3 (by rcases hw with g | g; exact Or.inr (Or.inl g); exact Or.inr (Or.inr g)) ?_
    rw [if_neg c1, if_neg c1, if_neg c1]
    refine dropEnd M2 way 0 65536 (-1) 0 _ (zup w2 10 0) F2 ko kL k7 k8 ?_ (fun j h1 _ => zup_ne _ _ h1) ?_ h
    · rcases hw with g | g
      · rw [if_pos g]
        exact Or.inl ⟨g, rfl⟩
      · rw [if_neg (by rw [g]; decide)]
        exact Or.inr (Or.inl ⟨g, rfl⟩)
    · rw [k15]
      exact rA1.cnt (fun k _ => rfl) (by rw [zup_ne _ _ (by omega)]; exact rA1.2.2.2.1) (fun _ => by rw [zup_self]) fun k h1 h2 h3 => zup_ne _ _ (by omega)
  -- a packet let in
  have letin : ∀ (M3 : zM) (way out counted ch dr s0 m : Int32) (a : Nat) (x : Nat → Int32), zFr r M M3 → (∀ s, s ≠ 15 → M3.1 s = M.1 s) → M3.2 = M.2 → M3.1 15 r 7 = M.1 15 r 7 → sp_how w2 av (w 8) ≠ 0 → ((out = 0 ∧ a = 0 ∧ m = 0) ∨ (out = 1 ∧ a = 1 ∧ m = 1)) →
      (∀ j, j = 7 ∨ j = 8 ∨ j = 11 ∨ (172 ≤ j ∧ j < 292) → x j = w j) → (∀ j, 16 ≤ j → j < 172 → ¬ (sf i 0 ≤ j ∧ j < sf i 26) → x j = w j) →
      (∀ k, k < 26 → k ≠ 18 → k ≠ 18 + a → (a ≠ 0 → k ≠ 7) → x (sf i k) = w (sf i k)) → x (sf i 18) = w (sf i 18) + 1 → (a ≠ 0 → x (sf i (18 + a)) = w (sf i (18 + a)) + 1 ∧ x (sf i 7) = 1) →
      RA (zup (M3.1 15 r) 9 s0) x e → RD (rd_b (zmI M 21 r) L K) (rd_c (zmI M 22 r) ((L + 1) % 24) (zmI M3 15 r 7) (nI i) way (zmI M3 15 r 8) counted ch dr out) x e →
      (∀ M', zFr r M M' → Rel M' r (sp_letsIn x (nI i) m) e → Kf out M') →
      zAt l G Y_X5_arrive (zEI G Y_X5_arrive Kf) 126 [(0, vr 15 r), (1, vi (nI i)), (2, vi way), (3, vi counted), (4, vi ch), (5, vi dr), (6, vi out)] [vi s0, vr 15 r] M3 0 0 := by
    intro M3 way out counted ch dr s0 m a x F3 o3 L3 t3 hc hoa hx hxo hxf hx18 hxa hRA hRD h
    have ho2 : out ≠ 2 := by rcases hoa with g | g <;> rw [g.1] <;> decide
    have hoi : out = 0 ↔ a = 0 := by
      rcases hoa with g | g
      · exact ⟨fun _ => g.2.1, fun _ => g.1⟩
      · rw [g.1, g.2.1]; exact ⟨fun q => absurd q (by decide), fun q => absurd q (by decide)⟩
    have ha1 : a ≤ 1 := by rcases hoa with g | g <;> omega
    have hmm : (if out = 1 then (1 : Int32) else 0) = m := by
      rcases hoa with g | g
      · rw [g.1, g.2.2]; rfl
      · rw [g.1, g.2.2]; rfl
    have hx8 : (x 8).toInt = N := by rw [hx 8 (by omega)]; exact hN
    have hN40 : N < 40 := by
      have h9 := lt40 hc
      rw [show zmI M 19 r 1 = w 8 from q8, hN] at h9
      omega
    have lne : ∀ j, j ≠ 8 → ¬ (172 ≤ j ∧ j < 292) → sp_letsIn x (nI i) m j = x j := fun j h1 h2 => letsIn_ne hx8 h1 (by (first | omega | (simp only [sf, sq, sd] at *; omega)))
    refine C_arr_end (n := n) (a := a) (L := L) (K := K) (w' := sp_letsIn x (nI i) m) hn.2 hi F3 (o3 17 (by omega)) (by rw [L3]) (o3 19 (by omega)) (o3 20 (by omega)) (o3 21 (by omega)) (o3 22 (by omega)) (by rw [L3]) hNb (fun _ => lt40 hc)
      (by rcases hoa with g | g; exact Or.inl ⟨g.1, g.2.1⟩; exact Or.inr (Or.inl ⟨g.1, g.2.1⟩)) hg8 hL hK hb2 hb1 ?_ ?_ ?_ ?_ ?_ ?_ ?_ h
    · rw [lne 11 (by omega) (by omega), hx 11 (by omega)]
      exact hn.1
    · exact hRA.congr fun k h1 h2 h3 => lne k h2 (by omega)
    · exact other _ fun j h1 h2 h3 => by rw [lne j (by omega) (by omega), hxo j h1 h2 h3]
    · exact rFi.count hf hA (by omega) hoi (fun k h1 h2 h3 h4 => by rw [lne _ (by (first | omega | (simp only [sf, sq, sd] at *; omega))) (by (first | omega | (simp only [sf, sq, sd] at *; omega)))]; exact hxf k h1 h2 h3 h4) (by rw [lne _ (by (first | omega | (simp only [sf, sq, sd] at *; omega))) (by (first | omega | (simp only [sf, sq, sd] at *; omega)))]; exact hx18) fun h9 => ⟨by rw [lne _ (by (first | omega | (simp only [sf, sq, sd] at *; omega))) (by (first | omega | (simp only [sf, sq, sd] at *; omega)))]; exact (hxa h9).1, by rw [lne _ (by (first | omega | (simp only [sf, sq, sd] at *; omega))) (by (first | omega | (simp only [sf, sq, sd] at *; omega)))]; exact (hxa h9).2⟩
    · intro _ N' hN'
      rw [hmm, show zmI M3 15 r 7 = M.1 15 r 7 from t3]
      exact pushed x m (fun j hj => hx j (by omega)) N' hN'
    · exact fun c => absurd c ho2
    · exact hRD.congr (lne 12 (by omega) (by omega)) fun j h1 h2 => lne j (by omega) (by omega)
  -- how it begins
  refine zm_X5_arrive (C_avg rA ?_)
  rw [show sp_moved w (zmI M 15 r 8) (zmI M 19 r 1) = av by rw [show zmI M 15 r 8 = w 9 from q9, show zmI M 19 r 1 = w 8 from q8, hav]]
  rw [show zsI M 15 r 8 av = M2 from hM2, show zmI M2 19 r 1 = w 8 by rw [show zmI M2 19 r 1 = M.1 19 r 1 by rw [← ko 19 (by omega)]]; exact q8, show zmI M2 15 r 8 = av from k8]
  refine C_way (w := w2) (e := e) (by rw [show zmI M2 15 r = _ from k15]; exact rA1) gen2 (by rw [a2lt 0 (by omega)]; omega) ?_
  have k11 : zmI M2 15 r 11 = if e = true then 1 else 0 := by rw [show zmI M2 15 r = _ from k15]; exact rA1.2.2.2.2.1
  rw [k11]
  have plainIn : e = false → sp_how w2 av (w 8) ≠ 0 → zAt l G Y_X5_arrive (zEI G Y_X5_arrive Kf) 48 [(0, vr 15 r), (1, vi (nI i)), (2, vi 1)] [] M2 0 0 := fun he hc => by
    rw [if_pos ⟨by rw [he]; rfl, hc⟩] at h
    refine noDraw 1 (by decide) (Or.inl rfl) ?_
    simp only [if_true]
    refine letin M2 1 0 0 0 (-1) (-1) 0 0 w2 F2 ko kL k7 hc (Or.inl ⟨rfl, rfl, rfl⟩) (fun j hj => a2ne j (by omega) (by (first | omega | (simp only [sf, sq, sd] at *; omega)))) (fun j h1 h2 h3 => a2ne j (by omega) (by (first | omega | (simp only [sf, sq, sd] at *; omega)))) (fun k h1 h2 h3 h4 => a2ne _ (by (first | omega | (simp only [sf, sq, sd] at *; omega))) (by (first | omega | (simp only [sf, sq, sd] at *; omega)))) a218 (fun c => absurd rfl c) ?_ ?_ h
    · rw [k15]
      exact rA1.cnt (fun k _ => rfl) rA1.2.2.2.1 (fun he2 => absurd (he.symm.trans he2) (by decide)) fun k _ _ _ => rfl
    · rw [he]
      exact RD.keepF hK
  have belowIn : e = true → sp_how w2 av (w 8) = 1 → zAt l G Y_X5_arrive (zEI G Y_X5_arrive Kf) 48 [(0, vr 15 r), (1, vi (nI i)), (2, vi 1)] [] M2 0 0 := fun he hc => by
    have hpl : (!e) ≠ true := by rw [he]; decide
    rw [if_neg (fun g => hpl g.1), if_neg (by rw [hc]; decide), if_pos hc] at h
    refine noDraw 1 (by decide) (Or.inl rfl) ?_
    simp only [if_true]
    have xne : ∀ j, j ≠ 10 → j ≠ 12 → ¬ 292 ≤ j → sp_keeps (zup w2 10 (-1)) (nI i) 1 0 0 (-1) 0 j = w2 j := fun j h0 h1 h2 => by rw [sp_keeps_ne h1 h2, zup_ne _ _ h0]
    refine letin M2 1 0 0 0 (-1) (-1) 0 0 (sp_keeps (zup w2 10 (-1)) (nI i) 1 0 0 (-1) 0) F2 ko kL k7 (by rw [hc]; decide) (Or.inl ⟨rfl, rfl, rfl⟩) ?_ ?_ ?_ ?_ (fun c => absurd rfl c) ?_ ?_ h
    · exact fun j hj => by rw [xne j (by omega) (by omega) (by omega)]; exact a2ne j (by omega) (by (first | omega | (simp only [sf, sq, sd] at *; omega)))
    · exact fun j h1 h2 h3 => by rw [xne j (by omega) (by omega) (by omega)]; exact a2ne j (by omega) (by (first | omega | (simp only [sf, sq, sd] at *; omega)))
    · exact fun k h1 h2 h3 h4 => by rw [xne _ (by (first | omega | (simp only [sf, sq, sd] at *; omega))) (by (first | omega | (simp only [sf, sq, sd] at *; omega))) (by (first | omega | (simp only [sf, sq, sd] at *; omega)))]; exact a2ne _ (by (first | omega | (simp only [sf, sq, sd] at *; omega))) (by (first | omega | (simp only [sf, sq, sd] at *; omega)))
    · rw [xne _ (by (first | omega | (simp only [sf, sq, sd] at *; omega))) (by (first | omega | (simp only [sf, sq, sd] at *; omega))) (by (first | omega | (simp only [sf, sq, sd] at *; omega)))]; exact a218
    · rw [k15]
      refine rA1.cnt (fun k _ => rfl) ?_ (fun _ => ?_) fun k h1 h2 h3 => xne k h3 (by omega) (by omega)
      · rw [xne 13 (by omega) (by omega) (by omega)]
        exact rA1.2.2.2.1
      · rw [sp_keeps_ne (by omega) (by omega), zup_self]
    · exact RD.keep (b := zmI M 21 r) (c := zmI M 22 r) (t := M2.1 15 r 7) (av := M2.1 15 r 8) (f := nI i) (how := 1) (count := 0) (chance := 0) (draw := -1) (came := 0) hL hK (hD3 _ fun j hj => zup_ne _ _ (by omega)) (fun _ => by rw [k7, t7, zup_ne _ _ (by omega), a2lt 7 (by omega)]) (fun _ => by rw [k8, zup_ne _ _ (by omega), a29])
  have between : e = true → sp_how w2 av (w 8) = 3 → zAt l G Y_X5_arrive (zEI G Y_X5_arrive Kf) 48 [(0, vr 15 r), (1, vi (nI i)), (2, vi 3)] [] M2 0 0 := fun he hc => by
    have hpl : (!e) ≠ true := by rw [he]; decide
    rw [if_neg (fun g => hpl g.1), if_pos hc] at h
    obtain ⟨cnt, hcnt⟩ : ∃ cnt, w2 10 + 1 = cnt := ⟨_, rfl⟩
    obtain ⟨ch, hch⟩ : ∃ ch, sp_chance (sp_base w2 av) cnt = ch := ⟨_, rfl⟩
    obtain ⟨nx, hnx⟩ : ∃ nx, sp_next (w2 13) = nx := ⟨_, rfl⟩
    obtain ⟨dr, hdr⟩ : ∃ dr, sp_drawn nx = dr := ⟨_, rfl⟩
    obtain ⟨w4, hw4⟩ : ∃ w4, zup (zup w2 10 cnt) 13 nx = w4 := ⟨_, rfl⟩
    have w4ne : ∀ j, j ≠ 10 → j ≠ 13 → w4 j = w2 j := fun j h1 h2 => by rw [← hw4, zup_ne _ _ h2, zup_ne _ _ h1]
    have ebt : sp_bt w2 i = (if dr < ch then (if w (sf i 4) = 1 then 1 else 2) else 0, sp_keeps (if dr < ch then zup w4 10 0 else w4) (nI i) 3 cnt ch dr (if dr < ch then (if w (sf i 4) = 1 then 1 else 2) else 0)) := by
      unfold sp_bt sp_draw
      dsimp only
      rw [hcnt, zup_self, show zup w2 10 cnt 9 = av by rw [zup_ne _ _ (by omega), a29], sp_base_congr (w := w2) (w' := zup w2 10 cnt) (fun k hk => zup_ne _ _ (by omega)), hch, show zup w2 10 cnt 13 = w2 13 from zup_ne _ _ (by omega), hnx, hdr, hw4, show w4 (sf i 4) = w (sf i 4) by rw [w4ne _ (by (first | omega | (simp only [sf, sq, sd] at *; omega))) (by (first | omega | (simp only [sf, sq, sd] at *; omega))), a2ne _ (by (first | omega | (simp only [sf, sq, sd] at *; omega))) (by (first | omega | (simp only [sf, sq, sd] at *; omega)))]]
    rw [ebt] at h
    have k9 : zmI M2 15 r 9 + 1 = cnt := by
      rw [show zmI M2 15 r = _ from k15, ← hcnt, rA1.2.2.1 he]
    have k13 : zmI M2 15 r 10 = w2 13 := by
      rw [show zmI M2 15 r = _ from k15]
      exact rA1.2.2.2.1
    obtain ⟨M3, hM3⟩ : ∃ M3, zsIr M2 15 r (zup (M2.1 15 r) 10 nx) = M3 := ⟨_, rfl⟩
    have F3 : zFr r M M3 := by rw [← hM3]; exact F2.I (inR15 r)
    have j15 : M3.1 15 r = zup (zup (M.1 15 r) 8 av) 10 nx := by rw [← hM3, zsI1, k15]
    have jo : ∀ s, s ≠ 15 → M3.1 s = M.1 s := fun s hs => by rw [← hM3, ← ko s hs]; funext q; exact zsIo _ _ _ _ _ _ (by omega)
    have jL : M3.2 = M.2 := by rw [← hM3]; exact kL
    have j7 : M3.1 15 r 7 = M.1 15 r 7 := by rw [j15, zup_ne _ _ (by omega), zup_ne _ _ (by omega)]
    have j8 : M3.1 15 r 8 = av := by rw [j15, zup_ne _ _ (by omega), zup_self]
    have rA3 : ∀ (s0 : Int32) (x : Nat → Int32), s0 = x 10 → x 13 = nx → (∀ k, k < 12 → k ≠ 8 → k ≠ 10 → x k = w2 k) → RA (zup (M3.1 15 r) 9 s0) x e := fun s0 x h1 h2 h3 => by
      rw [j15]
      exact rA1.cnt (fun k hk => zup_ne _ _ hk) (by rw [zup_self, h2]) (fun _ => h1) h3
    refine zb_X5_arrive_48 ⟨fun c => absurd rfl c, fun _ => zb_X5_arrive_63 (C_base (w := w2) (e := e) (by rw [show zmI M2 15 r = _ from k15]; exact rA1) mm2 gen2 (C_chance ⟨fun c => absurd rfl c, fun _ => C_draw (zb_X5_arrive_92 (C_out hI (by omega) ?_))⟩))⟩
    rw [k9, k13, hnx, hdr, show zmI M2 15 r 8 = av from k8, show zsIr M2 15 r (zup (zmI M2 15 r) 10 nx) = M3 from hM3, t3264 (by omega), hch, if_pos rfl]
    have g5' : zmI M3 17 (6 * r + i) 5 = w (sf i 4) := by rw [show zmI M3 17 = M.1 17 from jo 17 (by omega)]; exact g5
    rw [g5']
    rcases Classical.em (dr < ch) with hd | hd
    · rw [if_neg (by rintro (g | g); exact absurd g (by decide); exact g.2 hd)]
      rw [if_pos hd, if_pos hd] at h
      rcases hf.mrk with hm | hm
      · -- dropped
        have hm' : w (sf i 4) = 0 := hm
        rw [if_neg (fun g => g.2 hm')]
        rw [if_neg (show ¬ w (sf i 4) = 1 by rw [hm']; decide), if_pos rfl] at h
        refine ⟨fun _ => ⟨fun _ => ?_, fun c => absurd c (by decide)⟩, fun c => absurd c (by decide)⟩
        refine dropEnd M3 3 cnt ch dr 0 2 (zup w4 10 0) F3 jo jL j7 j8 (Or.inr (Or.inr ⟨rfl, rfl⟩)) (fun j h1 h2 => by rw [zup_ne _ _ h1, w4ne j h1 h2]) (rA3 0 _ (by rw [zup_self]) (by rw [zup_ne _ _ (by omega), ← hw4, zup_self]) fun k h1 h2 h3 => by rw [zup_ne _ _ h3, w4ne k h3 (by omega)]) h
      · -- marked
        have hm' : w (sf i 4) = 1 := hm
        rw [if_pos ⟨rfl, by rw [hm']; decide⟩]
        rw [if_pos hm', if_neg (show ¬ ((1 : Int32) = 2) by decide), if_pos rfl] at h
        refine ⟨fun _ => ⟨fun _ => ?_, fun c => absurd c (by decide)⟩, fun c => absurd c (by decide)⟩
        obtain ⟨y, hy⟩ : ∃ y, zup w4 10 0 = y := ⟨_, rfl⟩
        rw [hy] at h
        have yne : ∀ j, j ≠ 10 → j ≠ 13 → y j = w2 j := fun j h1 h2 => by rw [← hy, zup_ne _ _ h1, w4ne j h1 h2]
        have xne : ∀ j, j ≠ 12 → ¬ 292 ≤ j → sp_keeps y (nI i) 3 cnt ch dr 1 j = y j := fun j h1 h2 => sp_keeps_ne h1 h2
        have dne : ∀ j, j ≠ sf i 19 → j ≠ sf i 7 → sp_drops (sp_keeps y (nI i) 3 cnt ch dr 1) i 1 j = sp_keeps y (nI i) 3 cnt ch dr 1 j := fun j h1 h2 => sp_drops_ne (a := 1) h1 h2
        refine letin M3 3 1 cnt ch dr 0 1 1 (sp_drops (sp_keeps y (nI i) 3 cnt ch dr 1) i 1) F3 jo jL j7 (by rw [hc]; decide) (Or.inr ⟨rfl, rfl, rfl⟩) ?_ ?_ ?_ ?_ (fun _ => ⟨?_, zup_self _ _ _⟩) ?_ ?_ h
        · exact fun j hj => by rw [dne j (by (first | omega | (simp only [sf, sq, sd] at *; omega))) (by (first | omega | (simp only [sf, sq, sd] at *; omega))), xne j (by omega) (by omega), yne j (by omega) (by omega)]; exact a2ne j (by omega) (by (first | omega | (simp only [sf, sq, sd] at *; omega)))
        · exact fun j h1 h2 h3 => by rw [dne j (by (first | omega | (simp only [sf, sq, sd] at *; omega))) (by (first | omega | (simp only [sf, sq, sd] at *; omega))), xne j (by omega) (by omega), yne j (by omega) (by omega)]; exact a2ne j (by omega) (by (first | omega | (simp only [sf, sq, sd] at *; omega)))
        · exact fun k h1 h2 h3 h4 => by rw [dne _ (by (first | omega | (simp only [sf, sq, sd] at *; omega))) (by have := h4 (by omega); (first | omega | (simp only [sf, sq, sd] at *; omega))), xne _ (by (first | omega | (simp only [sf, sq, sd] at *; omega))) (by (first | omega | (simp only [sf, sq, sd] at *; omega))), yne _ (by (first | omega | (simp only [sf, sq, sd] at *; omega))) (by (first | omega | (simp only [sf, sq, sd] at *; omega)))]; exact a2ne _ (by (first | omega | (simp only [sf, sq, sd] at *; omega))) (by (first | omega | (simp only [sf, sq, sd] at *; omega)))
        · rw [dne _ (by (first | omega | (simp only [sf, sq, sd] at *; omega))) (by (first | omega | (simp only [sf, sq, sd] at *; omega))), xne _ (by (first | omega | (simp only [sf, sq, sd] at *; omega))) (by (first | omega | (simp only [sf, sq, sd] at *; omega))), yne _ (by (first | omega | (simp only [sf, sq, sd] at *; omega))) (by (first | omega | (simp only [sf, sq, sd] at *; omega)))]; exact a218
        · unfold sp_drops
          rw [zup_ne _ _ (by (first | omega | (simp only [sf, sq, sd] at *; omega))), sp_counts_eq, xne _ (by (first | omega | (simp only [sf, sq, sd] at *; omega))) (by (first | omega | (simp only [sf, sq, sd] at *; omega))), yne _ (by (first | omega | (simp only [sf, sq, sd] at *; omega))) (by (first | omega | (simp only [sf, sq, sd] at *; omega))), a2ne _ (by (first | omega | (simp only [sf, sq, sd] at *; omega))) (by (first | omega | (simp only [sf, sq, sd] at *; omega)))]
        · exact rA3 0 _ (by rw [dne _ (by (first | omega | (simp only [sf, sq, sd] at *; omega))) (by (first | omega | (simp only [sf, sq, sd] at *; omega))), xne _ (by (first | omega | (simp only [sf, sq, sd] at *; omega))) (by (first | omega | (simp only [sf, sq, sd] at *; omega))), ← hy, zup_self]) (by rw [dne _ (by (first | omega | (simp only [sf, sq, sd] at *; omega))) (by (first | omega | (simp only [sf, sq, sd] at *; omega))), xne _ (by (first | omega | (simp only [sf, sq, sd] at *; omega))) (by (first | omega | (simp only [sf, sq, sd] at *; omega))), ← hy, zup_ne _ _ (by omega), ← hw4, zup_self]) fun k h1 h2 h3 => by rw [dne _ (by (first | omega | (simp only [sf, sq, sd] at *; omega))) (by (first | omega | (simp only [sf, sq, sd] at *; omega))), xne _ (by (first | omega | (simp only [sf, sq, sd] at *; omega))) (by (first | omega | (simp only [sf, sq, sd] at *; omega))), yne _ (by (first | omega | (simp only [sf, sq, sd] at *; omega))) (by (first | omega | (simp only [sf, sq, sd] at *; omega)))]
        · have hz := RD.keep (b := zmI M 21 r) (c := zmI M 22 r) (t := M3.1 15 r 7) (av := M3.1 15 r 8) (f := nI i) (how := 3) (count := cnt) (chance := ch) (draw := dr) (came := 1) hL hK (hD3 y fun j hj => yne j (by omega) (by omega)) (fun _ => by rw [j7, t7, yne 7 (by omega) (by omega), a2lt 7 (by omega)]) (fun _ => by rw [j8, yne 9 (by omega) (by omega), a29])
          exact hz.congr (dne 12 (by (first | omega | (simp only [sf, sq, sd] at *; omega))) (by (first | omega | (simp only [sf, sq, sd] at *; omega)))) fun j h1 h2 => dne j (by (first | omega | (simp only [sf, sq, sd] at *; omega))) (by (first | omega | (simp only [sf, sq, sd] at *; omega)))
    · rw [if_pos (Or.inr ⟨rfl, hd⟩)]
      rw [if_neg hd, if_neg hd, if_neg (show ¬ ((0 : Int32) = 2) by decide), if_neg (show ¬ ((0 : Int32) = 1) by decide)] at h
      refine ⟨fun _ => ⟨fun c => absurd rfl c, fun _ => ?_⟩, fun c => absurd c (by decide)⟩
      have xne : ∀ j, j ≠ 12 → ¬ 292 ≤ j → sp_keeps w4 (nI i) 3 cnt ch dr 0 j = w4 j := fun j h1 h2 => sp_keeps_ne h1 h2
      refine letin M3 3 0 cnt ch dr cnt 0 0 (sp_keeps w4 (nI i) 3 cnt ch dr 0) F3 jo jL j7 (by rw [hc]; decide) (Or.inl ⟨rfl, rfl, rfl⟩) ?_ ?_ ?_ ?_ (fun c => absurd rfl c) ?_ ?_ h
      · exact fun j hj => by rw [xne j (by omega) (by omega), w4ne j (by omega) (by omega)]; exact a2ne j (by omega) (by (first | omega | (simp only [sf, sq, sd] at *; omega)))
      · exact fun j h1 h2 h3 => by rw [xne j (by omega) (by omega), w4ne j (by omega) (by omega)]; exact a2ne j (by omega) (by (first | omega | (simp only [sf, sq, sd] at *; omega)))
      · exact fun k h1 h2 h3 h4 => by rw [xne _ (by (first | omega | (simp only [sf, sq, sd] at *; omega))) (by (first | omega | (simp only [sf, sq, sd] at *; omega))), w4ne _ (by (first | omega | (simp only [sf, sq, sd] at *; omega))) (by (first | omega | (simp only [sf, sq, sd] at *; omega)))]; exact a2ne _ (by (first | omega | (simp only [sf, sq, sd] at *; omega))) (by (first | omega | (simp only [sf, sq, sd] at *; omega)))
      · rw [xne _ (by (first | omega | (simp only [sf, sq, sd] at *; omega))) (by (first | omega | (simp only [sf, sq, sd] at *; omega))), w4ne _ (by (first | omega | (simp only [sf, sq, sd] at *; omega))) (by (first | omega | (simp only [sf, sq, sd] at *; omega)))]; exact a218
      · exact rA3 cnt _ (by rw [xne _ (by (first | omega | (simp only [sf, sq, sd] at *; omega))) (by (first | omega | (simp only [sf, sq, sd] at *; omega))), ← hw4, zup_ne _ _ (by omega), zup_self]) (by rw [xne _ (by (first | omega | (simp only [sf, sq, sd] at *; omega))) (by (first | omega | (simp only [sf, sq, sd] at *; omega))), ← hw4, zup_self]) fun k h1 h2 h3 => by rw [xne _ (by (first | omega | (simp only [sf, sq, sd] at *; omega))) (by (first | omega | (simp only [sf, sq, sd] at *; omega))), w4ne _ (by (first | omega | (simp only [sf, sq, sd] at *; omega))) (by (first | omega | (simp only [sf, sq, sd] at *; omega)))]
      · exact RD.keep (b := zmI M 21 r) (c := zmI M 22 r) (t := M3.1 15 r 7) (av := M3.1 15 r 8) (f := nI i) (how := 3) (count := cnt) (chance := ch) (draw := dr) (came := 0) hL hK (hD3 w4 fun j hj => w4ne j (by omega) (by omega)) (fun _ => by rw [j7, t7, w4ne 7 (by omega) (by omega), a2lt 7 (by omega)]) (fun _ => by rw [j8, w4ne 9 (by omega) (by omega), a29])
  have goDrop : (e = true ∨ sp_how w2 av (w 8) = 0) → (sp_how w2 av (w 8) = 0 ∨ sp_how w2 av (w 8) = 2) → zAt l G Y_X5_arrive (zEI G Y_X5_arrive Kf) 48 [(0, vr 15 r), (1, vi (nI i)), (2, vi (sp_how w2 av (w 8)))] [] M2 0 0 := fun he hc => by
    have hpl : ¬ ((!e) = true ∧ sp_how w2 av (w 8) ≠ 0) := by
      rintro ⟨g1, g2⟩
      rcases he with g | g
      · rw [g] at g1
        exact absurd g1 (by decide)
      · exact g2 g
    rw [if_neg hpl, if_neg (by rcases hc with g | g <;> rw [g] <;> decide), if_neg (by rcases hc with g | g <;> rw [g] <;> decide)] at h
    exact dropped _ hc h
  refine ⟨fun c => ?_, fun c => ⟨fun c0 => ?_, fun c0 => ?_⟩⟩
  · have he : e = true := Classical.byContradiction fun g => c (if_neg g)
    rcases h4 with g | g | g | g
    · exact goDrop (Or.inl he) (Or.inl g)
    · rw [g]; exact belowIn he g
    · exact goDrop (Or.inl he) (Or.inr g)
    · rw [g]; exact between he g
  · exact goDrop (Or.inr c0) (Or.inl c0)
  · have he : e = false := by
      cases e
      · rfl
      · exact absurd c (by decide)
    exact plainIn he c0
end
