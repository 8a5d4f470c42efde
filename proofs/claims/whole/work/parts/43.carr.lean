/-! A PACKET ARRIVES AT THE CLASS'S ROUTER -/
theorem RQ.push {b c w : Nat → Int32} {p m : Int32} {N : Nat} (h : RQ b c w) (hN : (w 8).toInt = N) (hb : N < 100) : RQ (zup b 1 (b 1 + 1)) (zup (zup (zup c (3 * N) p) (3 * N + 1) (w 7)) (3 * N + 2) m) (sp_letsIn w p m) := by
  have hN2 : (w 8).toInt.toNat = N := by omega
  unfold sp_letsIn
  rw [hN2]
  refine ⟨?_, fun j hj => ?_⟩
  · rw [zup_self, zup_self, h.1]
  · rw [zup_self, ti_add (by rw [hN, ti_1]; omega), hN, ti_1] at hj
    rw [zup_ne _ _ (show 172 + j ≠ 8 by omega)]
    unfold zup
    by_cases c2 : j = 3 * N + 2
    · rw [if_pos c2, if_pos (show 172 + j = sq N 2 by (first | omega | (simp only [sf, sq, sd] at *; omega)))]
    · rw [if_neg c2, if_neg (show ¬ 172 + j = sq N 2 by (first | omega | (simp only [sf, sq, sd] at *; omega)))]
      by_cases c1 : j = 3 * N + 1
      · rw [if_pos c1, if_pos (show 172 + j = sq N 1 by (first | omega | (simp only [sf, sq, sd] at *; omega)))]
      · rw [if_neg c1, if_neg (show ¬ 172 + j = sq N 1 by (first | omega | (simp only [sf, sq, sd] at *; omega)))]
        by_cases c0 : j = 3 * N
        · rw [if_pos c0, if_pos (show 172 + j = sq N 0 by (first | omega | (simp only [sf, sq, sd] at *; omega)))]
        · rw [if_neg c0, if_neg (show ¬ 172 + j = sq N 0 by (first | omega | (simp only [sf, sq, sd] at *; omega)))]
          exact h.2 j (by omega)
def ka (t f how av count chance draw came : Int32) (q : Nat) : Int32 := match q with
  | 0 => t
  | 1 => f
  | 2 => how
  | 3 => av
  | 4 => count
  | 5 => chance
  | 6 => draw
  | _ => came
theorem keep1_at {y : Nat → Int32} {n q : Nat} {f how count chance draw came : Int32} (hq : q < 8) : sp_keep1 y n f how count chance draw came (sd n q) = ka (y 7) f how (y 9) count chance draw came q := by
  unfold sp_keep1
  rw [zup_ne _ _ (by (first | omega | (simp only [sf, sq, sd] at *; omega)))]
  rcases (show q = 0 ∨ q = 1 ∨ q = 2 ∨ q = 3 ∨ q = 4 ∨ q = 5 ∨ q = 6 ∨ q = 7 by omega) with rfl | rfl | rfl | rfl | rfl | rfl | rfl | rfl
  · rw [zup_ne _ _ (by (first | omega | (simp only [sf, sq, sd] at *; omega))), zup_ne _ _ (by (first | omega | (simp only [sf, sq, sd] at *; omega))), zup_ne _ _ (by (first | omega | (simp only [sf, sq, sd] at *; omega))), zup_ne _ _ (by (first | omega | (simp only [sf, sq, sd] at *; omega))), zup_ne _ _ (by (first | omega | (simp only [sf, sq, sd] at *; omega))), zup_ne _ _ (by (first | omega | (simp only [sf, sq, sd] at *; omega))), zup_ne _ _ (by (first | omega | (simp only [sf, sq, sd] at *; omega))), zup_self]; rfl
  · rw [zup_ne _ _ (by (first | omega | (simp only [sf, sq, sd] at *; omega))), zup_ne _ _ (by (first | omega | (simp only [sf, sq, sd] at *; omega))), zup_ne _ _ (by (first | omega | (simp only [sf, sq, sd] at *; omega))), zup_ne _ _ (by (first | omega | (simp only [sf, sq, sd] at *; omega))), zup_ne _ _ (by (first | omega | (simp only [sf, sq, sd] at *; omega))), zup_ne _ _ (by (first | omega | (simp only [sf, sq, sd] at *; omega))), zup_self]; rfl
  · rw [zup_ne _ _ (by (first | omega | (simp only [sf, sq, sd] at *; omega))), zup_ne _ _ (by (first | omega | (simp only [sf, sq, sd] at *; omega))), zup_ne _ _ (by (first | omega | (simp only [sf, sq, sd] at *; omega))), zup_ne _ _ (by (first | omega | (simp only [sf, sq, sd] at *; omega))), zup_ne _ _ (by (first | omega | (simp only [sf, sq, sd] at *; omega))), zup_self]; rfl
  · rw [zup_ne _ _ (by (first | omega | (simp only [sf, sq, sd] at *; omega))), zup_ne _ _ (by (first | omega | (simp only [sf, sq, sd] at *; omega))), zup_ne _ _ (by (first | omega | (simp only [sf, sq, sd] at *; omega))), zup_ne _ _ (by (first | omega | (simp only [sf, sq, sd] at *; omega))), zup_self]; rfl
  · rw [zup_ne _ _ (by (first | omega | (simp only [sf, sq, sd] at *; omega))), zup_ne _ _ (by (first | omega | (simp only [sf, sq, sd] at *; omega))), zup_ne _ _ (by (first | omega | (simp only [sf, sq, sd] at *; omega))), zup_self]; rfl
  · rw [zup_ne _ _ (by (first | omega | (simp only [sf, sq, sd] at *; omega))), zup_ne _ _ (by (first | omega | (simp only [sf, sq, sd] at *; omega))), zup_self]; rfl
  · rw [zup_ne _ _ (by (first | omega | (simp only [sf, sq, sd] at *; omega))), zup_self]; rfl
  · rw [zup_self]; rfl
theorem keep1_lt {y : Nat → Int32} {n j q : Nat} {f how count chance draw came : Int32} (hq : q < 8) (hj : j < n) : sp_keep1 y n f how count chance draw came (sd j q) = y (sd j q) := by
  unfold sp_keep1
  rw [zup_ne _ _ (by (first | omega | (simp only [sf, sq, sd] at *; omega))), zup_ne _ _ (by (first | omega | (simp only [sf, sq, sd] at *; omega))), zup_ne _ _ (by (first | omega | (simp only [sf, sq, sd] at *; omega))), zup_ne _ _ (by (first | omega | (simp only [sf, sq, sd] at *; omega))), zup_ne _ _ (by (first | omega | (simp only [sf, sq, sd] at *; omega))), zup_ne _ _ (by (first | omega | (simp only [sf, sq, sd] at *; omega))), zup_ne _ _ (by (first | omega | (simp only [sf, sq, sd] at *; omega))), zup_ne _ _ (by (first | omega | (simp only [sf, sq, sd] at *; omega))), zup_ne _ _ (by (first | omega | (simp only [sf, sq, sd] at *; omega)))]
def rd_b (b : Nat → Int32) (L K : Nat) : Nat → Int32 := zup (zup b 2 (nI ((L + 1) % 24))) 1 (nI (if K < 24 then K + 1 else 24))
def rd_c (c : Nat → Int32) (L : Nat) (t f way av p1 p2 p3 p4 : Int32) : Nat → Int32 :=
  zup (zup (zup (zup (zup (zup (zup (zup c (L * 8) t) (L * 8 + 1) f) (L * 8 + 2) way) (L * 8 + 3) av) (L * 8 + 4) p1) (L * 8 + 5) p2) (L * 8 + 6) p3) (L * 8 + 7) p4
theorem rd_c_at {c : Nat → Int32} {L q : Nat} {t f way av p1 p2 p3 p4 : Int32} (hq : q < 8) : rd_c c L t f way av p1 p2 p3 p4 (L * 8 + q) = ka t f way av p1 p2 p3 p4 q := by
  unfold rd_c
  rcases (show q = 0 ∨ q = 1 ∨ q = 2 ∨ q = 3 ∨ q = 4 ∨ q = 5 ∨ q = 6 ∨ q = 7 by omega) with rfl | rfl | rfl | rfl | rfl | rfl | rfl | rfl
  · rw [zup_ne _ _ (by (first | omega | (simp only [sf, sq, sd] at *; omega))), zup_ne _ _ (by (first | omega | (simp only [sf, sq, sd] at *; omega))), zup_ne _ _ (by (first | omega | (simp only [sf, sq, sd] at *; omega))), zup_ne _ _ (by (first | omega | (simp only [sf, sq, sd] at *; omega))), zup_ne _ _ (by (first | omega | (simp only [sf, sq, sd] at *; omega))), zup_ne _ _ (by (first | omega | (simp only [sf, sq, sd] at *; omega))), zup_ne _ _ (by (first | omega | (simp only [sf, sq, sd] at *; omega)))]; exact zup_self _ _ _
  · rw [zup_ne _ _ (by (first | omega | (simp only [sf, sq, sd] at *; omega))), zup_ne _ _ (by (first | omega | (simp only [sf, sq, sd] at *; omega))), zup_ne _ _ (by (first | omega | (simp only [sf, sq, sd] at *; omega))), zup_ne _ _ (by (first | omega | (simp only [sf, sq, sd] at *; omega))), zup_ne _ _ (by (first | omega | (simp only [sf, sq, sd] at *; omega))), zup_ne _ _ (by (first | omega | (simp only [sf, sq, sd] at *; omega))), zup_self]; rfl
  · rw [zup_ne _ _ (by (first | omega | (simp only [sf, sq, sd] at *; omega))), zup_ne _ _ (by (first | omega | (simp only [sf, sq, sd] at *; omega))), zup_ne _ _ (by (first | omega | (simp only [sf, sq, sd] at *; omega))), zup_ne _ _ (by (first | omega | (simp only [sf, sq, sd] at *; omega))), zup_ne _ _ (by (first | omega | (simp only [sf, sq, sd] at *; omega))), zup_self]; rfl
  · rw [zup_ne _ _ (by (first | omega | (simp only [sf, sq, sd] at *; omega))), zup_ne _ _ (by (first | omega | (simp only [sf, sq, sd] at *; omega))), zup_ne _ _ (by (first | omega | (simp only [sf, sq, sd] at *; omega))), zup_ne _ _ (by (first | omega | (simp only [sf, sq, sd] at *; omega))), zup_self]; rfl
  · rw [zup_ne _ _ (by (first | omega | (simp only [sf, sq, sd] at *; omega))), zup_ne _ _ (by (first | omega | (simp only [sf, sq, sd] at *; omega))), zup_ne _ _ (by (first | omega | (simp only [sf, sq, sd] at *; omega))), zup_self]; rfl
  · rw [zup_ne _ _ (by (first | omega | (simp only [sf, sq, sd] at *; omega))), zup_ne _ _ (by (first | omega | (simp only [sf, sq, sd] at *; omega))), zup_self]; rfl
  · rw [zup_ne _ _ (by (first | omega | (simp only [sf, sq, sd] at *; omega))), zup_self]; rfl
  · rw [zup_self]; rfl
theorem rd_c_ne {c : Nat → Int32} {L m q : Nat} {t f way av p1 p2 p3 p4 : Int32} (hq : q < 8) (hm : m ≠ L) : rd_c c L t f way av p1 p2 p3 p4 (m * 8 + q) = c (m * 8 + q) := by
  unfold rd_c
  rw [zup_ne _ _ (by omega), zup_ne _ _ (by omega), zup_ne _ _ (by omega), zup_ne _ _ (by omega), zup_ne _ _ (by omega), zup_ne _ _ (by omega), zup_ne _ _ (by omega), zup_ne _ _ (by omega)]
theorem RD.keep {b c y : Nat → Int32} {e : Bool} {L K : Nat} {f how count chance draw came t av : Int32} (h1 : L < 24) (h2 : K ≤ 24) (h5 : e = true → y 12 = nI K ∧ ∀ k q : Nat, k < K → q < 8 → c ((L + 24 - k) % 24 * 8 + q) = y (sd (K - 1 - k) q)) (ht : e = true → t = y 7) (ha : e = true → av = y 9) :
    RD (rd_b b L K) (rd_c c ((L + 1) % 24) t f how av count chance draw came) (sp_keeps y f how count chance draw came) e := by
  refine ⟨(L + 1) % 24, if K < 24 then K + 1 else 24, by omega, by split <;> omega, ?_, zup_self _ _ _, fun he => ?_⟩
  · unfold rd_b
    rw [zup_ne _ _ (by omega), zup_self]
  · obtain ⟨g1, g2⟩ := h5 he
    rw [ht he, ha he]
    have hK : (y 12).toInt = K := by rw [g1, ti_nI (by omega)]
    unfold sp_keeps
    by_cases c24 : K = 24
    · have y12 : y 12 = 24 := by rw [g1, c24]; rfl
      rw [if_pos y12, if_neg (by omega)]
      refine ⟨?_, fun k q hk hq => ?_⟩
      · unfold sp_keep1
        rw [zup_self, zup_self, y12]
        rfl
      · by_cases k0 : k = 0
        · rw [k0, show ((L + 1) % 24 + 24 - 0) % 24 = (L + 1) % 24 by omega, rd_c_at hq, show (24 - 1 - 0) = 23 from rfl, keep1_at hq, zup_ne _ _ (by omega), zup_ne _ _ (by omega)]
          rfl
        · rw [rd_c_ne hq (by omega), show ((L + 1) % 24 + 24 - k) % 24 = (L + 24 - (k - 1)) % 24 by omega, g2 (k - 1) q (by omega) hq, keep1_lt hq (by omega), zup_ne _ _ (by (first | omega | (simp only [sf, sq, sd] at *; omega)))]
          exact ((if_pos (by (first | omega | (simp only [sf, sq, sd] at *; omega)))).trans (congrArg y (by (first | omega | (simp only [sf, sq, sd] at *; omega))))).symm
    · have y12 : ¬ y 12 = 24 := fun e9 => c24 (by rw [e9] at hK; have : (24 : Int32).toInt = 24 := rfl; omega)
      rw [if_neg y12, if_pos (by omega), show (y 12).toInt.toNat = K by omega]
      refine ⟨?_, fun k q hk hq => ?_⟩
      · unfold sp_keep1
        rw [zup_self, g1]
        exact nI_ofT (by rw [ti_add (by rw [ti_nI (by omega), ti_1]; omega), ti_nI (by omega), ti_1]; omega)
      · by_cases k0 : k = 0
        · rw [k0, show ((L + 1) % 24 + 24 - 0) % 24 = (L + 1) % 24 by omega, rd_c_at hq, show (K + 1 - 1 - 0) = K by omega, keep1_at hq]
        · rw [rd_c_ne hq (by omega), show ((L + 1) % 24 + 24 - k) % 24 = (L + 24 - (k - 1)) % 24 by omega, g2 (k - 1) q (by omega) hq, keep1_lt hq (by omega)]
          exact congrArg y (by (first | omega | (simp only [sf, sq, sd] at *; omega)))
theorem t64_1 {x : Int32} (h : 0 ≤ x.toInt ∧ x.toInt < 2147483647) : x.toInt64 + 1 = (x + 1).toInt64 := t64_add (b := 1) (by rw [ti_1]; omega)
theorem RF.count {g : Nat → Int32} {L : Nat → Int64} {t : Option (List Nat)} {w w' : Nat → Int32} {i a A S : Nat} {out : Int32} (h : RF g L t w i) (hf : FOK (fun k => w (sf i k)) A S) (hA : A < 300000000) (ha : a ≤ 4)
    (ho : out = 0 ↔ a = 0) (e : ∀ k, k < 26 → k ≠ 18 → k ≠ 18 + a → (a ≠ 0 → k ≠ 7) → w' (sf i k) = w (sf i k)) (e0 : w' (sf i 18) = w (sf i 18) + 1) (ea : a ≠ 0 → w' (sf i (18 + a)) = w (sf i (18 + a)) + 1 ∧ w' (sf i 7) = 1) :
    RF (if out = 0 then g else zup g 8 1) (ct_L L a) t w' i := by
  have q0 := hf.a0
  have qr := hf.ar
  have l0 : L 0 + 1 = (w (sf i 18) + 1).toInt64 := by rw [show L 0 = (w (sf i 18)).toInt64 from h.2.1 0 (by omega), t64_1 (by omega)]
  refine ⟨fun k hk => ?_, fun k hk => ?_, h.2.2.congr hf.lng.2 fun k h1 h2 => e k (by omega) (by omega) (by omega) (by omega)⟩
  · by_cases o : out = 0
    · rw [if_pos o, h.1 k hk, e k (by omega) (by omega) (by omega) (fun a9 => absurd (ho.mp o) a9)]
    · rw [if_neg o]
      have a9 : a ≠ 0 := fun e9 => o (ho.mpr e9)
      by_cases k7 : k = 7
      · rw [k7, (ea a9).2]
        exact zup_self _ _ _
      · rw [zup_ne _ _ (by omega), h.1 k hk, e k (by omega) (by omega) (by omega) (fun _ => k7)]
  · unfold ct_L
    by_cases a0 : a = 0
    · rw [if_pos a0]
      by_cases k0 : k = 0
      · rw [k0, zup_self, l0, e0]
      · rw [zup_ne _ _ k0, h.2.1 k hk, e (18 + k) (by omega) (by omega) (by omega) (fun a9 => absurd a0 a9)]
    · rw [if_neg a0]
      by_cases ka : k = a
      · rw [ka, zup_self, zup_ne _ _ a0, h.2.1 a (by omega), (ea a0).1, t64_1]
        rcases (show a = 1 ∨ a = 2 ∨ a = 3 ∨ a = 4 by omega) with rfl | rfl | rfl | rfl
        · show 0 ≤ (w (sf i 19)).toInt ∧ (w (sf i 19)).toInt < 2147483647
          omega
        · show 0 ≤ (w (sf i 20)).toInt ∧ (w (sf i 20)).toInt < 2147483647
          omega
        · show 0 ≤ (w (sf i 21)).toInt ∧ (w (sf i 21)).toInt < 2147483647
          omega
        · show 0 ≤ (w (sf i 22)).toInt ∧ (w (sf i 22)).toInt < 2147483647
          omega
      · rw [zup_ne _ _ ka]
        by_cases k0 : k = 0
        · rw [k0, zup_self, l0, e0]
        · rw [zup_ne _ _ k0, h.2.1 k hk, e (18 + k) (by omega) (by omega) (by omega) (fun _ => by omega)]
