/-! SETUPS: a flow is read, the class -/
section
variable {l : Launch} {G : zG} {M M0 : zM} {A : Nat} {b : Nat → Int32} {F : Nat} {S S' : Nat × Int32 × Int32} {w w' : Nat → Int32} {t : Int32}
variable {n a : Nat} {tt : List Nat} {g : Nat → Int32}
theorem KF.done (h : KF b F M0 S w t n a tt g M) (hw : S.2.1 = 0 → WS w) (h11 : w' 11 = w 11 + 1) (hold : ∀ k, ¬ k = 11 → ¬ (sf n 0 ≤ k ∧ k < sf n 26) → w' k = w k) (hg : S.2.1 = 0 → (∀ k, k < 9 → g (k + 1) = w' (sf n k)) ∧ (∀ k, k < 8 → w' (sf n (18 + k)) = 0) ∧ RN (some tt) w' n) :
    KS b F M0 S w' t (zsI (zsLr M 18 n (fun k => if k < 8 then 0 else zmL M 18 n k)) 15 0 12 (zmI (zsLr M 18 n (fun k => if k < 8 then 0 else zmL M 18 n k)) 15 0 12 + 1)) := by
  have k := h.ks
  have hc := h.c
  have h6 := h.n6
  have ec : zmI (zsLr M 18 n (fun k => if k < 8 then 0 else zmL M 18 n k)) 15 0 12 = zmI M 15 0 12 := rfl
  have e12 : (zmI M 15 0 12 + 1).toInt = ((n + 1 : Nat) : Int) := ti_inc hc (by omega)
  rw [ec]
  generalize hM1 : zsLr M 18 n (fun k => if k < 8 then 0 else zmL M 18 n k) = M1
  have f1 : ∀ s i, M1.1 s i = M.1 s i := fun s i => by rw [← hM1]; rfl
  have f2 : ∀ i, ¬ i = n → M1.2.1 18 i = M.2.1 18 i := fun i hi => by rw [← hM1]; exact if_neg (by omega)
  have f2n : M1.2.1 18 n = fun k => if k < 8 then 0 else zmL M 18 n k := by rw [← hM1]; exact if_pos ⟨rfl, rfl⟩
  have f3 : M1.2.2 = M.2.2 := by rw [← hM1]; rfl
  have fr1 : pFr M0 M1 := by
    rw [← hM1]
    exact k.fr.L (by have := inR18 (r := 0) h6; rw [show 6 * 0 + n = n by omega] at this; exact this)
  have nm1 : zmN M1 17 n 0 = a := by
    show M1.2.2.2.1 17 n 0 = a
    rw [f3]
    exact h.na
  refine KS.mk (Tx.mk k.tx.hF ?_ (fun i hi => ?_)) ?_ (fr1.I (.inl (inR15 0))) ?_ (fun i hi => ?_) (fun q => ⟨?_, ?_⟩)
  · rw [zmO _ _ _ _ _ _ (by omega)]
    show M1.1 1 0 1 = _
    rw [f1]
    exact k.tx.len
  · rw [zmO _ _ _ _ _ _ (by omega)]
    show M1.1 2 0 i = _
    rw [f1]
    exact k.tx.byt i hi
  · rw [zmO _ _ _ _ _ _ (by omega)]
    show TK b F S (M1.1 1 0)
    rw [f1]
    exact k.tk
  · rw [zmU, zup_self, e12]
    omega
  · rw [zmU, zup_self, e12] at hi
    show ∃ s : List Nat, M1.2.2.2.2.1 (M1.2.2.2.1 17 i 0) = some s ∧ s.length ≤ 8
    rw [f3]
    rcases Nat.lt_or_ge i n with d | d
    · exact k.nm i (by rw [hc]; omega)
    · rw [show i = n by omega]
      have e1 : M.2.2.2.1 17 n 0 = a := h.na
      rw [e1]
      exact ⟨tt, h.ta, h.l8⟩
  · have w11 := k.w11 q
    have W := hw q
    have Wf := W.hf
    obtain ⟨g1, g2, g3⟩ := hg q
    obtain ⟨⟨a1, a2, a3, a4, a5, a6⟩, rf, rq, rd⟩ := (k.ok q).1
    have iw : (w' 11).toInt = ((n + 1 : Nat) : Int) := by rw [h11, w11, e12]
    refine ⟨?_, fun i hi => ?_, ?_, ?_⟩
    · show RA ((zsIr M1 15 0 (zup (zmI M1 15 0) 12 (zmI M 15 0 12 + 1))).1 15 0) _ _
      rw [zsI1, show zmI M1 15 0 = zmI M 15 0 from f1 15 0]
      have o : ∀ k, k < 14 → ¬ k = 11 → w' k = w k := fun k hk hk2 => hold k hk2 (by unfold sf; omega)
      refine ⟨fun j hj => ?_, ?_, fun he => ?_, ?_, ?_, ?_⟩
      · rw [zup_ne _ _ (by omega), o j (by omega) (by omega)]; exact a1 j hj
      · rw [zup_ne _ _ (by omega), o 9 (by omega) (by omega)]; exact a2
      · rw [zup_ne _ _ (by omega), o 10 (by omega) (by omega)]; exact a3 he
      · rw [zup_ne _ _ (by omega), o 13 (by omega) (by omega)]; exact a4
      · rw [zup_ne _ _ (by omega)]; exact a5
      · rw [zup_self, h11, w11]
    · have hi2 : i < n + 1 := by rw [iw] at hi; omega
      show RF ((zsIr M1 15 0 _).1 17 (6 * 0 + i)) (M1.2.1 18 (6 * 0 + i)) (M1.2.2.2.2.1 (M1.2.2.2.1 17 (6 * 0 + i) 0)) w' i
      rw [zsIo _ _ _ _ _ _ (by omega), f1, f3, show 6 * 0 + i = i by omega]
      rcases Nat.lt_or_ge i n with d | d
      · rw [f2 i (by omega)]
        have q2 := rf i (by rw [w11, hc]; omega)
        rw [show 6 * 0 + i = i by omega] at q2
        exact RF.congr q2 (Wf.2.1 i (by rw [w11, hc]; omega)) fun k' hk' => hold _ (by unfold sf; omega) (by unfold sf; omega)
      · have ei : i = n := by omega
        subst ei
        rw [f2n]
        have e1 : M.2.2.2.1 17 i 0 = a := h.na
        have e2 : M.1 17 i = g := h.gg
        have e3 : M.2.2.2.2.1 a = some tt := h.ta
        rw [e1, e2, e3]
        refine ⟨g1, fun k' hk' => ?_, g3⟩
        show (if k' < 8 then (0 : Int64) else _) = _
        rw [if_pos hk', g2 k' hk']
        rfl
    · show RQ ((zsIr M1 15 0 _).1 19 0) ((zsIr M1 15 0 _).1 20 0) w'
      rw [zsIo _ _ _ _ _ _ (by omega), zsIo _ _ _ _ _ _ (by omega), f1, f1]
      exact rq.congr Wf.2.2 (hold 8 (by omega) (by unfold sf; omega)) fun j h1 h2 => hold j (by omega) (by unfold sf; omega)
    · show RD ((zsIr M1 15 0 _).1 21 0) ((zsIr M1 15 0 _).1 22 0) w' true
      rw [zsIo _ _ _ _ _ _ (by omega), zsIo _ _ _ _ _ _ (by omega), f1, f1]
      exact rd.congr (hold 12 (by omega) (by unfold sf; omega)) fun j h1 h2 => hold j (by omega) (by unfold sf; omega)
  · rw [zmO _ _ _ _ _ _ (by omega)]
    show M1.1 3 0 2 = _
    rw [f1]
    exact (k.ok q).2
/-- the letters of a word -/
theorem rd_sp_all {k : Nat} : ∀ (d i j : Nat), i ≤ j → j < rd_sp b k d i → rd_k (b j) = k := by
  intro d
  induction d with
  | zero => intro i j h1 h2; exact absurd h2 (by unfold rd_sp; omega)
  | succ d ih =>
    intro i j h1 h2
    unfold rd_sp at h2
    by_cases c : rd_k (b i) = k
    · rw [if_pos c] at h2
      rcases Nat.lt_or_ge i j with f | f
      · exact ih (i + 1) j (by omega) h2
      · rw [show j = i by omega]; exact c
    · rw [if_neg c] at h2
      omega
theorem rd_word {s j : Nat} (hk : rd_kd b F s = 1) (hj : j < rd_e b F s - s) : 97 ≤ (b (s + j)).toInt ∧ (b (s + j)).toInt ≤ 122 := by
  have h1 : rd_k (b (s + j)) = 1 := by
    unfold rd_kd at hk
    unfold rd_e at hj
    by_cases c : F ≤ s
    · rw [if_pos c] at hk; exact absurd hk (by decide)
    · rw [if_neg c] at hk hj
      rw [if_pos (.inl hk)] at hj
      rcases Nat.eq_zero_or_pos j with e | e
      · rw [e]; exact hk
      · rw [hk] at hj
        exact rd_sp_all (F - (s + 1)) (s + 1) (s + j) (by omega) (by omega)
  have := (rd_k1 _).mpr h1
  rw [ti_le, ti_le, show (97 : Int32).toInt = 97 from rfl, show (122 : Int32).toInt = 122 from rfl] at this
  exact this
/-- the row of a flow more, place by place -/
theorem f_w_at {S3 : Nat × Int32 × Int32} {n s : Nat} (h8 : rd_e b F s - s ≤ 8) (hn : n < 6) : f_w b F w n s S3 11 = w 11 + 1 ∧ (∀ k, ¬ k = 11 → ¬ (sf n 0 ≤ k ∧ k < sf n 26) → f_w b F w n s S3 k = w k) ∧ f_w b F w n s S3 (sf n 0) = (f_n b F S3).1 ∧ f_w b F w n s S3 (sf n 1) = (f_p b F S3).1 ∧ f_w b F w n s S3 (sf n 2) = (f_s b F S3).1 ∧ f_w b F w n s S3 (sf n 3) = (f_c b F S3).1 ∧ f_w b F w n s S3 (sf n 4) = f_m b F S3 ∧ f_w b F w n s S3 (sf n 5) = 1 ∧ f_w b F w n s S3 (sf n 6) = (f_s b F S3).1 ∧ (∀ k, k = 7 ∨ k = 8 ∨ (18 ≤ k ∧ k < 26) → f_w b F w n s S3 (sf n k) = w (sf n k)) ∧ f_w b F w n s S3 (sf n 9) = nI (rd_e b F s - s) ∧ ∀ j, j < rd_e b F s - s → f_w b F w n s S3 (sf n (10 + j)) = b (s + j) := by
  unfold f_w sf
  refine ⟨zup_self _ _ _, fun k h1 h2 => ?_, ?_, ?_, ?_, ?_, ?_, ?_, ?_, fun k hk => ?_, ?_, fun j hj => ?_⟩
  · rw [zup_ne _ _ (by omega), zup_ne _ _ (by omega), zup_ne _ _ (by omega), zup_ne _ _ (by omega), zup_ne _ _ (by omega), zup_ne _ _ (by omega), zup_ne _ _ (by omega), zup_ne _ _ (by omega)]
    exact rd_wl_o _ _ (by unfold sf; omega) (by unfold sf; omega)
  · rw [zup_ne _ _ (by omega), zup_ne _ _ (by omega), zup_ne _ _ (by omega), zup_ne _ _ (by omega), zup_ne _ _ (by omega), zup_ne _ _ (by omega), zup_ne _ _ (by omega), zup_self]
  · rw [zup_ne _ _ (by omega), zup_ne _ _ (by omega), zup_ne _ _ (by omega), zup_ne _ _ (by omega), zup_ne _ _ (by omega), zup_ne _ _ (by omega), zup_self]
  · rw [zup_ne _ _ (by omega), zup_ne _ _ (by omega), zup_ne _ _ (by omega), zup_ne _ _ (by omega), zup_ne _ _ (by omega), zup_self]
  · rw [zup_ne _ _ (by omega), zup_ne _ _ (by omega), zup_ne _ _ (by omega), zup_ne _ _ (by omega), zup_self]
  · rw [zup_ne _ _ (by omega), zup_self]
  · rw [zup_ne _ _ (by omega), zup_ne _ _ (by omega), zup_self]
  · rw [zup_ne _ _ (by omega), zup_ne _ _ (by omega), zup_ne _ _ (by omega), zup_self]
  · rw [zup_ne _ _ (by omega), zup_ne _ _ (by omega), zup_ne _ _ (by omega), zup_ne _ _ (by omega), zup_ne _ _ (by omega), zup_ne _ _ (by omega), zup_ne _ _ (by omega), zup_ne _ _ (by omega)]
    exact rd_wl_o _ _ (by unfold sf; omega) (by unfold sf; omega)
  · rw [zup_ne _ _ (by omega), zup_ne _ _ (by omega), zup_ne _ _ (by omega), zup_ne _ _ (by omega), zup_ne _ _ (by omega), zup_ne _ _ (by omega), zup_ne _ _ (by omega), zup_ne _ _ (by omega)]
    exact rd_wl_9 _
  · rw [zup_ne _ _ (by omega), zup_ne _ _ (by omega), zup_ne _ _ (by omega), zup_ne _ _ (by omega), zup_ne _ _ (by omega), zup_ne _ _ (by omega), zup_ne _ _ (by omega), zup_ne _ _ (by omega)]
    exact rd_wl_l _ j hj
end
