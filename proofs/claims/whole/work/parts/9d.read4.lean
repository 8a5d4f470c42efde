/-! THE REFERENCE'S READER: its steps -/
section
variable {l : Launch} {G : zG} {M : zM} {A : Nat} {b : Nat → Int32} {F : Nat} {S : Nat × Int32 × Int32} {Q0 : Nat → Int32}
theorem zs30 (M : zM) : zsIr M 30 0 (zmI M 30 0) = M := zsI0 M 30 0
theorem R_wrT {p c : Int32} {Kf : Int32 → zM → Prop} (hU : UK b F S Q0 (zmI M 30 0)) (hc : ¬ c = 0) (h0 : S.2.1 = 0 → p = 0 → Kf 0 M) (h1 : S.2.1 = 0 → ¬ p = 0 → ∀ Q, UK b F (S.1, c, nI S.1) Q0 Q → Kf 1 (zsIr M 30 0 Q)) (h2 : ¬ S.2.1 = 0 → Kf 1 M) : zCalI l G Y_X9_wrong 0 0 [vr 30 0, vi p, vi c] M Kf := by
  have er := hU.er
  refine zm_X9_wrong ⟨fun g => zb_X9_wrong_24 ⟨fun d => absurd d g, fun _ => h2 (by rw [← er]; exact g)⟩, fun g => ⟨fun hp => zb_X9_wrong_24 ⟨fun _ => h0 (by rw [← er]; exact g) hp, fun d => absurd g d⟩, fun hp => ?_⟩⟩
  have g2 : S.2.1 = 0 := by rw [← er]; exact g
  have hk := hU.tk g2
  have e : zsI (zsI M 30 0 15 c) 30 0 16 (zmI (zsI M 30 0 15 c) 30 0 11) = zsIr M 30 0 (zup (zup (zmI M 30 0) 15 c) 16 (nI S.1)) := by
    have e1 : zmI (zsI M 30 0 15 c) 30 0 11 = nI S.1 := by
      rw [zmU, zup_ne _ _ (by omega)]
      exact hk.beg
    rw [e1, zsU]
  rw [e]
  refine zb_X9_wrong_24 ⟨fun d => ?_, fun _ => h1 g2 hp _ ?_⟩
  · exfalso
    rw [zmU, zup_ne _ _ (by omega), zup_self] at d
    exact hc d
  · refine UK.mk hU.hs ?_ ?_ (fun _ => ?_) (fun d => absurd d hc) ?_
    · rw [zup_ne _ _ (by omega), zup_ne _ _ (by omega)]; exact hU.len
    · rw [zup_ne _ _ (by omega), zup_self]
    · rw [zup_self]
    · intro j hj; rw [zup_ne _ _ (by omega), zup_ne _ _ (by omega)]; exact hU.fr j hj
theorem R_advT {Kf : zM → Prop} (hT : Ux b F M) (hU : UK b F S Q0 (zmI M 30 0)) (h0 : S.2.1 = 0) (h : ∀ Q, UK b F (t_adv b F S) Q0 Q → Kf (zsIr M 30 0 Q)) : zCalV l G Y_X9_advance 0 0 [vr 30 0] M Kf := by
  have hk := hU.tk h0
  have he := rd_e_le (b := b) hU.hs
  refine R_adv (e := rd_e b F S.1) (ea := S.2.2) (Q0 := Q0) hT hU.len hk.nxt he.2.1 (by rw [hU.er]; exact h0) hU.fr fun Q hQ => h Q ?_
  unfold t_adv
  rw [show S.2 = (S.2.1, S.2.2) from rfl, h0]
  exact hQ
theorem R_len {Kf : Int32 → zM → Prop} (hT : Ux b F M) (hU : UK b F S Q0 (zmI M 30 0)) (h0 : S.2.1 = 0) (h : Kf (nI (rd_e b F S.1 - S.1)) M) : zCalI l G Y_X9_length 0 0 [vr 30 0] M Kf := by
  have hk := hU.tk h0
  have hF := hT.hF
  have he := rd_e_le (b := b) hU.hs
  refine zm_X9_length ?_
  rw [hk.nxt, hk.beg]
  have e : nI (rd_e b F S.1) - nI S.1 = nI (rd_e b F S.1 - S.1) := nI_ofT (by
    rw [ti_sub (by rw [ti_nI (by omega), ti_nI (by omega)]; omega), ti_nI (by omega), ti_nI (by omega)]
    omega)
  rw [e]
  exact h
theorem rd_t1 {k : Nat} (h : k ≤ 6) : (nI (rd_t k) = 1 ↔ k = 1) ∧ (nI (rd_t k) = 2 ↔ k = 2) ∧ (nI (rd_t k) = 0 ↔ k = 0) ∧ (nI (rd_t k) = 3 ↔ 3 ≤ k ∧ k ≤ 5) := by
  have : k = 0 ∨ k = 1 ∨ k = 2 ∨ k = 3 ∨ k = 4 ∨ k = 5 ∨ k = 6 := by omega
  rcases this with e | e | e | e | e | e | e <;> subst e <;> decide
theorem R_keyT {a : Nat} {t : List Nat} {Kf : Int32 → zM → Prop} (hT : Ux b F M) (hU : UK b F S Q0 (zmI M 30 0)) (ht : zmT M a = some t) (hl : t.length < 1000) (h1 : S.2.1 = 0 → rd_is b F S.1 t → Kf 1 M) (h0 : ¬ (S.2.1 = 0 ∧ rd_is b F S.1 t) → Kf 0 M) : zCalI l G Y_X9_isKey 0 0 [vr 30 0, va a] M Kf := by
  have hF := hT.hF
  refine zm_X9_isKey ⟨fun g => h0 fun d => g (by rw [hU.er]; exact d.1), fun g => ?_⟩
  have g2 : S.2.1 = 0 := by rw [← hU.er]; exact g
  have hk := hU.tk g2
  have he := rd_e_le (b := b) hU.hs
  have t1 := (rd_t1 (rd_kd_lt b F S.1)).1
  refine ⟨fun g3 => h0 fun d => g3 (by rw [hk.tok]; exact t1.mpr d.2.1), fun g3 => R_len hT hU g2 ⟨⟨t, ht⟩, C_len ht ⟨fun c => ?_, fun c => h0 fun d => c (by rw [d.2.2.1])⟩⟩⟩
  rw [hk.tok] at g3
  have g4 := t1.mp g3
  have c2 : rd_e b F S.1 - S.1 = t.length := nI_inj (by omega) (by omega) c
  have key : ∀ d j : Nat, j + d = t.length → (∀ i, i < j → b (S.1 + i) = nI (t.getD i 0)) → ∀ y : Int32, y.toInt = j → zAt l G Y_X9_isKey (zEI G Y_X9_isKey Kf) 30 [(0, vr 30 0), (1, va a), (2, vi y)] [] M 0 0 := by
    intro d
    induction d with
    | zero =>
      intro j hj hq y hy
      refine zb_X9_isKey_30 (R_len hT hU g2 ⟨fun _ => h1 g2 ⟨g4, c2, fun i hi => hq i (by omega)⟩, fun c => ?_⟩)
      exfalso
      rw [ti_le, ti_nI (by omega)] at c
      omega
    | succ d ih =>
      intro j hj hq y hy
      refine zb_X9_isKey_30 (R_len hT hU g2 ⟨fun c => ?_, fun _ => ?_⟩)
      · exfalso
        rw [ti_le, ti_nI (by omega)] at c
        omega
      · have ea : ((zmI M 30 0 11) + y).toInt = ((S.1 + j : Nat) : Int) := by
          rw [hk.beg, ti_add (by rw [ti_nI (by omega)]; omega), ti_nI (by omega)]
          omega
        refine ⟨ti_in (by omega), ⟨t, ht⟩, C_chr ht hy (by omega) fun hc => ⟨fun q => ?_, fun q => ?_⟩⟩
        · rw [ti_at ea, hT.byt _ (by omega)] at q
          refine ih (j + 1) (by omega) (fun i hi => ?_) (y + 1) (ti_inc hy (by omega))
          rcases Nat.lt_or_ge i j with f | f
          · exact hq i f
          · rw [show i = j by omega]; exact q
        · rw [ti_at ea, hT.byt _ (by omega)] at q
          exact h0 fun e => q (e.2.2.2 j (by omega))
  exact key t.length 0 (by omega) (fun i hi => absurd hi (by omega)) 0 rfl
def rd_sg (k : Nat) : Int32 := if k = 3 then 59 else if k = 4 then 40 else 41
theorem rd_k345 (x : Int32) {k : Nat} (hk : 3 ≤ k ∧ k ≤ 5) : rd_k x = k ↔ x = rd_sg k := by
  have h3 : k = 3 ∨ k = 4 ∨ k = 5 := by omega
  constructor
  · intro h
    unfold rd_k at h
    by_cases c1 : 97 ≤ x ∧ x ≤ 122
    · rw [if_pos c1] at h; omega
    · rw [if_neg c1] at h
      by_cases c2 : 48 ≤ x ∧ x ≤ 57
      · rw [if_pos c2] at h; omega
      · rw [if_neg c2] at h
        by_cases c3 : x = 59
        · rw [if_pos c3] at h; rw [c3, ← h]; rfl
        · rw [if_neg c3] at h
          by_cases c4 : x = 40
          · rw [if_pos c4] at h; rw [c4, ← h]; rfl
          · rw [if_neg c4] at h
            by_cases c5 : x = 41
            · rw [if_pos c5] at h; rw [c5, ← h]; rfl
            · rw [if_neg c5] at h; omega
  · intro h
    rcases h3 with e | e | e <;> subst e <;> rw [h] <;> decide
theorem R_sgnT {k : Nat} {c : Int32} {Kf : Int32 → zM → Prop} (hT : Ux b F M) (hU : UK b F S Q0 (zmI M 30 0)) (hk3 : 3 ≤ k ∧ k ≤ 5) (hc : c = rd_sg k) (h1 : S.2.1 = 0 → rd_kd b F S.1 = k → Kf 1 M) (h0 : ¬ (S.2.1 = 0 ∧ rd_kd b F S.1 = k) → Kf 0 M) : zCalI l G Y_X9_isSign 0 0 [vr 30 0, vi c] M Kf := by
  have hF := hT.hF
  refine zm_X9_isSign ⟨fun g => h0 fun d => g (by rw [hU.er]; exact d.1), fun g => ?_⟩
  have g2 : S.2.1 = 0 := by rw [← hU.er]; exact g
  have hk := hU.tk g2
  have t1 := (rd_t1 (rd_kd_lt b F S.1)).2.2.2
  refine ⟨fun g3 => h0 fun d => g3 ?_, fun g3 => ?_⟩
  · rw [hk.tok]
    exact t1.mpr (by omega)
  · rw [hk.tok] at g3
    have g4 := t1.mp g3
    have hs : S.1 < F := by
      refine Classical.byContradiction fun n => ?_
      unfold rd_kd at g4
      rw [if_pos (by omega)] at g4
      omega
    have hkd : rd_kd b F S.1 = rd_k (b S.1) := by unfold rd_kd; rw [if_neg (by omega)]
    have ea : (zmI M 30 0 11).toInt = (S.1 : Nat) := by rw [hk.beg, ti_nI (by omega)]
    rw [ti_at ea, hT.byt _ hs, hc]
    refine ⟨ti_in (by omega), fun q => h0 fun d => q ?_, fun q => h1 g2 ?_⟩
    · rw [hkd] at d
      exact (rd_k345 _ hk3).mp d.2
    · rw [hkd]
      exact (rd_k345 _ hk3).mpr q
theorem R_takT {k : Nat} {c : Int32} {Kf : zM → Prop} (hT : Ux b F M) (hU : UK b F S Q0 (zmI M 30 0)) (hk3 : 3 ≤ k ∧ k ≤ 5) (hc : c = rd_sg k) (h : ∀ Q, UK b F (t_exp b F k S) Q0 Q → Kf (zsIr M 30 0 Q)) : zCalV l G Y_X9_takesSign 0 0 [vr 30 0, vi c] M Kf := by
  unfold t_exp at h
  have same : ¬ S.2.1 = 0 → Kf M := fun g => by
    rw [if_neg g] at h
    have := h _ hU
    rw [zs30] at this
    exact this
  refine zm_X9_takesSign (R_sgnT hT hU hk3 hc (fun g k1 => ⟨fun _ => zb_X9_takesSign_14 (R_wrT hU (by decide) (fun _ _ => ⟨fun d => absurd rfl d, fun _ => R_advT hT hU g fun Q hQ => ?_⟩) (fun _ d => absurd rfl d) fun d => absurd g d), fun d => absurd d (by decide)⟩) fun k1 => ⟨fun d => absurd rfl d, fun _ => zb_X9_takesSign_14 (R_wrT hU (by decide) (fun _ d => absurd d (by decide)) (fun g _ Q hQ => ⟨fun _ => ?_, fun d => absurd d (by decide)⟩) fun g => ⟨fun _ => same g, fun d => absurd d (by decide)⟩)⟩)
  · rw [if_pos g, if_pos k1] at h
    exact h Q hQ
  · rw [if_pos g, if_neg (fun e => k1 ⟨g, e⟩)] at h
    exact h Q hQ
theorem R_numT {lo hi : Int32} {Kf : Int32 → zM → Prop} (hT : Ux b F M) (hU : UK b F S Q0 (zmI M 30 0)) (hlo : 0 ≤ lo.toInt) (hhi : hi.toInt < 1000000) (h : ∀ Q, UK b F (t_num b F lo hi S).2 Q0 Q → Kf (t_num b F lo hi S).1 (zsIr M 30 0 Q)) : zCalI l G Y_X9_number 0 0 [vr 30 0, vi lo, vi hi] M Kf := by
  unfold t_num at h
  have same : ¬ S.2.1 = 0 → Kf lo M := fun g => by
    rw [if_neg g] at h
    have := h _ hU
    rw [zs30] at this
    exact this
  rcases Classical.em (S.2.1 = 0) with g | g
  · have hk := hU.tk g
    have t2 := (rd_t1 (rd_kd_lt b F S.1)).2.1
    rw [if_pos g] at h
    refine zm_X9_number ⟨fun q => ?_, fun q => ?_⟩
    · rw [hk.tok] at q
      have k2 := t2.mp q
      rw [if_pos k2] at h
      have hv : (lo ≤ rd_v b F S.1 ∧ rd_v b F S.1 ≤ hi) ↔ (lo ≤ rd_w b F S.1 ∧ rd_w b F S.1 ≤ hi) := by
        unfold rd_v rd_w
        split
        · exact Iff.rfl
        · rw [ti_le, ti_le, ti_le, ti_le, ti_n1, show (1000000 : Int32).toInt = 1000000 from rfl]
          omega
      refine zb_X9_number_14 (R_wrT hU (by decide) (fun _ _ => ⟨fun d => absurd rfl d, fun _ => R_in2 (fun c => ⟨fun _ => zb_X9_number_39 (R_wrT hU (by decide) (fun _ _ => ⟨fun _ => R_advT hT hU g fun Q hQ => ?_, fun d => absurd rfl d⟩) (fun _ d => absurd rfl d) fun d => absurd g d), fun d => absurd d (by decide)⟩) fun c => ⟨fun d => absurd rfl d, fun _ => zb_X9_number_39 (R_wrT hU (by decide) (fun _ d => absurd d (by decide)) (fun _ _ Q hQ => ⟨fun d => absurd d (by decide), fun _ => ?_⟩) fun d => absurd g d)⟩⟩) (fun _ d => absurd rfl d) fun d => absurd g d)
      · rw [hk.val k2] at c ⊢
        rw [if_pos (hv.mpr c)] at h
        have e : rd_w b F S.1 = rd_v b F S.1 := by
          unfold rd_w rd_v
          unfold rd_w at c
          split
          · rfl
          · next n =>
            rw [if_neg n, ti_le, ti_le, show (1000000 : Int32).toInt = 1000000 from rfl] at c
            omega
        rw [e]
        exact h Q hQ
      · rw [hk.val k2] at c
        rw [if_neg (fun e => c (hv.mp e))] at h
        exact h Q hQ
    · have k2 : ¬ rd_kd b F S.1 = 2 := fun e => q (by rw [hk.tok]; exact t2.mpr e)
      rw [if_neg k2] at h
      exact zb_X9_number_14 (R_wrT hU (by decide) (fun _ d => absurd d (by decide)) (fun _ _ Q hQ => ⟨fun _ => h Q hQ, fun d => absurd d (by decide)⟩) fun d => absurd g d)
  · have go : ∀ v : Int32, zAt l G Y_X9_number (zEI G Y_X9_number Kf) 14 [(0, vr 30 0), (1, vi lo), (2, vi hi)] [vi v, vr 30 0] M 0 0 := fun v => zb_X9_number_14 (R_wrT hU (by decide) (fun d => absurd d g) (fun d => absurd d g) fun _ => ⟨fun _ => same g, fun d => absurd d (by decide)⟩)
    exact zm_X9_number ⟨fun _ => go 0, fun _ => go 1⟩
end
