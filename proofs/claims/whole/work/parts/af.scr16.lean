/-! SCRIPTS: an order is done, on both sides -/
section
variable {l : Launch} {G : zG} {M M0 Mz M' : zM} {A : Nat} {w w' : Nat → Int32} {n : Nat} {kd x y : Int32}
def q_do (w : Nat → Int32) (kd x y : Int32) : Option (Nat → Int32) :=
  if kd = 0 then (if (w 7).toInt + x.toInt ≤ 9999 then some (sp_passes w false x.toInt.toNat) else none) else
  if kd = 1 then some (sp_many w false x.toInt.toNat y.toInt.toNat).2 else
  if kd = 2 then some (zup (zup w 2 x) 3 y) else
  if kd = 3 then some (zup w 4 x) else
  if kd = 4 then some (zup w 5 x) else
  if kd = 5 then some (zup w 6 x) else
  if kd = 6 then (if w (sf x.toInt.toNat 5) = 0 then none else some (zup w (sf x.toInt.toNat 5) 0)) else
  (if w (sf x.toInt.toNat 5) = 1 then none else some (zup w (sf x.toInt.toNat 5) 1))
theorem nat_of {v : Int32} (h : 0 ≤ v.toInt) : v.toInt = (v.toInt.toNat : Int) := (Int.toNat_of_nonneg h).symm
theorem q_do_ok (hO : OK w n A (9 * (w 7).toInt.toNat) 9999) (hk : o_ok n kd x y) (hA : A ≤ 299900000) (h : q_do w kd x y = some w') : OK w' n (A + 2700) (9 * (w' 7).toInt.toNat) 9999 := by
  have ht := hO.tim
  have same : ∀ {v : Nat → Int32}, OK v n A (9 * (w 7).toInt.toNat) 9999 → v 7 = w 7 → OK v n (A + 2700) (9 * (v 7).toInt.toNat) 9999 := fun {v} g e => by
    rw [e]
    exact g.mono (by omega) (Nat.le_refl _) (Nat.le_refl _)
  rcases hk with ⟨e, h1, h2⟩ | ⟨e, h1, h2, h3, h4⟩ | ⟨e, h1, h2, h3, h4⟩ | ⟨e, h1, h2⟩ | ⟨e, h1, h2⟩ | ⟨e, h1, h2⟩ | ⟨e, h1, h2⟩
  · rw [e] at h
    have h : (if (w 7).toInt + x.toInt ≤ 9999 then some (sp_passes w false x.toInt.toNat) else none) = some w' := h
    split at h
    · next c =>
      have e2 := nat_of (v := x) (by omega)
      generalize x.toInt.toNat = k at *
      injection h with h
      rw [← h]
      have op := hO.passes (p := false) k (by omega) (by omega) (by omega)
      have o7 := sp_passes_7 (p := false) hO k (by omega) (by omega) (by omega)
      have o1 := op.mono (show A + 54 * k ≤ A + 2700 by omega) (show 9 * (w 7).toInt.toNat + 9 * k ≤ 9 * (sp_passes w false k 7).toInt.toNat by omega) (Nat.le_refl _)
      have otim := o1.tim
      exact OK.mk o1.lim o1.rate o1.mm o1.top o1.wt o1.gen (by omega) o1.nq o1.nf o1.nd o1.fl o1.qu o1.su
    · cases h
  · rw [e] at h
    have h : some (sp_many w false x.toInt.toNat y.toInt.toNat).2 = some w' := h
    injection h with h
    rw [← h, sp_many_7 hO (show x.toInt.toNat < n by omega) _ (by omega)]
    exact (hO.many (p := false) (show x.toInt.toNat < n by omega) y.toInt.toNat (by omega)).mono (by omega) (Nat.le_refl _) (Nat.le_refl _)
  · rw [e] at h
    have h : some (zup (zup w 2 x) 3 y) = some w' := h
    injection h with h
    rw [← h]
    refine same (hO.sets (fun k hk => by rw [zup_ne _ _ (by omega), zup_ne _ _ (by omega)]) ?_ (by rw [zup_ne _ _ (by omega), zup_ne _ _ (by omega)]; exact hO.top) (by rw [zup_ne _ _ (by omega), zup_ne _ _ (by omega)]; exact hO.wt) (by rw [zup_ne _ _ (by omega), zup_ne _ _ (by omega)]; exact hO.gen)) (by rw [zup_ne _ _ (by omega), zup_ne _ _ (by omega)])
    unfold sp_mm
    rw [zup_self, zup_ne _ _ (by omega), zup_self]
    omega
  · rw [e] at h
    have h : some (zup w 4 x) = some w' := h
    injection h with h
    rw [← h]
    exact same (hO.sets (fun k hk => zup_ne _ _ (by omega)) (by unfold sp_mm; rw [zup_ne _ _ (by omega), zup_ne _ _ (by omega)]; exact hO.mm) (by rw [zup_self]; omega) (by rw [zup_ne _ _ (by omega)]; exact hO.wt) (by rw [zup_ne _ _ (by omega)]; exact hO.gen)) (zup_ne _ _ (by omega))
  · rw [e] at h
    have h : some (zup w 5 x) = some w' := h
    injection h with h
    rw [← h]
    exact same (hO.sets (fun k hk => zup_ne _ _ (by omega)) (by unfold sp_mm; rw [zup_ne _ _ (by omega), zup_ne _ _ (by omega)]; exact hO.mm) (by rw [zup_ne _ _ (by omega)]; exact hO.top) (by rw [zup_self]; omega) (by rw [zup_ne _ _ (by omega)]; exact hO.gen)) (zup_ne _ _ (by omega))
  · rw [e] at h
    have h : some (zup w 6 x) = some w' := h
    injection h with h
    rw [← h]
    exact same (hO.sets (fun k hk => zup_ne _ _ (by omega)) (by unfold sp_mm; rw [zup_ne _ _ (by omega), zup_ne _ _ (by omega)]; exact hO.mm) (by rw [zup_ne _ _ (by omega)]; exact hO.top) (by rw [zup_ne _ _ (by omega)]; exact hO.wt) (by rw [zup_self, ti_eq, ti_eq, ti_0, ti_1]; omega)) (zup_ne _ _ (by omega))
  · have hi : x.toInt.toNat < n := by omega
    rcases e with e | e
    · rw [e] at h
      have h : (if w (sf x.toInt.toNat 5) = 0 then none else some (zup w (sf x.toInt.toNat 5) 0)) = some w' := h
      split at h
      · cases h
      · injection h with h
        rw [← h]
        exact same (hO.turn hi (.inl rfl)) (zup_ne _ _ (by (first | omega | (simp only [sf, sq, sd] at *; omega))))
    · rw [e] at h
      have h : (if w (sf x.toInt.toNat 5) = 1 then none else some (zup w (sf x.toInt.toNat 5) 1)) = some w' := h
      split at h
      · cases h
      · injection h with h
        rw [← h]
        exact same (hO.turn hi (.inr rfl)) (zup_ne _ _ (by (first | omega | (simp only [sf, sq, sd] at *; omega))))
theorem C_turn {i : Nat} {v : Int32} {Kf : Int32 → zM → Prop} (hO : OK w n A (9 * (w 7).toInt.toNat) 9999) (hR : Rel M 1 w true) (hx : x.toInt = i) (hi : i < n) (hv : v = 0 ∨ v = 1)
    (h1 : ¬ w (sf i 5) = v → ∀ z M', 0 ≤ z.toInt → zFr 1 M M' → Rel M' 1 (zup w (sf i 5) v) true → Kf z M') (h0 : w (sf i 5) = v → Kf (-3) M) : zCalI l G Y_X5_changeOn 0 0 [vr 15 1, vi x, vi v] M Kf := by
  have hn := hO.nf
  obtain rfl := nI_ofT hx
  refine zm_X5_changeOn (C_hasFlow (hR.n hO) hn.2 ?_)
  rw [if_pos (by omega)]
  have hfi : zmI M 17 (6 * 1 + i) 6 = w (sf i 5) := (hR.2.1 i (by omega)).1 5 (by omega)
  refine ⟨fun d => absurd d (by decide), fun _ => ⟨ti_in (by omega), ?_⟩⟩
  rw [ti_at hx, hfi]
  refine ⟨fun g => ⟨ti_in (by omega), hv, C_flowsOn (hO.turn (i := i) hi hv) (hR.turn (v := v) hO hi) ?_⟩, fun g => h0 g⟩
  exact h1 g _ _ (sp_on_b (hO.turn (i := i) hi hv) n (Nat.le_refl _)).1 ((zFr.refl 1 M).I (inR17 (by omega))) (hR.turn (v := v) hO hi)
theorem C_do {k : Nat} {p : Int32} {Kf : Int32 → zM → Prop} (hO : OK w n A (9 * (w 7).toInt.toNat) 9999) (hR : Rel M 1 w true) (hA : A ≤ 299900000) (hp : p.toInt = k) (hk60 : k < 60) (h5 : zmI M 5 0 k = kd) (h6 : zmI M 6 0 k = x) (h7 : zmI M 7 0 k = y) (hk : o_ok n kd x y)
    (hs : ∀ v w' M', q_do w kd x y = some w' → 0 ≤ v.toInt → zFr 1 M M' → Rel M' 1 w' true → Kf v M') (hN : ∀ v, q_do w kd x y = none → v.toInt < 0 → Kf v M) : zCalI l G Y_X6_doOrder 0 0 [vr 4 0, vi p] M Kf := by
  have hn := hO.nf
  have ht := hO.tim
  have ip : vp_in p 60 := ti_in (by omega)
  refine zm_X6_doOrder ⟨ip, ip, ip, ?_⟩
  rw [ti_at hp, h5, h6, h7]
  have no : ∀ {c : Int32} {P : Prop}, kd = c → (kd ≠ c) → P := fun a b => absurd a b
  have f0 := zFr.refl 1 M
  rcases hk with ⟨e, h1, h2⟩ | ⟨e, h1, h2, h3, h4⟩ | ⟨e, h1, h2, h3, h4⟩ | ⟨e, h1, h2⟩ | ⟨e, h1, h2⟩ | ⟨e, h1, h2⟩ | ⟨e, h1, h2⟩
  · subst e
    refine ⟨fun _ => ?_, fun d => absurd d (by decide), fun d => absurd d (by decide), fun d => absurd d (by decide), fun d => absurd d (by decide), fun d => absurd d (by decide), fun d => absurd rfl d.1⟩
    have e2 := nat_of (v := x) (by omega)
    have eq : q_do w 0 x y = if (w 7).toInt + x.toInt ≤ 9999 then some (sp_passes w false x.toInt.toNat) else none := rfl
    rw [eq] at hs hN
    by_cases c : (w 7).toInt + x.toInt ≤ 9999
    · rw [if_pos c] at hs
      refine C_passTicks hO hR e2 (by omega) (by omega) (by omega) (by omega) fun M' f r => hs _ _ M' rfl ?_ f r
      have := sp_passes_7 (p := false) hO x.toInt.toNat (by omega) (by omega) (by omega)
      omega
    · rw [if_neg c] at hN
      have e7 : zmI M 15 1 7 = w 7 := hR.1.1 7 (by omega)
      refine zm_X5_passTicks ⟨fun d => ?_, fun _ => hN _ rfl (by decide)⟩
      exfalso
      rw [e7, ti_le, ti_add (by omega), show (9999 : Int32).toInt = 9999 from rfl] at d
      omega
  · subst e
    refine ⟨fun d => absurd d (by decide), fun _ => ?_, fun d => absurd d (by decide), fun d => absurd d (by decide), fun d => absurd d (by decide), fun d => absurd d (by decide), fun d => absurd rfl d.2.1⟩
    have e2 := nat_of (v := y) (by omega)
    have e3 := nat_of (v := x) (by omega)
    have eq : q_do w 1 x y = some (sp_many w false x.toInt.toNat y.toInt.toNat).2 := rfl
    rw [eq] at hs
    have hc := C_many (l := l) (G := G) (Kf := Kf) hO hR (show x.toInt.toNat < n by omega) e2 (by omega) fun M' f r => hs _ _ M' rfl (sp_many_1 (w := w) (p := false) (i := x.toInt.toNat) y.toInt.toNat (by omega)).1 f r
    rw [← nI_ofT e3] at hc
    exact hc
  · subst e
    refine ⟨fun d => absurd d (by decide), fun d => absurd d (by decide), fun _ => ?_, fun d => absurd d (by decide), fun d => absurd d (by decide), fun d => absurd d (by decide), fun d => absurd rfl d.2.2.1⟩
    have eq : q_do w 2 x y = some (zup (zup w 2 x) 3 y) := rfl
    rw [eq] at hs
    have r2 := hR.set (k := 2) (v := x) hO.nf hO.lng hO.q40 (by omega)
    have r3 := r2.set (k := 3) (v := y) (n := n) (by rw [zup_ne _ _ (by omega)]; exact hO.nf) (fun i hi => by have := hO.nf; rw [zup_ne _ _ (by (first | omega | (simp only [sf, sq, sd] at *; omega)))]; exact hO.lng i hi) (by rw [zup_ne _ _ (by omega)]; exact hO.q40) (by omega)
    have hmm := hO.mm
    have m1 := hmm.1
    have m2 := hmm.2.1
    have m3 := hmm.2.2
    refine zm_X5_changeLimits (hs _ _ _ rfl ?_ ((f0.I (inR15 1)).I (inR15 1)) r3)
    rw [show zmI M 15 1 2 = w 2 from hR.1.1 2 (by omega), show zmI M 15 1 3 = w 3 from hR.1.1 3 (by omega), ti_add (by rw [ti_mul (by rw [show (100 : Int32).toInt = 100 from rfl]; omega), show (100 : Int32).toInt = 100 from rfl]; omega), ti_mul (by rw [show (100 : Int32).toInt = 100 from rfl]; omega), show (100 : Int32).toInt = 100 from rfl]
    omega
  · subst e
    refine ⟨fun d => absurd d (by decide), fun d => absurd d (by decide), fun d => absurd d (by decide), fun _ => ?_, fun d => absurd d (by decide), fun d => absurd d (by decide), fun d => absurd rfl d.2.2.2.1⟩
    have eq : q_do w 3 x y = some (zup w 4 x) := rfl
    rw [eq] at hs
    refine zm_X5_changeTop (hs _ _ _ rfl ?_ (f0.I (inR15 1)) (hR.set (k := 4) (v := x) hO.nf hO.lng hO.q40 (by omega)))
    rw [show zmI M 15 1 4 = w 4 from hR.1.1 4 (by omega)]
    exact hO.top.1
  · subst e
    refine ⟨fun d => absurd d (by decide), fun d => absurd d (by decide), fun d => absurd d (by decide), fun d => absurd d (by decide), fun _ => ?_, fun d => absurd d (by decide), fun d => absurd rfl d.2.2.2.2.1⟩
    have eq : q_do w 4 x y = some (zup w 5 x) := rfl
    rw [eq] at hs
    refine zm_X5_changeWeight (hs _ _ _ rfl ?_ (f0.I (inR15 1)) (hR.set (k := 5) (v := x) hO.nf hO.lng hO.q40 (by omega)))
    rw [show zmI M 15 1 5 = w 5 from hR.1.1 5 (by omega)]
    exact hO.wt.1
  · subst e
    refine ⟨fun d => absurd d (by decide), fun d => absurd d (by decide), fun d => absurd d (by decide), fun d => absurd d (by decide), fun d => absurd d (by decide), fun _ => ?_, fun d => absurd rfl d.2.2.2.2.2⟩
    have eq : q_do w 5 x y = some (zup w 6 x) := rfl
    rw [eq] at hs
    refine zm_X5_changeGentle (hs _ _ _ rfl ?_ (f0.I (inR15 1)) (hR.set (k := 6) (v := x) hO.nf hO.lng hO.q40 (by omega)))
    rw [show zmI M 15 1 6 = w 6 from hR.1.1 6 (by omega)]
    have := ti_bit hO.gen
    omega
  · have e3 := nat_of (v := x) (by omega)
    rcases e with e | e
    · subst e
      refine ⟨fun d => absurd d (by decide), fun d => absurd d (by decide), fun d => absurd d (by decide), fun d => absurd d (by decide), fun d => absurd d (by decide), fun d => absurd d (by decide), fun _ => ⟨ip, fun _ => ?_, fun d => absurd d (by decide)⟩⟩
      have eq : q_do w 6 x y = if w (sf x.toInt.toNat 5) = 0 then none else some (zup w (sf x.toInt.toNat 5) 0) := rfl
      rw [eq] at hs hN
      refine zb_X6_doOrder_137 (C_turn hO hR e3 (by omega) (.inl rfl) (fun g v M' a1 a2 a3 => ?_) fun g => ?_)
      · rw [if_neg g] at hs
        exact hs v _ M' rfl a1 a2 a3
      · rw [if_pos g] at hN
        exact hN _ rfl (by decide)
    · subst e
      refine ⟨fun d => absurd d (by decide), fun d => absurd d (by decide), fun d => absurd d (by decide), fun d => absurd d (by decide), fun d => absurd d (by decide), fun d => absurd d (by decide), fun _ => ⟨ip, fun d => absurd rfl d, fun _ => ?_⟩⟩
      have eq : q_do w 7 x y = if w (sf x.toInt.toNat 5) = 1 then none else some (zup w (sf x.toInt.toNat 5) 1) := rfl
      rw [eq] at hs hN
      refine zb_X6_doOrder_137 (C_turn hO hR e3 (by omega) (.inr rfl) (fun g v M' a1 a2 a3 => ?_) fun g => ?_)
      · rw [if_neg g] at hs
        exact hs v _ M' rfl a1 a2 a3
      · rw [if_pos g] at hN
        exact hN _ rfl (by decide)
theorem R_turn {i : Nat} {v : Int32} {Kf : Int32 → zM → Prop} (hO : OK w n A (9 * (w 7).toInt.toNat) 9999) (hw : zmI M 31 0 = w) (hx : x.toInt = i) (hi : i < n) (hv : v = 0 ∨ v = 1)
    (h1 : ¬ w (sf i 5) = v → ∀ z, 0 ≤ z.toInt → Kf z (zsIr M 31 0 (zup w (sf i 5) v))) (h0 : w (sf i 5) = v → Kf (-3) M) : zCalI l G Y_X9_turnNow 0 0 [vr 30 0, vi x, vi v] M Kf := by
  have hn := hO.nf
  refine zm_X9_turnNow (R_ofFlow hx (k := 5) rfl (by (first | omega | (simp only [sf, sq, sd] at *; omega))) ?_)
  rw [hw]
  refine ⟨fun g => R_putsFlow hx (k := 5) rfl (by (first | omega | (simp only [sf, sq, sd] at *; omega))) (R_onMany (n := n) ?_ hn.2 ?_), fun g => h0 g⟩
  · rw [zmU, zup_ne _ _ (by (first | omega | (simp only [sf, sq, sd] at *; omega))), hw]
    exact hn.1
  · rw [zmU, hw]
    exact h1 g _ (sp_on_b (hO.turn (i := i) hi hv) n (Nat.le_refl _)).1
theorem R_do {k : Nat} {p : Int32} {Kf : Int32 → zM → Prop} (hO : OK w n A (9 * (w 7).toInt.toNat) 9999) (hw : zmI M 31 0 = w) (h8 : zmI M 30 0 8 = 0) (hA : A ≤ 299900000) (hp : p.toInt = k) (hk60 : k < 60) (h5 : zmI M 38 0 k = kd) (h6 : zmI M 39 0 k = x) (h7 : zmI M 40 0 k = y) (hk : o_ok n kd x y)
    (hs : ∀ v w', q_do w kd x y = some w' → 0 ≤ v.toInt → Kf v (zsIr M 31 0 w')) (hN : ∀ v, q_do w kd x y = none → v.toInt < 0 → Kf v M) : zCalI l G Y_X9_does 0 0 [vr 30 0, vi p] M Kf := by
  have hn := hO.nf
  have ht := hO.tim
  have ip : vp_in p 64 := ti_in (by omega)
  refine zm_X9_does ⟨ip, ?_⟩
  rw [ti_at hp, h5, h6, h7]
  rcases hk with ⟨e, h1, h2⟩ | ⟨e, h1, h2, h3, h4⟩ | ⟨e, h1, h2, h3, h4⟩ | ⟨e, h1, h2⟩ | ⟨e, h1, h2⟩ | ⟨e, h1, h2⟩ | ⟨e, h1, h2⟩
  · subst e
    refine ⟨fun _ => ⟨ip, ?_⟩, fun d => absurd d (by decide), fun d => absurd d (by decide), fun d => absurd d (by decide), fun d => absurd d (by decide), fun d => absurd d (by decide), fun d => absurd d (by decide), fun d => absurd rfl d.1⟩
    have e2 := nat_of (v := x) (by omega)
    have eq : q_do w 0 x y = if (w 7).toInt + x.toInt ≤ 9999 then some (sp_passes w false x.toInt.toNat) else none := rfl
    rw [eq] at hs hN
    have e9 : (w 7 + x ≤ 9999) ↔ (w 7).toInt + x.toInt ≤ 9999 := by
      rw [ti_le, ti_add (by omega), show (9999 : Int32).toInt = 9999 from rfl]
    refine zm_X9_tickNow ?_
    rw [hw]
    refine ⟨fun d => ?_, fun d => ?_⟩
    · rw [if_pos (e9.mp d)] at hs
      refine R_passes (n := n) (A := A) (S := 9 * (w 7).toInt.toNat) (T := 9999) (plain := false) (by rw [hw]; exact hO) h8 e2 (by omega) (by omega) (by omega) ?_
      rw [hw, zmU]
      have := sp_passes_7 (p := false) hO x.toInt.toNat (by omega) (by omega) (by omega)
      exact hs _ _ rfl (by omega)
    · rw [if_neg fun q => d (e9.mpr q)] at hN
      exact hN _ rfl (by decide)
  · subst e
    refine ⟨fun d => absurd d (by decide), fun _ => ⟨ip, ip, ?_⟩, fun d => absurd d (by decide), fun d => absurd d (by decide), fun d => absurd d (by decide), fun d => absurd d (by decide), fun d => absurd d (by decide), fun d => absurd rfl d.2.1⟩
    have e2 := nat_of (v := y) (by omega)
    have e3 := nat_of (v := x) (by omega)
    have eq : q_do w 1 x y = some (sp_many w false x.toInt.toNat y.toInt.toNat).2 := rfl
    rw [eq] at hs
    have hc := R_many (l := l) (G := G) (Kf := Kf) (M := M) (n := n) (A := A) (S := 9 * (w 7).toInt.toNat) (T := 9999) (i := x.toInt.toNat) (plain := false) (by rw [hw]; exact hO) (by omega) h8 e2 (by omega) (by
      rw [hw]
      exact hs _ _ rfl (sp_many_1 (w := w) (p := false) (i := x.toInt.toNat) y.toInt.toNat (by omega)).1)
    rw [← nI_ofT e3] at hc
    exact hc
  · subst e
    refine ⟨fun d => absurd d (by decide), fun d => absurd d (by decide), fun _ => ⟨ip, ip, ?_⟩, fun d => absurd d (by decide), fun d => absurd d (by decide), fun d => absurd d (by decide), fun d => absurd d (by decide), fun d => absurd rfl d.2.2.1⟩
    have eq : q_do w 2 x y = some (zup (zup w 2 x) 3 y) := rfl
    rw [eq] at hs
    have hmm := hO.mm
    have m1 := hmm.1
    have m2 := hmm.2.1
    have m3 := hmm.2.2
    refine zm_X9_limitsNow ?_
    rw [zsU M 31 0, hw]
    refine hs _ _ rfl ?_
    rw [ti_add (by rw [ti_mul (by rw [show (100 : Int32).toInt = 100 from rfl]; omega), show (100 : Int32).toInt = 100 from rfl]; omega), ti_mul (by rw [show (100 : Int32).toInt = 100 from rfl]; omega), show (100 : Int32).toInt = 100 from rfl]
    omega
  · subst e
    refine ⟨fun d => absurd d (by decide), fun d => absurd d (by decide), fun d => absurd d (by decide), fun _ => ⟨ip, ?_⟩, fun d => absurd d (by decide), fun d => absurd d (by decide), fun d => absurd d (by decide), fun d => absurd rfl d.2.2.2.1⟩
    have eq : q_do w 3 x y = some (zup w 4 x) := rfl
    rw [eq] at hs
    refine zm_X9_setNow ⟨ti_in (by decide), ti_in (by decide), ?_⟩
    have e : zsI M 31 0 (4 : Int32).toNatClampNeg x = zsIr M 31 0 (zup w 4 x) := by
      show zsIr M 31 0 (zup (zmI M 31 0) _ x) = _
      rw [hw]
      rfl
    rw [e, hw]
    exact hs _ _ rfl hO.top.1
  · subst e
    refine ⟨fun d => absurd d (by decide), fun d => absurd d (by decide), fun d => absurd d (by decide), fun d => absurd d (by decide), fun _ => ⟨ip, ?_⟩, fun d => absurd d (by decide), fun d => absurd d (by decide), fun d => absurd rfl d.2.2.2.2.1⟩
    have eq : q_do w 4 x y = some (zup w 5 x) := rfl
    rw [eq] at hs
    refine zm_X9_setNow ⟨ti_in (by decide), ti_in (by decide), ?_⟩
    have e : zsI M 31 0 (5 : Int32).toNatClampNeg x = zsIr M 31 0 (zup w 5 x) := by
      show zsIr M 31 0 (zup (zmI M 31 0) _ x) = _
      rw [hw]
      rfl
    rw [e, hw]
    exact hs _ _ rfl hO.wt.1
  · subst e
    refine ⟨fun d => absurd d (by decide), fun d => absurd d (by decide), fun d => absurd d (by decide), fun d => absurd d (by decide), fun d => absurd d (by decide), fun _ => ⟨ip, ?_⟩, fun d => absurd d (by decide), fun d => absurd rfl d.2.2.2.2.2.1⟩
    have eq : q_do w 5 x y = some (zup w 6 x) := rfl
    rw [eq] at hs
    refine zm_X9_setNow ⟨ti_in (by decide), ti_in (by decide), ?_⟩
    have e : zsI M 31 0 (6 : Int32).toNatClampNeg x = zsIr M 31 0 (zup w 6 x) := by
      show zsIr M 31 0 (zup (zmI M 31 0) _ x) = _
      rw [hw]
      rfl
    rw [e, hw]
    exact hs _ _ rfl (by have := ti_bit hO.gen; show 0 ≤ (w 6).toInt; omega)
  · have e3 := nat_of (v := x) (by omega)
    rcases e with e | e
    · subst e
      refine ⟨fun d => absurd d (by decide), fun d => absurd d (by decide), fun d => absurd d (by decide), fun d => absurd d (by decide), fun d => absurd d (by decide), fun d => absurd d (by decide), fun _ => ⟨ip, ?_⟩, fun d => absurd rfl d.2.2.2.2.2.2⟩
      have eq : q_do w 6 x y = if w (sf x.toInt.toNat 5) = 0 then none else some (zup w (sf x.toInt.toNat 5) 0) := rfl
      rw [eq] at hs hN
      refine R_turn hO hw e3 (by omega) (.inl rfl) (fun g v a1 => ?_) fun g => ?_
      · rw [if_neg g] at hs
        exact hs v _ rfl a1
      · rw [if_pos g] at hN
        exact hN _ rfl (by decide)
    · subst e
      refine ⟨fun d => absurd d (by decide), fun d => absurd d (by decide), fun d => absurd d (by decide), fun d => absurd d (by decide), fun d => absurd d (by decide), fun d => absurd d (by decide), fun d => absurd d (by decide), fun _ => ⟨ip, ?_⟩⟩
      have eq : q_do w 7 x y = if w (sf x.toInt.toNat 5) = 1 then none else some (zup w (sf x.toInt.toNat 5) 1) := rfl
      rw [eq] at hs hN
      refine R_turn hO hw e3 (by omega) (.inr rfl) (fun g v a1 => ?_) fun g => ?_
      · rw [if_neg g] at hs
        exact hs v _ rfl a1
      · rw [if_pos g] at hN
        exact hN _ rfl (by decide)
end
