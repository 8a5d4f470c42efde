/-! SCRIPTS: brackets, the class -/
section
variable {l : Launch} {G : zG} {M M0 Mz : zM} {A : Nat} {b : Nat → Int32} {F : Nat} {S S' : Nat × Int32 × Int32} {w f Q Q0 : Nat → Int32} {t : Int32}
variable {told L : Nat} {sk : List Nat} {o z : Nat → Int32}
theorem y_open_0 {dp : Nat} (h : (y_open b F dp S).2.1 = 0) : S.2.1 = 0 ∧ rd_kd b F S.1 = 4 ∧ dp < 2 := by
  unfold y_open at h
  have h1 := t_exp_0 h
  by_cases c : rd_kd b F S.1 = 4 ∧ 2 ≤ dp
  · rw [if_pos c] at h1
    have h2 := t_fail_0 (by decide) h1
    unfold t_fail at h1
    rw [if_pos h2] at h1
    exact absurd (show (5 : Int32) = 0 from h1) (by decide)
  · rw [if_neg c] at h h1
    unfold t_exp at h
    rw [if_pos h1] at h
    by_cases d : rd_kd b F S.1 = 4
    · exact ⟨h1, d, Nat.not_le.mp fun e => c ⟨d, e⟩⟩
    · rw [if_neg d] at h
      exact absurd (show (1 : Int32) = 0 from h) (by decide)
theorem Tx.y {M' : zM} (h : Tx b F M) (e1 : zmI M' 1 0 = zmI M 1 0) (e2 : zmI M' 2 0 = zmI M 2 0) : Tx b F M' := Tx.mk h.hF (by rw [e1]; exact h.len) (fun j hj => by rw [e2]; exact h.byt j hj)
theorem C_brack {Kf : zM → Prop} (hT : Tx b F M) (hk : TK b F S (zmI M 1 0)) (hf : yFr M0 M) (hY : S.2.1 = 0 → YR told L sk o f z M) (hs : sk.length ≤ 2) (h : ∀ M', Tx b F M' → TK b F (y_open b F sk.length S) (zmI M' 1 0) → yFr M0 M' → ((y_open b F sk.length S).2.1 = 0 → YR told L (L :: sk) o f z M') → Kf M') : zCalV l G Y_X6_openBracket 0 0 [vr 4 0] M Kf := by
  have hkd : zmI M 1 0 2 = nI (rd_kd b F S.1) := hk.kind
  have hlt := rd_kd_lt b F S.1
  -- behind the bracket
  have l27 : ∀ (S1 : Nat × Int32 × Int32) (P : Nat → Int32), TK b F S1 P → t_exp b F 4 S1 = y_open b F sk.length S → zAt l G Y_X6_openBracket (zEV G Y_X6_openBracket Kf) 27 [(0, vr 4 0)] [] (zsIr M 1 0 P) 0 0 := fun S1 P kP e => by
    refine zb_X6_openBracket_27 (C_expT (S := S1) (k := 4) (hT.set kP.len) (by rw [zmU]; exact kP) rfl (by decide) fun P2 k2 => ?_)
    rw [zsI2]
    rw [e] at k2
    have f2 : yFr M0 (zsIr M 1 0 P2) := hf.I (.inl rfl)
    have e9 : zmI (zsIr M 1 0 P2) 4 0 9 = zmI M 4 0 9 := by rw [zmO _ _ _ _ _ _ (by omega)]
    have e7 : zmI (zsIr M 1 0 P2) 4 0 7 = zmI M 4 0 7 := by rw [zmO _ _ _ _ _ _ (by omega)]
    rw [e9, e7]
    have no : ¬ (y_open b F sk.length S).2.1 = 0 → Kf (zsIr M 1 0 P2) := fun n => h _ (hT.set k2.len) (by rw [zmU]; exact k2) f2 fun g => absurd g n
    refine ⟨fun c => no fun g => ?_, fun c => ⟨fun d => no fun g => ?_, fun d => ⟨ti_in ?_, ?_⟩⟩⟩
    · obtain ⟨g0, -, g2⟩ := y_open_0 g
      rw [(hY g0).dep, ti_lt, ti_nI (by omega), ti_0] at c
      omega
    · obtain ⟨g0, -, g2⟩ := y_open_0 g
      rw [(hY g0).dep, ti_le, ti_nI (by omega), show (2 : Int32).toInt = 2 from rfl] at d
      omega
    · rw [ti_lt, ti_0] at c
      rw [ti_le, show (2 : Int32).toInt = 2 from rfl] at d
      omega
    · have e3 : zmI (zsI (zsIr M 1 0 P2) 9 0 (zmI M 4 0 9).toNatClampNeg (zmI M 4 0 7)) 4 0 9 = zmI M 4 0 9 := by rw [zmO _ _ _ _ _ _ (by omega)]; exact e9
      rw [e3]
      refine h _ ?_ ?_ ((f2.I (by omega)).I (by omega)) fun g => ?_
      · exact (hT.set k2.len).y (by rw [zmO _ _ _ _ _ _ (by omega), zmO _ _ _ _ _ _ (by omega)]) (by rw [zmO _ _ _ _ _ _ (by omega), zmO _ _ _ _ _ _ (by omega)])
      · rw [zmO _ _ _ _ _ _ (by omega), zmO _ _ _ _ _ _ (by omega), zmU]; exact k2
      · obtain ⟨g0, -, g2⟩ := y_open_0 g
        have hY0 := hY g0
        have ed : (zmI M 4 0 9).toNatClampNeg = sk.length := ti_at (by rw [hY0.dep, ti_nI (by omega)])
        rw [ed]
        refine YR.mk ?_ ?_ ?_ (fun k hk => ?_) (fun i hi => ?_)
        · rw [zmU, zup_ne _ _ (by omega), zmO _ _ _ _ _ _ (by omega), zmO _ _ _ _ _ _ (by omega)]; exact hY0.len
        · rw [zmU, zup_ne _ _ (by omega), zmO _ _ _ _ _ _ (by omega), zmO _ _ _ _ _ _ (by omega)]; exact hY0.tol
        · rw [zmU, zup_self, hY0.dep]
          exact nI_ofT (ti_inc (ti_nI (by omega)) (by omega))
        · rw [zmO _ _ _ _ _ _ (by omega), zmO _ _ _ _ _ _ (by omega), zmO _ _ _ _ _ _ (by omega), zmO _ _ _ _ _ _ (by omega), zmO _ _ _ _ _ _ (by omega), zmO _ _ _ _ _ _ (by omega), zmO _ _ _ _ _ _ (by omega), zmO _ _ _ _ _ _ (by omega), zmO _ _ _ _ _ _ (by omega)]
          exact hY0.row k hk
        · have hi2 : i < sk.length + 1 := hi
          rw [zmO _ _ _ _ _ _ (by omega), zmU, zmO _ _ _ _ _ _ (by omega)]
          by_cases c : i = sk.length
          · rw [c, zup_self, hY0.len]
            show nI L = nI ((L :: sk).getD (sk.length + 1 - 1 - sk.length) 0)
            rw [show sk.length + 1 - 1 - sk.length = 0 by omega]
            rfl
          · rw [zup_ne _ _ c, hY0.opn i (by omega)]
            show nI (sk.getD (sk.length - 1 - i) 0) = nI ((L :: sk).getD (sk.length + 1 - 1 - i) 0)
            rw [show sk.length + 1 - 1 - i = (sk.length - 1 - i) + 1 by omega]
            rfl
  have self : zsIr M 1 0 (zmI M 1 0) = M := zsI0 M 1 0
  have plain : ¬ (rd_kd b F S.1 = 4 ∧ 2 ≤ sk.length) → zAt l G Y_X6_openBracket (zEV G Y_X6_openBracket Kf) 27 [(0, vr 4 0)] [] M 0 0 := fun n => by
    have := l27 S (zmI M 1 0) hk (by unfold y_open; rw [if_neg n])
    rw [self] at this
    exact this
  have err : ¬ S.2.1 = 0 → zAt l G Y_X6_openBracket (zEV G Y_X6_openBracket Kf) 27 [(0, vr 4 0)] [] M 0 0 := fun n => by
    have := l27 S (zmI M 1 0) hk (by rw [y_open_e n, t_exp_e n])
    rw [self] at this
    exact this
  refine zm_X6_openBracket ⟨fun c => plain fun e => c (by rw [hkd, e.1]; rfl), fun c => ⟨fun d => ?_, fun d => C_failT hk fun P kP => ?_⟩⟩
  · rcases Classical.em (S.2.1 = 0) with g | g
    · refine plain fun e => ?_
      rw [(hY g).dep, ti_lt, ti_nI (by omega), show (2 : Int32).toInt = 2 from rfl] at d
      omega
    · exact err g
  · rcases Classical.em (S.2.1 = 0) with g | g
    · rw [hkd] at c
      have k4 := nI_inj (c := 4) (by omega) (by omega) c
      have h2 : 2 ≤ sk.length := by
        rw [(hY g).dep, ti_lt, ti_nI (by omega), show (2 : Int32).toInt = 2 from rfl] at d
        omega
      refine l27 _ P kP ?_
      unfold y_open
      rw [if_pos ⟨k4, h2⟩]
    · rw [t_fail_e g] at kP
      exact l27 S P kP (by rw [y_open_e g, t_exp_e g])
end
