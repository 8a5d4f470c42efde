/-! TOKENS: what the text holds from a place on -/
section
variable {l : Launch} {G : zG} {M : zM} {A : Nat} {b : Nat → Int32} {F : Nat}
def rd_k (x : Int32) : Nat := if 97 ≤ x ∧ x ≤ 122 then 1 else if 48 ≤ x ∧ x ≤ 57 then 2 else if x = 59 then 3 else if x = 40 then 4 else if x = 41 then 5 else 6
def rd_kd (b : Nat → Int32) (F i : Nat) : Nat := if F ≤ i then 0 else rd_k (b i)
def rd_sk (b : Nat → Int32) (F : Nat) : Nat → Nat → Nat
  | 0, i => i
  | d + 1, i => if b i = 32 ∨ b i = 10 then rd_sk b F d (i + 1) else i
def rd_sp (b : Nat → Int32) (k : Nat) : Nat → Nat → Nat
  | 0, i => i
  | d + 1, i => if rd_k (b i) = k then rd_sp b k d (i + 1) else i
/-- where the token that begins at a place ends, and where the next one begins -/
def rd_e (b : Nat → Int32) (F s : Nat) : Nat := if F ≤ s then s else if rd_k (b s) = 1 ∨ rd_k (b s) = 2 then rd_sp b (rd_k (b s)) (F - (s + 1)) (s + 1) else s + 1
def rd_n (b : Nat → Int32) (F e : Nat) : Nat := rd_sk b F (F - e) e
theorem rd_k_le (x : Int32) : 1 ≤ rd_k x ∧ rd_k x ≤ 6 := by
  unfold rd_k
  repeat' split
  all_goals exact ⟨by decide, by decide⟩
theorem rd_sk_le (b : Nat → Int32) (F : Nat) : ∀ d i, i ≤ rd_sk b F d i ∧ rd_sk b F d i ≤ i + d := by
  intro d
  induction d with
  | zero => exact fun i => ⟨Nat.le_refl _, Nat.le_refl _⟩
  | succ d ih =>
    intro i
    unfold rd_sk
    split
    · have := ih (i + 1)
      omega
    · omega
theorem rd_sp_le (b : Nat → Int32) (k : Nat) : ∀ d i, i ≤ rd_sp b k d i ∧ rd_sp b k d i ≤ i + d := by
  intro d
  induction d with
  | zero => exact fun i => ⟨Nat.le_refl _, Nat.le_refl _⟩
  | succ d ih =>
    intro i
    unfold rd_sp
    split
    · have := ih (i + 1)
      omega
    · omega
theorem rd_e_le {s : Nat} (hs : s ≤ F) : s ≤ rd_e b F s ∧ rd_e b F s ≤ F ∧ (s < F → s < rd_e b F s) := by
  unfold rd_e
  split
  · omega
  · split
    · have := rd_sp_le b (rd_k (b s)) (F - (s + 1)) (s + 1)
      omega
    · omega
theorem rd_n_le {e : Nat} (he : e ≤ F) : e ≤ rd_n b F e ∧ rd_n b F e ≤ F := by
  have := rd_sk_le b F (F - e) e
  unfold rd_n
  omega
/-- the text and its reader: where the token stands, and the first error -/
def Tx (b : Nat → Int32) (F : Nat) (M : zM) : Prop := (F ≤ 500) ∧ (zmI M 1 0 1 = nI F) ∧ (∀ j, j < F → zmI M 2 0 j = b j)
theorem Tx.hF {b : Nat → Int32} {F : Nat} {M : zM} (h9 : Tx b F M) : F ≤ 500 := h9.1
theorem Tx.len {b : Nat → Int32} {F : Nat} {M : zM} (h9 : Tx b F M) : zmI M 1 0 1 = nI F := h9.2.1
theorem Tx.byt {b : Nat → Int32} {F : Nat} {M : zM} (h9 : Tx b F M) : ∀ j, j < F → zmI M 2 0 j = b j := h9.2.2
theorem Tx.mk {b : Nat → Int32} {F : Nat} {M : zM} (hF : F ≤ 500) (len : zmI M 1 0 1 = nI F) (byt : ∀ j, j < F → zmI M 2 0 j = b j) : Tx b F M := ⟨hF, len, byt⟩
def Tk (b : Nat → Int32) (F s : Nat) (er ea : Int32) (P : Nat → Int32) : Prop := (s ≤ F) ∧ (P 1 = nI F) ∧ (P 2 = nI (rd_kd b F s)) ∧ (P 3 = nI s) ∧ (P 4 = nI (rd_e b F s)) ∧ (P 5 = er) ∧ (P 6 = ea)
theorem Tk.hs {b : Nat → Int32} {F s : Nat} {er ea : Int32} {P : Nat → Int32} (h9 : Tk b F s er ea P) : s ≤ F := h9.1
theorem Tk.len {b : Nat → Int32} {F s : Nat} {er ea : Int32} {P : Nat → Int32} (h9 : Tk b F s er ea P) : P 1 = nI F := h9.2.1
theorem Tk.kind {b : Nat → Int32} {F s : Nat} {er ea : Int32} {P : Nat → Int32} (h9 : Tk b F s er ea P) : P 2 = nI (rd_kd b F s) := h9.2.2.1
theorem Tk.start {b : Nat → Int32} {F s : Nat} {er ea : Int32} {P : Nat → Int32} (h9 : Tk b F s er ea P) : P 3 = nI s := h9.2.2.2.1
theorem Tk.fin {b : Nat → Int32} {F s : Nat} {er ea : Int32} {P : Nat → Int32} (h9 : Tk b F s er ea P) : P 4 = nI (rd_e b F s) := h9.2.2.2.2.1
theorem Tk.err {b : Nat → Int32} {F s : Nat} {er ea : Int32} {P : Nat → Int32} (h9 : Tk b F s er ea P) : P 5 = er := h9.2.2.2.2.2.1
theorem Tk.era {b : Nat → Int32} {F s : Nat} {er ea : Int32} {P : Nat → Int32} (h9 : Tk b F s er ea P) : P 6 = ea := h9.2.2.2.2.2.2
theorem Tk.mk {b : Nat → Int32} {F s : Nat} {er ea : Int32} {P : Nat → Int32} (hs : s ≤ F) (len : P 1 = nI F) (kind : P 2 = nI (rd_kd b F s)) (start : P 3 = nI s) (fin : P 4 = nI (rd_e b F s)) (err : P 5 = er) (era : P 6 = ea) : Tk b F s er ea P := ⟨hs, len, kind, start, fin, err, era⟩
theorem Tx.set {P : Nat → Int32} (h : Tx b F M) (hP : P 1 = nI F) : Tx b F (zsIr M 1 0 P) := by
  refine Tx.mk h.hF ?_ (fun j hj => ?_)
  · show (zsIr M 1 0 P).1 1 0 1 = _
    rw [zsI1]
    exact hP
  · show (zsIr M 1 0 P).1 2 0 j = _
    rw [zsIo _ _ _ _ _ _ (by omega)]
    exact h.byt j hj
theorem C_byteR {i : Nat} {p : Int32} {Kf : Int32 → zM → Prop} (hT : Tx b F M) (hp : p.toInt = i) (hi : i < F) (h : Kf (b i) M) : zCalI l G Y_X4_byteAt 0 0 [vr 1 0, vi p] M Kf := by
  have hF := hT.hF
  refine zm_X4_byteAt ⟨fun c => ?_, fun _ => ⟨fun c => ?_, fun _ => ⟨fun c => ?_, fun _ => ⟨ti_in (by omega), ?_⟩⟩⟩⟩
  · exfalso; rw [ti_lt, ti_0] at c; omega
  · exfalso; rw [hT.len, ti_le, ti_nI (by omega)] at c; omega
  · exfalso; rw [ti_le, show (500 : Int32).toInt = 500 from rfl] at c; omega
  · rw [ti_at hp, hT.byt i hi]; exact h
theorem C_kindR {i : Nat} {p : Int32} {Kf : Int32 → zM → Prop} (hT : Tx b F M) (hp : p.toInt = i) (h : Kf (nI (rd_kd b F i)) M) : zCalI l G Y_X4_kindAt 0 0 [vr 1 0, vi p] M Kf := by
  have hF := hT.hF
  unfold rd_kd at h
  refine zm_X4_kindAt ⟨fun c => ?_, fun _ => ⟨fun c => ?_, fun c => ⟨fun d => ⟨ti_in (by rw [ti_lt, show (500 : Int32).toInt = 500 from rfl] at d; omega), ?_⟩, fun d => ?_⟩⟩⟩
  · exfalso; rw [ti_lt, ti_0] at c; omega
  · rw [hT.len, ti_le, ti_nI (by omega)] at c
    rw [if_pos (by omega)] at h
    exact h
  · rw [hT.len, ti_le, ti_nI (by omega)] at c
    rw [if_neg (by omega)] at h
    rw [ti_at hp, hT.byt i (by omega)]
    unfold rd_k at h
    have k58 : ¬ (97 ≤ b i ∧ b i ≤ 122) → ¬ (48 ≤ b i ∧ b i ≤ 57) → zAt l G Y_X4_kindAt (zEI G Y_X4_kindAt Kf) 58 [(2, vi (b i))] [] M 0 0 := fun c1 c2 => by
      rw [if_neg c1, if_neg c2] at h
      refine zb_X4_kindAt_58 ⟨fun c3 => ⟨fun c4 => ⟨fun c5 => ?_, fun c5 => ?_⟩, fun c4 => ?_⟩, fun c3 => ?_⟩
      · rw [if_neg c3, if_neg c4, if_neg c5] at h; exact h
      · rw [if_neg c3, if_neg c4, if_pos c5] at h; exact h
      · rw [if_neg c3, if_pos c4] at h; exact h
      · rw [if_pos c3] at h; exact h
    have k44 : ¬ (97 ≤ b i ∧ b i ≤ 122) → zAt l G Y_X4_kindAt (zEI G Y_X4_kindAt Kf) 44 [(2, vi (b i))] [] M 0 0 := fun c1 => by
      refine zb_X4_kindAt_44 ⟨fun c2 => k58 c1 (fun g => ?_), fun c2 => ⟨fun c3 => k58 c1 (fun g => ?_), fun c3 => ?_⟩⟩
      · rw [ti_lt] at c2; rw [ti_le] at g; omega
      · rw [ti_lt] at c3; rw [ti_le, ti_le] at g; omega
      · rw [if_neg c1, if_pos (by rw [ti_lt] at c2 c3; rw [ti_le, ti_le]; omega)] at h
        exact h
    refine ⟨fun c2 => k44 (fun g => ?_), fun c2 => ⟨fun c3 => k44 (fun g => ?_), fun c3 => ?_⟩⟩
    · rw [ti_lt] at c2; rw [ti_le] at g; omega
    · rw [ti_lt] at c3; rw [ti_le, ti_le] at g; omega
    · rw [if_pos (by rw [ti_lt] at c2 c3; rw [ti_le, ti_le]; omega)] at h
      exact h
  · exfalso
    rw [hT.len, ti_le, ti_nI (by omega)] at c
    rw [ti_lt, show (500 : Int32).toInt = 500 from rfl] at d
    omega
theorem nI_inj {a c : Nat} (ha : a < 2147483648) (hc : c < 2147483648) (h : nI a = nI c) : a = c := by
  rw [ti_eq, ti_nI ha, ti_nI hc] at h
  omega
theorem rd_kd_lt (b : Nat → Int32) (F i : Nat) : rd_kd b F i ≤ 6 := by
  unfold rd_kd
  split
  · omega
  · exact (rd_k_le _).2
/-- the reader goes on -/
theorem C_adv {s : Nat} {er ea : Int32} {Kf : zM → Prop} (hT : Tx b F M) (hk : zmI M 1 0 4 = nI s) (hs : s ≤ F) (he : zmI M 1 0 5 = er) (ha : zmI M 1 0 6 = ea) (h : ∀ P, Tk b F (rd_n b F s) er ea P → Kf (zsIr M 1 0 P)) : zCalV l G Y_X4_advance 0 0 [vr 1 0] M Kf := by
  have hF := hT.hF
  have hlen := hT.len
  have l30 : ∀ i : Nat, i ≤ F → i = rd_n b F s → ∀ y : Int32, y.toInt = i → zAt l G Y_X4_advance (zEV G Y_X4_advance Kf) 30 [(0, vr 1 0), (1, vi y)] [] M 0 0 := by
    intro i hi hn y hy
    have hy2 : y = nI i := nI_ofT hy
    have hT1 : Tx b F (zsI M 1 0 3 y) := hT.set (by rw [zup_ne _ _ (by omega)]; exact hlen)
    refine zb_X4_advance_30 (C_kindR hT1 hy ?_)
    have e2 : zsI (zsI M 1 0 3 y) 1 0 2 (nI (rd_kd b F i)) = zsIr M 1 0 (zup (zup (zmI M 1 0) 3 y) 2 (nI (rd_kd b F i))) := by
      show zsIr (zsIr M 1 0 _) 1 0 (zup ((zsIr M 1 0 _).1 1 0) 2 _) = _
      rw [zsI1, zsI2]
    have key : ∀ (e : Nat), e = rd_e b F i → Kf (zsI (zsI (zsI M 1 0 3 y) 1 0 2 (nI (rd_kd b F i))) 1 0 4 (nI e)) := by
      intro e hee
      rw [e2]
      show Kf (zsIr (zsIr M 1 0 _) 1 0 (zup ((zsIr M 1 0 _).1 1 0) 4 _))
      rw [zsI1, zsI2]
      refine h _ ?_
      rw [← hn]
      refine Tk.mk hi ?_ ?_ ?_ ?_ ?_ ?_
      · rw [zup_ne _ _ (by omega), zup_ne _ _ (by omega), zup_ne _ _ (by omega)]; exact hlen
      · rw [zup_ne _ _ (by omega), zup_self]
      · rw [zup_ne _ _ (by omega), zup_ne _ _ (by omega), zup_self, hy2]
      · rw [zup_self, hee]
      · rw [zup_ne _ _ (by omega), zup_ne _ _ (by omega), zup_ne _ _ (by omega)]; exact he
      · rw [zup_ne _ _ (by omega), zup_ne _ _ (by omega), zup_ne _ _ (by omega)]; exact ha
    have l1 : ∀ v, zmI (zsI (zsI M 1 0 3 y) 1 0 2 v) 1 0 1 = zmI M 1 0 1 ∧ zmI (zsI (zsI M 1 0 3 y) 1 0 2 v) 1 0 2 = v := fun v => by
      constructor
      · show (zsIr (zsIr M 1 0 (zup (zmI M 1 0) 3 y)) 1 0 _).1 1 0 1 = _
        rw [zsI1, zup_ne _ _ (by omega)]
        show (zsIr M 1 0 (zup (zmI M 1 0) 3 y)).1 1 0 1 = _
        rw [zsI1, zup_ne _ _ (by omega)]
      · show (zsIr (zsIr M 1 0 (zup (zmI M 1 0) 3 y)) 1 0 _).1 1 0 2 = _
        rw [zsI1, zup_self]
    have hT2 : Tx b F (zsI (zsI M 1 0 3 y) 1 0 2 (nI (rd_kd b F i))) := hT1.set (by rw [zup_ne _ _ (by omega)]; exact hT1.len)
    have l55 : ∀ d j : Nat, j + d = F → i < F → i < j → (rd_k (b i) = 1 ∨ rd_k (b i) = 2 → rd_sp b (rd_k (b i)) d j = rd_e b F i) → (¬ (rd_k (b i) = 1 ∨ rd_k (b i) = 2) → j = rd_e b F i) → ∀ z : Int32, z.toInt = j → zAt l G Y_X4_advance (zEV G Y_X4_advance Kf) 55 [(0, vr 1 0), (1, vi z)] [] (zsI (zsI M 1 0 3 y) 1 0 2 (nI (rd_kd b F i))) 0 0 := by
      intro d
      induction d with
      | zero =>
        intro j hj hiF hij q1 q2 z hz
        have hz2 : z = nI j := nI_ofT hz
        refine zb_X4_advance_55 ⟨fun _ => ?_, fun c => ?_⟩
        · rw [hz2]
          refine key j ?_
          by_cases g : rd_k (b i) = 1 ∨ rd_k (b i) = 2
          · exact q1 g
          · exact q2 g
        · exfalso
          rw [(l1 _).1, hlen, ti_le, ti_nI (by omega)] at c
          omega
      | succ d ih =>
        intro j hj hiF hij q1 q2 z hz
        have hz2 : z = nI j := nI_ofT hz
        have hkd : rd_kd b F i = rd_k (b i) := by unfold rd_kd; rw [if_neg (by omega)]
        have hkj : rd_kd b F j = rd_k (b j) := by unfold rd_kd; rw [if_neg (by omega)]
        have hki := rd_k_le (b i)
        have hkj2 := rd_k_le (b j)
        have l79 : rd_k (b i) = 1 ∨ rd_k (b i) = 2 → zAt l G Y_X4_advance (zEV G Y_X4_advance Kf) 79 [(0, vr 1 0), (1, vi z)] [] (zsI (zsI M 1 0 3 y) 1 0 2 (nI (rd_kd b F i))) 0 0 := fun g => by
          have q := q1 g
          unfold rd_sp at q
          refine zb_X4_advance_79 (C_kindR hT2 hz ⟨fun c => ?_, fun c => ?_⟩)
          · rw [(l1 _).2, hkd, hkj] at c
            rw [if_neg (fun e => c (by rw [e]))] at q
            rw [hz2]
            exact key j q
          · rw [(l1 _).2, hkd, hkj] at c
            have c2 := nI_inj (by omega) (by omega) c
            rw [if_pos c2] at q
            exact ih (j + 1) (by omega) hiF (by omega) (fun _ => q) (fun n => absurd g n) (z + 1) (ti_inc hz (by omega))
        refine zb_X4_advance_55 ⟨fun c => ?_, fun _ => ⟨fun c => ?_, fun c => ⟨fun c2 => ?_, fun c2 => ?_⟩⟩⟩
        · exfalso
          rw [(l1 _).1, hlen, ti_le, ti_nI (by omega)] at c
          omega
        · rw [(l1 _).2, hkd] at c
          exact l79 (.inl (nI_inj (c := 1) (by omega) (by omega) c))
        · rw [(l1 _).2, hkd] at c c2
          rw [hz2]
          refine key j (q2 fun g => ?_)
          rcases g with g | g
          · exact c (by rw [g]; rfl)
          · exact c2 (by rw [g]; rfl)
        · rw [(l1 _).2, hkd] at c2
          exact l79 (.inr (nI_inj (c := 2) (by omega) (by omega) c2))
    refine ⟨fun c => ?_, fun c => ?_⟩
    · rw [(l1 _).1, hlen, ti_le, ti_nI (by omega)] at c
      refine zb_X4_advance_55 ⟨fun _ => ?_, fun c2 => ?_⟩
      · rw [hy2]
        refine hy2 ▸ key i ?_
        unfold rd_e
        rw [if_pos (by omega)]
      · exfalso
        rw [(l1 _).1, hlen, ti_le, ti_nI (by omega)] at c2
        omega
    · rw [(l1 _).1, hlen, ti_le, ti_nI (by omega)] at c
      refine l55 (F - (i + 1)) (i + 1) (by omega) (by omega) (by omega) (fun g => ?_) (fun g => ?_) (y + 1) (ti_inc hy (by omega))
      · unfold rd_e
        rw [if_neg (by omega), if_pos g]
      · unfold rd_e
        rw [if_neg (by omega), if_neg g]
  have l5 : ∀ d i : Nat, i + d = F → rd_sk b F d i = rd_n b F s → ∀ y : Int32, y.toInt = i → zAt l G Y_X4_advance (zEV G Y_X4_advance Kf) 5 [(0, vr 1 0), (1, vi y)] [] M 0 0 := by
    intro d
    induction d with
    | zero =>
      intro i hi hn y hy
      refine zb_X4_advance_5 ⟨fun _ => l30 i (by omega) hn y hy, fun c => ?_⟩
      exfalso
      rw [hlen, ti_le, ti_nI (by omega)] at c
      omega
    | succ d ih =>
      intro i hi hn y hy
      unfold rd_sk at hn
      refine zb_X4_advance_5 ⟨fun c => ?_, fun _ => C_byteR hT hy (by omega) (zm_X4_isBlank ?_)⟩
      · exfalso
        rw [hlen, ti_le, ti_nI (by omega)] at c
        omega
      · have go : b i = 32 ∨ b i = 10 → zAt l G Y_X4_advance (zEV G Y_X4_advance Kf) 5 [(0, vr 1 0), (1, vi (y + 1))] [] M 0 0 := fun g => by
          rw [if_pos g] at hn
          exact ih (i + 1) (by omega) hn (y + 1) (ti_inc hy (by omega))
        refine ⟨fun g => ⟨fun d => absurd d (by decide), fun _ => go (.inl g)⟩, fun g => ⟨fun g2 => ⟨fun _ => ?_, fun d => absurd rfl d⟩, fun g2 => ⟨fun d => absurd d (by decide), fun _ => go (.inr g2)⟩⟩⟩
        rw [if_neg (fun e => e.elim g g2)] at hn
        exact l30 i (by omega) hn y hy
  refine zm_X4_advance ?_
  exact l5 (F - s) s (by omega) rfl _ (by rw [hk, ti_nI (by omega)])
end
