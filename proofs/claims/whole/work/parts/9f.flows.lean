/-! SETUPS: flows, the class -/
section
variable {l : Launch} {G : zG} {M M0 : zM} {A : Nat} {b : Nat → Int32} {F : Nat} {S S' : Nat × Int32 × Int32} {w : Nat → Int32} {t : Int32}
noncomputable def pif {α : Type} (p : Prop) (a c : α) : α := @ite α p (Classical.propDecidable p) a c
theorem pif_pos {α : Type} {p : Prop} {a c : α} (h : p) : pif p a c = a := if_pos h
theorem pif_neg {α : Type} {p : Prop} {a c : α} (h : ¬ p) : pif p a c = c := if_neg h
/-- the letters of the token -/
def rd_tx (b : Nat → Int32) (s : Nat) (n : Nat) : List Nat := (List.range n).map (fun i => (b (s + i)).toInt.toNat)
theorem rd_tx_len (b : Nat → Int32) (s n : Nat) : (rd_tx b s n).length = n := by unfold rd_tx; rw [List.length_map, List.length_range]
theorem rd_tx_get {b : Nat → Int32} {s n j : Nat} (h : j < n) : (rd_tx b s n).getD j 0 = (b (s + j)).toInt.toNat := by
  unfold rd_tx
  rw [List.getD_eq_getElem?_getD, List.getElem?_map, List.getElem?_range h]
  rfl
/-- what the class's word() owes -/
def WordC (l : Launch) (G : zG) : Prop := ∀ (b : Nat → Int32) (F s : Nat) (er ea : Int32) (M : zM) (Kf : Nat → zM → Prop), Tx b F M → Tk b F s er ea (zmI M 1 0) → (∀ j, j < F → 1 ≤ (b j).toInt ∧ (b j).toInt ≤ 255) → (rd_e b F s - s ≤ 8 → ∀ a, zmT M a = none → Kf a (zsT M (fun q => if q = a then some (rd_tx b s (rd_e b F s - s)) else zmT M q))) → (8 < rd_e b F s - s → ∀ a, zmT M a = some [] → Kf a M) → zCalA l G Y_X4_word 3 20 [vr 1 0] M Kf
def FillC (l : Launch) (G : zG) : Prop := ∀ (i : Nat) (M : zM) (Kf : zM → Prop), i < 78 → Kf (zsLr M 18 i (fun k => if k < 8 then 0 else zmL M 18 i k)) → zCalV l G Y_J7_fill_d0a16 0 0 [vr 18 i, vl 0] M Kf
theorem C_named {r n : Nat} {s : Nat} {er ea : Int32} {Kf : Int32 → zM → Prop} {nm : Nat → List Nat} (hT : Tx b F M) (hk : Tk b F s er ea (zmI M 1 0)) (hn : (zmI M 15 r 12).toInt = n) (h6 : n ≤ 6) (hm : ∀ i, i < n → zmT M (zmN M 17 (6 * r + i) 0) = some (nm i) ∧ (nm i).length ≤ 8)
    (h1 : ∀ (i : Nat) (x : Int32), x.toInt = i → i < n → rd_is b F s (nm i) → (∀ j, j < i → ¬ rd_is b F s (nm j)) → Kf x M) (h0 : (∀ j, j < n → ¬ rd_is b F s (nm j)) → Kf (-1) M) : zCalI l G Y_X4_flowNamed 0 0 [vr 1 0, vr 15 r] M Kf := by
  have key : ∀ d j : Nat, j + d = n → (∀ i, i < j → ¬ rd_is b F s (nm i)) → ∀ y : Int32, y.toInt = j → zAt l G Y_X4_flowNamed (zEI G Y_X4_flowNamed Kf) 2 [(0, vr 1 0), (1, vr 15 r), (2, vi y)] [] M 0 0 := by
    intro d
    induction d with
    | zero =>
      intro j hj hq y hy
      refine zb_X4_flowNamed_2 ⟨fun _ => h0 fun i hi => hq i (by omega), fun c => ?_⟩
      exfalso
      rw [ti_le] at c
      omega
    | succ d ih =>
      intro j hj hq y hy
      obtain ⟨m1, m2⟩ := hm j (by omega)
      refine zb_X4_flowNamed_2 ⟨fun c => ?_, fun _ => ⟨fun c => ?_, fun _ => ⟨ti_in (by omega), C_isW hT hk (by rw [ti_at hy]; exact m1) (fun g => ⟨fun e => absurd e (by decide), fun _ => h1 j y hy (by omega) g hq⟩) (fun g => ⟨fun _ => ih (j + 1) (by omega) (fun i hi => ?_) (y + 1) (ti_inc hy (by omega)), fun e => absurd rfl e⟩) (by omega)⟩⟩⟩
      · exfalso
        rw [ti_le] at c
        omega
      · exfalso
        rw [ti_le, show (6 : Int32).toInt = 6 from rfl] at c
        omega
      · rcases Nat.lt_or_ge i j with f | f
        · exact hq i f
        · rw [show i = j by omega]; exact g
  exact zm_X4_flowNamed (key n 0 (by omega) (fun i hi => absurd hi (by omega)) 0 rfl)
def rd_nm (b : Nat → Int32) (F : Nat) (w : Nat → Int32) (s i : Nat) : Prop := (w (sf i 9)).toInt = ((rd_e b F s - s : Nat) : Int) ∧ ∀ k, k < rd_e b F s - s → w (sf i (10 + k)) = b (s + k)
def rd_has (b : Nat → Int32) (F : Nat) (w : Nat → Int32) (s : Nat) : Prop := ∃ i : Nat, (i : Int) < (w 11).toInt ∧ rd_nm b F w s i
/-- a name of the class's is the row's -/
theorem RN.is {tt : List Nat} {s i : Nat} (h : RN (some tt) w i) (hw : WS w) (hi : (i : Int) < (w 11).toInt) (hk : rd_kd b F s = 1) : rd_is b F s tt ↔ rd_nm b F w s i := by
  obtain ⟨s1, h1, h2, h3⟩ := h
  have e1 : tt = s1 := by injection h1
  obtain ⟨l1, l2, l3⟩ := hw.lt i hi
  subst e1
  have el : ∀ j : Nat, j < tt.length → nI (tt.getD j 0) = w (sf i (10 + j)) := fun j hj => by
    rw [h3 j hj]
    have := l3 j (by omega)
    exact (nI_ofT (Int.toNat_of_nonneg (by omega)).symm).symm
  constructor
  · intro g
    refine ⟨by rw [g.2.1, h2]; omega, fun k hk2 => ?_⟩
    rw [← el k (by rw [← g.2.1]; exact hk2)]
    exact (g.2.2 k (by rw [← g.2.1]; exact hk2)).symm
  · intro g
    have e2 : rd_e b F s - s = tt.length := by rw [h2, g.1]; rfl
    exact ⟨hk, e2, fun k hk2 => by rw [el k hk2]; exact (g.2 k (by omega)).symm⟩
/-- the name of a new flow -/
noncomputable def s_name (b : Nat → Int32) (F : Nat) (w : Nat → Int32) (S : Nat × Int32 × Int32) : Nat × Int32 × Int32 := pif (rd_kd b F S.1 = 1 ∧ rd_e b F S.1 - S.1 ≤ 8) (pif (rd_has b F w S.1) (t_fail 3 S) S) (t_fail 1 S)
theorem KS.newT {f : Nat → Option (List Nat)} (h : KS b F M0 S w t M) (hf : ∀ a tt, zmT M a = some tt → f a = some tt) : KS b F M0 S w t (zsT M f) := by
  refine KS.mk (Tx.mk h.tx.hF h.tx.len h.tx.byt) h.tk ⟨h.fr.1, h.fr.2.1, h.fr.2.2.1, h.fr.2.2.2.1, fun a tt q => hf a tt (h.fr.2.2.2.2.1 a tt q), h.fr.2.2.2.2.2⟩ h.fc (fun i hi => ?_) (fun g => ?_)
  · obtain ⟨s, q1, q2⟩ := h.nm i hi
    exact ⟨s, hf _ _ q1, q2⟩
  · have hc := h.fc
    rw [← h.w11 g] at hc
    exact ⟨(h.ok g).1.kept hc.2 (fun _ _ _ => rfl) (fun _ _ _ => rfl) (fun _ _ _ => rfl) (fun a tt q => hf a tt q), (h.ok g).2⟩
theorem K_name {Kf : Nat → zM → Prop} (hW : WordC l G) (h : KS b F M0 S w t M) (hw : S.2.1 = 0 → WS w) (hb : ∀ j, j < F → 1 ≤ (b j).toInt ∧ (b j).toInt ≤ 255)
    (hK : ∀ (a : Nat) (M' : zM) (tt : List Nat), KS b F M0 (s_name b F w S) w t M' → zmT M' a = some tt → tt.length ≤ 8 → (rd_e b F S.1 - S.1 ≤ 8 → tt = rd_tx b S.1 (rd_e b F S.1 - S.1)) → zmI M' 15 0 = zmI M 15 0 → Kf a M') : zCalA l G Y_X7_newName 3 20 [vr 3 0] M Kf := by
  -- the word, at whatever the state is by then
  have l44 : ∀ (P : Nat → Int32), KS b F M0 (s_name b F w S) w t (zsIr M 1 0 P) → zAt l G Y_X7_newName (zEM G Y_X7_newName 3 20 (zKA Kf, none)) 44 [(0, vr 3 0)] [] (zsIr M 1 0 P) 0 0 := by
    intro P k1
    have es : (s_name b F w S).1 = S.1 := by
      unfold s_name pif t_fail
      repeat' split
      all_goals rfl
    have tk := k1.tk
    refine zb_X7_newName_44 ⟨3, 20, by omega, by omega, hW b F _ _ _ _ _ k1.tx tk hb (fun h8 a ha => ⟨by omega, by omega, ?_⟩) (fun h8 a ha => ⟨by omega, by omega, ?_⟩)⟩
    · rw [es] at h8 ⊢
      refine hK a _ (rd_tx b S.1 (rd_e b F S.1 - S.1)) (k1.newT fun a' tt' q => ?_) ?_ (by rw [rd_tx_len]; exact h8) (fun _ => rfl) (show zmI (zsIr M 1 0 P) 15 0 = _ from zmO _ _ _ _ _ _ (by omega))
      · show (if a' = a then _ else zmT (zsIr M 1 0 P) a') = _
        rw [if_neg ?_]
        · exact q
        · intro e
          rw [e, ha] at q
          cases q
      · exact if_pos rfl
    · rw [es] at h8
      exact hK a _ [] k1 ha (by decide) (fun g => absurd g (by omega)) (zmO _ _ _ _ _ _ (by omega))
  have self : KS b F M0 S w t (zsIr M 1 0 (zmI M 1 0)) := by rw [show zsIr M 1 0 (zmI M 1 0) = M from zsI0 M 1 0]; exact h
  refine zm_X7_newName ⟨by omega, by omega, C_isN h.tx h.tk (fun k1 k8 => ⟨fun _ => ⟨by omega, by omega, ?_⟩, fun e => absurd e (by decide)⟩) (fun nk => ⟨fun e => absurd rfl e, fun _ => ⟨by omega, by omega, K_fail h (by decide) fun P kP => l44 P ?_⟩⟩)⟩
  · -- the names that there are
    have hx : ∃ nm : Nat → List Nat, ∀ i : Nat, i < (zmI M 15 0 12).toInt.toNat → zmT M (zmN M 17 (6 * 0 + i) 0) = some (nm i) ∧ (nm i).length ≤ 8 := by
      refine ⟨fun i => (zmT M (zmN M 17 (6 * 0 + i) 0)).getD [], fun i hi => ?_⟩
      obtain ⟨s, q1, q2⟩ := h.nm i (by omega)
      have e : zmT M (zmN M 17 (6 * 0 + i) 0) = some s := by
        rw [show 6 * 0 + i = i by omega]
        exact q1
      constructor
      · show _ = some ((zmT M (zmN M 17 (6 * 0 + i) 0)).getD [])
        rw [e]
        rfl
      · show ((zmT M (zmN M 17 (6 * 0 + i) 0)).getD []).length ≤ 8
        rw [e]
        exact q2
    obtain ⟨nm, hnm⟩ := hx
    have hfc := h.fc
    have hn : (zmI M 15 0 12).toInt = ((zmI M 15 0 12).toInt.toNat : Nat) := by omega
    have e30 : s_name b F w S = pif (rd_has b F w S.1) (t_fail 3 S) S := pif_pos ⟨k1, k8⟩
    refine C_named h.tx h.tk hn (by omega) hnm (fun i x hx hi g hall => ⟨fun e => ?_, fun _ => ⟨by omega, by omega, K_fail h (by decide) fun P kP => l44 P ?_⟩⟩) (fun hall => ⟨fun _ => ?_, fun e => absurd rfl e⟩)
    · exfalso
      rw [ti_eq, hx, ti_n1] at e
      omega
    · rw [e30]
      rcases Classical.em (S.2.1 = 0) with g0 | g0
      · have hw0 := hw g0
        have w11 := h.w11 g0
        have rn := ((h.ok g0).1.2.1 i (by rw [w11]; omega)).2.2
        rw [(hnm i hi).1] at rn
        rw [pif_pos ⟨i, by rw [w11]; omega, (rn.is hw0 (by rw [w11]; omega) k1).mp g⟩]
        exact kP
      · have e3 : t_fail 3 S = S := by unfold t_fail; rw [if_neg g0]
        rw [e3] at kP ⊢
        have : pif (rd_has b F w S.1) S S = S := by unfold pif; split <;> rfl
        rw [this]
        exact kP
    · have go : KS b F M0 (s_name b F w S) w t (zsIr M 1 0 (zmI M 1 0)) := by
        rw [e30]
        rcases Classical.em (S.2.1 = 0) with g0 | g0
        · have hw0 := hw g0
          have w11 := h.w11 g0
          rw [pif_neg ?_]
          · exact self
          · intro ⟨i, hi, q⟩
            rw [w11] at hi
            have rn := ((h.ok g0).1.2.1 i (by rw [w11]; exact hi)).2.2
            rw [(hnm i (by omega)).1] at rn
            exact hall i (by omega) ((rn.is hw0 (by rw [w11]; exact hi) k1).mpr q)
        · have e3 : t_fail 3 S = S := by unfold t_fail; rw [if_neg g0]
          rw [e3]
          have : pif (rd_has b F w S.1) S S = S := by unfold pif; split <;> rfl
          rw [this]
          exact self
      have := l44 _ go
      rw [show zsIr M 1 0 (zmI M 1 0) = M from zsI0 M 1 0] at this
      exact this
  · unfold s_name
    rw [pif_neg nk]
    exact kP
end
