/-! H ROWS FOR CONSTRUCTORS: rows of references, private constructors -/
section HRC
variable {l : Launch} {G : zG} {Y : zY} {E : zE} {pc : Nat} {lv : List (Nat × Value)} {st : List Value} {H : Heap} {c k : Nat}
theorem H_iast {v n : Nat} {f : Nat → Int32} {x y : Int32} (hb : hA G H v 0 n (.inl f)) (hin : vp_in x n) (ha : zfr G v) (d : decode (zyC Y) pc = .ok (.iastore, 1))
    (h : ∀ H1 : Heap, H1.size = H.size → (∀ q, q ≠ v → H1[q]? = H[q]?) → hA G H1 v 0 n (.inl (upd f x.toNatClampNeg y)) → hAt l G Y E (pc + 1) lv st H1 c k) : hAt l G Y E pc lv (.int y :: .int x :: .ref v :: st) H c k := by
  intro p e s m args below meth cd locs ls C hN hR hlo hl
  refine W.iast C.1 C.2.1 hb (zarrT C (t := 0) (by decide) n (fun j => .int (f j))) (fun q => by cases q) (by show ¬ (x < 0 ∨ (arrV _ _ _).slots.size ≤ _); rw [arrV_size]; exact hin) rfl rfl d fun H1 e1 e2 e3 => ?_
  refine h H1 e2 e3 ?_ p e s m args below meth cd _ ls C hN (hR.put ha.1 e2 e3) (fun q hq => ?_) hl
  · refine e1.trans (congrArg some ?_)
    show (arrV (gA G 0) n fun j => .int (f j)).setSlot _ _ = arrV (gA G 0) n fun j => .int (upd f x.toNatClampNeg y j)
    rw [arrV_store]
    refine congrArg (arrV (gA G 0) n) ?_
    funext j
    unfold updV upd
    split <;> rfl
  · rcases List.mem_append.mp hq with h1 | h1
    · exact hlo q h1
    · rw [List.mem_singleton.mp h1]
      exact ha
/-- a new row of references, all null -/
theorem H_anewa {idx t n : Nat} {Cn : String} {x : Int32} (ht : t < 8) (hty : zty t = .object Cn) (hw : Cond.classLink (zyO Y) idx Cn ∈ zAll) (hst : ∀ U : State, zSt G U → va_AO Cn U) (hn : x.toInt = n) (hb : n ≤ 1000) (hc : c + 1 ≤ E.1.cells) (hk : k + n ≤ E.1.slots) (d : decode (zyC Y) pc = .ok (.anewarray idx, 3))
    (h : ∀ H1 : Heap, H1.size = H.size + 1 → (∀ q, q < H.size → H1[q]? = H[q]?) → hA G H1 H.size t n (.inr (.inr (.inr (.inr (fun _ => none))))) → hAt l G Y E (pc + 3) lv (.ref H.size :: st) H1 (c + 1) (k + n)) : hAt l G Y E pc lv (.int x :: st) H c k := by
  intro p e s m args below meth cd locs ls C hN hR hlo hl
  have e0 : x.toNatClampNeg = n := by show x.toInt.toNat = n; omega
  have hts := C.2.2.2.2.2.1
  refine W.anew C.1 C.2.1 C.2.2.2.2.1 (hts _ hw) (va_AO.use (hst s C.2.2.2.2.2.2.2.1.2.2.2.2.2)) rfl d rfl (by rw [Int32.lt_iff_toInt_lt, hn]; show ¬ (n : Int) < 0; omega) (by rw [e0]; omega) hc (by rw [e0]; exact hk) fun cA kA comp f1 f2 f3 f4 => ?_
  have hA1 : cA = gA G t := by
    have h2 : va_RA s (gA G t) (zty t) := ((zctK C).2 t _ (zTys_at G ht)).2
    rw [hty] at h2
    obtain ⟨kA', comp', g1, g2, g3, g4⟩ := h2
    exact Option.some.inj (f1.symm.trans g4)
  subst hA1
  rw [e0]
  generalize hH1 : H.push ({ cls := gA G t, slots := Array.replicate n .null, vm := .none } : Cell) = H1
  have z1 : H1.size = H.size + 1 := by rw [← hH1, Array.size_push]
  have e1 : H1[H.size]? = some (arrV (gA G t) n (fun _ => .null)) := by rw [← hH1, Array.getElem?_push_size, ← arrV_new]
  have o1 : ∀ q : Nat, q < H.size → H1[q]? = H[q]? := fun q hq => by rw [← hH1, Array.getElem?_push, if_neg (Nat.ne_of_lt hq)]
  exact h H1 z1 o1 e1 p e s m args below meth cd locs ls C hN (hR.grow (by omega) o1) hlo hl
/-- an object of its class goes into a row of references -/
theorem H_aast {v t n a ci : Nat} {Cn : String} {T : u_T} {N : Nat} {f : Nat → Option Nat} {x : Int32} (ht : t < 8) (hty : zty t = .object Cn) (hcl : vwCl[ci]? = some (Cn, T, N)) (hb : hA G H v t n (.inr (.inr (.inr (.inr f))))) (ho : hRc G H a ci) (hin : vp_in x n) (ha : zfr G v) (d : decode (zyC Y) pc = .ok (.aastore, 1))
    (h : ∀ H1 : Heap, H1.size = H.size → (∀ q, q ≠ v → H1[q]? = H[q]?) → hA G H1 v t n (.inr (.inr (.inr (.inr (fun j => if j = x.toNatClampNeg then some a else f j))))) → hAt l G Y E (pc + 1) lv st H1 c k) : hAt l G Y E pc lv (.ref a :: .int x :: .ref v :: st) H c k := by
  intro p e s m args below meth cd locs ls C hN hR hlo hl
  have hlt : x.toNatClampNeg < n := Nat.not_le.mp fun q => hin (Or.inr q)
  have h0 : ¬ x < 0 := fun q => hin (Or.inl q)
  obtain ⟨cellV, g1, g3, g2⟩ := ho
  have hcls := ((zctK C).1 ci _ hcl).2
  have h2 : va_RA s (gA G t) (zty t) := ((zctK C).2 t _ (zTys_at G ht)).2
  rw [hty] at h2
  obtain ⟨kA, comp, k1, k2, k3, -⟩ := h2
  have hcomp : comp = (gD G).1 ci := Option.some.inj (k3.symm.trans hcls.1)
  subst hcomp
  have hcls2 := hcls.2
  obtain ⟨kC, hkC, -⟩ := hcls2
  refine W.aast C.1 C.2.1 hb (fun q h => by cases h) (fun h => by cases h) k1 k2 rfl hkC ⟨h0, by show _ < (arrV _ _ _).slots.size; rw [arrV_size]; exact hlt⟩ g1 (fun q h => by rw [h] at g3; cases g3) (by rw [g2]; exact hkC) (by rw [g2]; exact va_assign hcls) rfl rfl d fun H1 e1 e2 e3 => ?_
  refine h H1 e2 e3 ?_ p e s m args below meth cd _ ls C hN (hR.put ha.1 e2 e3) (fun q hq => ?_) hl
  · refine e1.trans (congrArg some ?_)
    show (arrV (gA G t) n fun j => va_rf (f j)).setSlot _ _ = arrV (gA G t) n fun j => va_rf (if j = x.toNatClampNeg then some a else f j)
    rw [arrV_store]
    refine congrArg (arrV (gA G t) n) ?_
    funext j
    unfold updV
    split <;> rfl
  · rcases List.mem_append.mp hq with h1 | h1
    · exact hlo q h1
    · rw [List.mem_singleton.mp h1]
      exact ha
/-- a private constructor of a nest mate -/
def hLQ (Y : zY) (idx : Nat) (Y' : zY) (n : Nat) : Prop := (zyO Y, idx, zyN Y') ∈ zNests ∧ Cond.instanceMethod (zyN Y') ∈ zAll ∧ Cond.initialized (zyN Y').cls ∈ zAll ∧ Cond.code (zyN Y') (zyC Y') (zyL Y') none ∈ zAll ∧ zyR Y' = none ∧ (zyN Y').name = "<init>" ∧
  ((zyN Y').cls ≠ "java/lang/invoke/MethodHandle" ∧ (zyN Y').cls ≠ "java/lang/invoke/VarHandle" ∧ (parseMethodDescriptor (zyN Y').desc).map (fun d => d.parameters.length) = some n) ∧ zyd Y' + 1 ≤ zyd Y ∧ 8 + (zyL Y' + 11) + 60 * zyd Y' ≤ 60 * zyd Y
theorem H_callQ {Y' : zY} {idx n a mc' ms' : Nat} {as st0 : List Value} {Kf : hK} (hE : zRm Y E.1) (L : hLQ Y idx Y' n) (hn : as.length = n) (hs : st0 = as.reverse ++ .ref a :: st) (hw : (st.map fun v => v.category).sum ≤ 8) (d : decode (zyC Y) pc = .ok (.invokespecial idx, 3)) (hf : c + mc' ≤ E.1.cells ∧ k + ms' ≤ E.1.slots) (h : hCal l G Y' mc' ms' (.ref a :: as) H Kf) (kk : ∀ (r : Option Value) (H1 : Heap), Kf r H1 → hAt l G Y E (pc + 3) lv (r.toList ++ st) H1 (c + mc') (k + ms')) : hAt l G Y E pc lv st0 H c k := by
  intro p e s m args below meth cd locs ls C hN hR hlo hl
  subst hs
  obtain ⟨h1, h2, h3, h4, h5, h6, h7, h8, h9⟩ := L
  have hts := C.2.2.2.2.2.1
  have hNe : zNe s := C.2.2.2.2.2.2.2.1.2.2.2.2.2.2.2.2.1.2.2
  have cw : va_CN E.1 s args (zyO Y) idx (zyN Y') "EarlyDrops" (zyC Y') (zyL Y') none (zws Y') (zRoom (zyd Y') mc' ms') mc' ms' n ∧ (zyN Y').name = "<init>" ∧ (Cond.instanceMethod (zyN Y')).before args s = true := by
    refine ⟨va_cnB (Ts := zAll) n hts (fun w hw => ?_) (by show _ = _ :: _; unfold zws; rw [h5]) rfl rfl (hNe.1 _ h1) (hts _ h3) h7 ⟨Nat.le_trans h8 hE.1, Nat.le_trans h9 hE.2⟩, h6, hts _ h2⟩
    rcases List.mem_cons.mp hw with e1 | e1
    · have hm : w ∈ zAll := by rw [e1, h5]; exact h4
      exact ⟨hm, good_of_word (List.mem_filter.mp hm).2⟩
    · exact ⟨e1, good_of_word (List.mem_filter.mp e1).2⟩
  exact hgo (mc' := mc') (ms' := ms') (va_runIN (As := as) ⟨C.1, C.2.1, C.2.2.2.1, C.2.2.2.2.1, hts⟩ h cw ⟨hPre_blind, fun U hU hW => ⟨rfl, hPre_at C hR hU hW⟩⟩ rfl hn hl.1 rfl (by show 2 * 0 + _ ≤ 8; omega) d hf) C hN hlo hl kk
/-- rows of cells that agree below their length -/
theorem hA.cong {v t n : Nat} {f g : Nat → Option Nat} (h : hA G H v t n (.inr (.inr (.inr (.inr f))))) (e : ∀ j, j < n → f j = g j) : hA G H v t n (.inr (.inr (.inr (.inr g)))) := by
  refine h.trans (congrArg some ?_)
  rw [vp_cell_q, vp_cell_q]
  unfold arrV
  congr 1
  apply Array.ext
  · simp
  · intro i h1 h2
    simp only [Array.size_ofFn] at h1
    simp [e i h1]
end HRC
