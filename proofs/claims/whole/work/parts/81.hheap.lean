/-! H: the heap, calls, ends -/
def hFL (own : String) (idx ci j : Nat) : Prop := ∃ (C : String) (T : u_T) (N : Nat), vwCl[ci]? = some (C, T, N) ∧ j < N ∧ Cond.fieldLink own idx (T j).1 (T j).2.1 (T j).2.2.1 ∈ zAll ∧ ∀ w ∈ u_ws C T N, w ∈ zAll
def hFP (own : String) (idx ci j : Nat) (fin : Bool) (ty : FieldType) : Prop := ∃ (C : String) (T : u_T) (N : Nat) (ty0 : Nat → FieldType), (vwCl[ci]? = some (C, T, N) ∧ j < N ∧ Cond.fieldLink own idx (T j).1 (T j).2.1 (T j).2.2.1 ∈ zAll ∧ ∀ w ∈ u_ws C T N, w ∈ zAll) ∧ (∀ k, k < N → parseFieldDescriptor (T k).2.2.1 = some (ty0 k)) ∧ (∀ a, a < N → ∀ b, b < N → a ≠ b → (T a).2.1 ≠ (T b).2.1) ∧ (T j).2.2.2 = fin ∧ parseFieldDescriptor (T j).2.2.1 = some ty ∧ (fin = true → (T j).1 = own)
/-- an object's class; one field of it; all of its fields -/
def hRc (G : zG) (H : Heap) (a ci : Nat) : Prop := ∃ cell : Cell, H[a]? = some cell ∧ cell.vm.isStatics = false ∧ cell.cls = (gD G).1 ci
def hF (G : zG) (H : Heap) (a ci j : Nat) (v : Value) : Prop := ∃ cell : Cell, H[a]? = some cell ∧ cell.vm ≠ .unknown ∧ cell.cls = (gD G).1 ci ∧ cell.slots[(gD G).2 ci j]? = some v
def hO (G : zG) (H : Heap) (a ci : Nat) (V : Nat → Value) : Prop := ∃ r : vw_C, vwCl[ci]? = some r ∧ t_OB a ((gD G).1 ci) r.2.2 ((gD G).2 ci) H V
theorem hO.rc {G : zG} {H : Heap} {a ci : Nat} {V : Nat → Value} (h : hO G H a ci V) : hRc G H a ci := by
  obtain ⟨r, -, cell, q1, q2, q3, -⟩ := h
  exact ⟨cell, q1, by rw [q3]; rfl, q2⟩
theorem hO.kept {G : zG} {H H1 : Heap} {a ci : Nat} {V : Nat → Value} (h : hO G H a ci V) (e : H1[a]? = H[a]?) : hO G H1 a ci V := by
  obtain ⟨r, h1, h2⟩ := h
  exact ⟨r, h1, h2.kept e⟩
theorem hO.to {G : zG} {H : Heap} {a ci : Nat} {V V' : Nat → Value} (h : hO G H a ci V) (e : ∀ k, V k = V' k) : hO G H a ci V' := by
  obtain ⟨r, h1, h2⟩ := h
  exact ⟨r, h1, h2.to fun k _ => e k⟩
theorem hO.lt {G : zG} {H : Heap} {a ci : Nat} {V : Nat → Value} (h : hO G H a ci V) : a < H.size := by
  obtain ⟨r, -, cell, q1, -⟩ := h
  exact (Array.getElem?_eq_some_iff.mp q1).1
/-- a row of bytes whose class is one of the rows of bytes; an array of ours -/
def hB (G : zG) (H : Heap) (v n : Nat) (f : Nat → Int32) : Prop := ∃ cell : Cell, H[v]? = some cell ∧ cell.vm ≠ .unknown ∧ cell.vm.isStatics = false ∧ gy G cell.cls ∧ cell.slots.size = n ∧ ∀ j : Nat, j < n → cell.slots[j]? = some (.int (f j))
abbrev hA (G : zG) (H : Heap) (v t n : Nat) (x : ((Nat → Int32) ⊕ (Nat → Int64) ⊕ (Nat → UInt32) ⊕ (Nat → UInt64) ⊕ (Nat → Option Nat))) : Prop := H[v]? = some (vp_cell (gA G t) (n, x))
theorem hA.lt {G : zG} {H : Heap} {v t n : Nat} {x : ((Nat → Int32) ⊕ (Nat → Int64) ⊕ (Nat → UInt32) ⊕ (Nat → UInt64) ⊕ (Nat → Option Nat))} (h : hA G H v t n x) : v < H.size := (Array.getElem?_eq_some_iff.mp h).1
theorem hBase.put {G : zG} {H H1 : Heap} {a : Nat} (h : hBase G H) (ha : gz G ≤ a) (z : H1.size = H.size) (o : ∀ q, q ≠ a → H1[q]? = H[q]?) : hBase G H1 :=
  ⟨fun q hq => (o q (by omega)).trans (h.1 q hq), by rw [z]; exact h.2⟩
theorem hBase.grow {G : zG} {H H1 : Heap} (h : hBase G H) (z : H.size ≤ H1.size) (o : ∀ q, q < H.size → H1[q]? = H[q]?) : hBase G H1 :=
  ⟨fun q hq => (o q (Nat.lt_of_lt_of_le hq h.2.1)).trans (h.1 q hq), Nat.le_trans h.2.1 z, Nat.lt_of_lt_of_le h.2.2.1 z, Nat.lt_of_lt_of_le h.2.2.2 z⟩
theorem hByt {G : zG} {Y : zY} {p : Program} {s : State} {m : MethodId} {args : Array Value} {meth : Method} {cd : Code} (C : zCtx G Y p s m args meth cd) {cell : Cell} (h1 : cell.vm.isStatics = false) (h2 : gy G cell.cls) : s.isArrayOf cell .byte := by
  obtain ⟨k, comp, e1, e2⟩ := C.2.2.2.2.2.2.2.1.2.2.1 _ h2
  exact ⟨(fun z h => by rw [h] at h1; cases h1), k, e1, comp, e2⟩
section HH
variable {l : Launch} {G : zG} {Y : zY} {E : zE} {pc : Nat} {lv : List (Nat × Value)} {st : List Value} {H : Heap} {c k : Nat}
theorem H_get {idx a ci j : Nat} {v : Value} (F : hFL (zyO Y) idx ci j) (hv : hF G H a ci j v) (d : decode (zyC Y) pc = .ok (.getfield idx, 3)) (h : hAt l G Y E (pc + 3) lv (v :: st) H c k) : hAt l G Y E pc lv (.ref a :: st) H c k := by
  intro p e s m args below meth cd locs ls C hN hR hlo hl
  obtain ⟨Cn, T, N, hc, hj, hw, hin⟩ := F
  obtain ⟨cell, q1, q2, q3, q4⟩ := hv
  obtain ⟨hS, hfc, kC, hkC, hkind⟩ := (zctK C).1 ci _ hc
  obtain ⟨cf, kf, fi, fl, hfi, hsl⟩ := hS j hj
  exact W.getf C.1 C.2.1 C.2.2.2.2.1 (C.2.2.2.2.2.1 _ hw) hfi (u_facts hfc hkC (u_lays C.2.2.2.2.2.1 hin hj) hfi).1 q1 q2 (v := v) (by rw [hsl]; exact q4) rfl rfl d (h p e s m args below meth cd locs ls C hN hR hlo hl)
theorem H_getO {idx a ci j : Nat} {V : Nat → Value} (F : hFL (zyO Y) idx ci j) (hv : hO G H a ci V) (d : decode (zyC Y) pc = .ok (.getfield idx, 3)) (h : hAt l G Y E (pc + 3) lv (V j :: st) H c k) : hAt l G Y E pc lv (.ref a :: st) H c k := by
  refine H_get F ?_ d h
  obtain ⟨Cn, T, N, hc, hj, -⟩ := F
  obtain ⟨r, h1, cell, q1, q2, q3, q4⟩ := hv
  cases h1.symm.trans hc
  exact ⟨cell, q1, (fun h => by rw [q3] at h; cases h), q2, q4 j hj⟩
/-- a field is written; a final one in its constructor -/
theorem H_put {idx a ci j : Nat} {fin : Bool} {ty : FieldType} {v : Value} {V : Nat → Value} (F : hFP (zyO Y) idx ci j fin ty) (hf : fin = true → (zyN Y).name = "<init>") (hv : hO G H a ci V) (hn : narrow ty v = v) (hfit : fits ty v = true) (ha : zfr G a) (d : decode (zyC Y) pc = .ok (.putfield idx, 3))
    (h : ∀ H1 : Heap, H1.size = H.size → (∀ q, q ≠ a → H1[q]? = H[q]?) → hO G H1 a ci (updV V j v) → hAt l G Y E (pc + 3) lv st H1 c k) : hAt l G Y E pc lv (v :: .ref a :: st) H c k := by
  intro p e s m args below meth cd locs ls C hN hR hlo hl
  obtain ⟨Cn, T, N, ty0, ⟨hc, hj, hw, hin⟩, hty, hnm, hfin, hd, hdecl⟩ := F
  obtain ⟨r, h1, cell, q1, q2, q3, q4⟩ := hv
  cases h1.symm.trans hc
  have hts := C.2.2.2.2.2.1
  have hown := C.2.2.2.2.1
  have hap := va_apart (own := zyO Y) hts hin ty0 hty hnm (zctK C) hc
  obtain ⟨hS, hfc, kC, hkC, hkind⟩ := (zctK C).1 ci _ hc
  obtain ⟨cf, kf, fi, fl, hfi, hsl⟩ := hS j hj
  have hlay := hts _ (hin _ (u_in_lay hj))
  unfold u_lay at hlay
  have hst := (u_facts hfc hkC (u_lays hts hin hj) hfi).1
  have fin2 : ∀ H1 : Heap, H1[a]? = some (cell.setSlot fl.slot v) → H1.size = H.size → (∀ q, q ≠ a → H1[q]? = H[q]?) → W p l e E.1 s m args below meth cd H1 (locs ++ [⟨a, fl.slot⟩]) c k (E.2 below s args) (F0 m (pc + 3) ls st) := by
    intro H1 e1 e2 e3
    rw [hsl] at e1
    refine h H1 e2 e3 ⟨_, hc, t_OB.to (V := updV V j v) ⟨_, e1, q2, q3, t_set q4 hap hj v⟩ fun _ _ => rfl⟩ p e s m args below meth cd _ ls C hN (hR.put ha.1 e2 e3) (fun q hq => ?_) hl
    rcases List.mem_append.mp hq with h1 | h1
    · exact hlo q h1
    · rw [List.mem_singleton.mp h1]
      exact ha
  cases fin with
  | false =>
    rw [if_neg (by rw [hfin]; decide)] at hlay
    have h6 := u_store hfc hkC hkind hlay hfi hd hn hfit
    exact W.putK C.1 C.2.1 (f := fl) ⟨hown, hts _ hw, ⟨_, _, _, hfi⟩, hst⟩ (by rw [q2]; exact h6) q1 q3 (by rw [hsl]; exact k2_hasslot (q4 j hj)) rfl rfl d fin2
  | true =>
    rw [if_pos hfin] at hlay
    have hcf : m.cls = cf := by
      obtain ⟨_, _, c', _, _, _, -, -, hf', -, -, -, hown2, -⟩ := Cond.laysFinal_spec hlay
      have e1 : c' = cf := by have := hfi.symm.trans hf'; simp at this; exact this.1.symm
      rw [hdecl rfl] at hown2
      rw [← e1]; exact Option.some.inj (hown.symm.trans hown2)
    have h6 := u_fits hfc hkC hkind (Or.inr hlay) hfi hd hn hfit
    exact W.putFinK C.1 C.2.1 hown (hts _ hw) hfi hst hcf (hN.trans (hf rfl)) (by rw [q2]; exact h6) q1 q3 (by rw [hsl]; exact k2_hasslot (q4 j hj)) rfl rfl d fin2
theorem H_gets {C1 n1 d1 own : String} {idx : Nat} {v : Value} (hw : Cond.fieldLink (zyO Y) idx C1 n1 d1 ∈ zAll) (hZ : ∀ U : State, zSt G U → zZ G C1 n1 d1 v U) (d : decode (zyC Y) pc = .ok (.getstatic idx, 3)) (h : hAt l G Y E (pc + 3) lv (v :: st) H c k) : hAt l G Y E pc lv st H c k := by
  intro p e s m args below meth cd locs ls C hN hR hlo hl
  obtain ⟨cf, kf, fi, f, a, cell, h1, h2, h3, h4, h5, h6, h7, h8⟩ := hZ s C.2.2.2.2.2.2.2.1.2.2.2.2.2
  exact W.gets C.1 C.2.1 C.2.2.2.2.1 (C.2.2.2.2.2.1 _ hw) h1 h2 h3 h4 ((hR.1 a h8).trans h5) (fun e => by rw [e] at h6; cases h6) h7 rfl d (h p e s m args below meth cd locs ls C hN hR hlo hl)
/-- what the tables say of the start may be had at any instruction -/
theorem H_st (h : (∃ U : State, zTb G U ∧ zTh G U H) → hAt l G Y E pc lv st H c k) : hAt l G Y E pc lv st H c k := by
  intro p e s m args below meth cd locs ls C hN hR hlo hl
  obtain ⟨g1, g2, g3⟩ := C.2.2.2.2.2.2.2.2.1
  exact h ⟨s, C.2.2.2.2.2.2.2.1, zTh.kept g1 g2 hR.1⟩ p e s m args below meth cd locs ls C hN hR hlo hl
theorem H_bald {v n : Nat} {f : Nat → Int32} {x : Int32} (hb : hB G H v n f) (hin : vp_in x n) (d : decode (zyC Y) pc = .ok (.baload, 1)) (h : hAt l G Y E (pc + 1) lv (.int (f x.toNatClampNeg) :: st) H c k) : hAt l G Y E pc lv (.int x :: .ref v :: st) H c k := by
  intro p e s m args below meth cd locs ls C hN hR hlo hl
  obtain ⟨cell, q1, q2, q3, q4, q5, q6⟩ := hb
  have hlt : x.toNatClampNeg < n := Nat.not_le.mp fun q => hin (Or.inr q)
  exact W.bald (v := .int (f x.toNatClampNeg)) C.1 C.2.1 q1 (hByt C q3 q4) q2 (by rw [q5]; exact hin) (q6 _ hlt) rfl rfl d (h p e s m args below meth cd locs ls C hN hR hlo hl)
theorem H_balT {t : Nat} {f : Nat → Int32} {x : Int32} (hb : ∀ U : State, zSt G U → zTab G t f U) (hin : vp_in x 100) (d : decode (zyC Y) pc = .ok (.baload, 1)) (h : hAt l G Y E (pc + 1) lv (.int (f x.toNatClampNeg) :: st) H c k) : hAt l G Y E pc lv (.int x :: .ref t :: st) H c k := by
  intro p e s m args below meth cd locs ls C hN hR hlo hl
  obtain ⟨⟨cell, q1, q2, q3, q4, q5⟩, q6⟩ := hb s C.2.2.2.2.2.2.2.1.2.2.2.2.2
  have hlt : x.toNatClampNeg < 100 := Nat.not_le.mp fun q => hin (Or.inr q)
  exact W.bald (v := .int (f x.toNatClampNeg)) C.1 C.2.1 ((hR.1 t q6).trans q1) q2 q3 (fun g => hin (g.imp id (fun z => by omega))) (q5 _ hlt) rfl rfl d (h p e s m args below meth cd locs ls C hN hR hlo hl)
theorem H_cald {v n : Nat} {f : Nat → Int32} {x : Int32} (hb : hA G H v 3 n (.inl f)) (hin : vp_in x n) (d : decode (zyC Y) pc = .ok (.caload, 1)) (h : hAt l G Y E (pc + 1) lv (.int (f x.toNatClampNeg) :: st) H c k) : hAt l G Y E pc lv (.int x :: .ref v :: st) H c k := by
  intro p e s m args below meth cd locs ls C hN hR hlo hl
  have hlt : x.toNatClampNeg < n := Nat.not_le.mp fun q => hin (Or.inr q)
  exact W.cald (v := .int (f x.toNatClampNeg)) C.1 C.2.1 hb (zarrT C (t := 3) (by decide) n (fun j => .int (f j))) (fun q => by cases q) (by show ¬ (x < 0 ∨ (arrV _ _ _).slots.size ≤ _); rw [arrV_size]; exact hin) (by show (arrV _ _ _).slots[_]? = _; rw [arrV_read _ _ hlt]) rfl rfl d (h p e s m args below meth cd locs ls C hN hR hlo hl)
theorem H_bast {v n : Nat} {f : Nat → Int32} {x y : Int32} (hb : hA G H v 4 n (.inl f)) (hin : vp_in x n) (ha : zfr G v) (d : decode (zyC Y) pc = .ok (.bastore, 1))
    (h : ∀ H1 : Heap, H1.size = H.size → (∀ q, q ≠ v → H1[q]? = H[q]?) → hA G H1 v 4 n (.inl (upd f x.toNatClampNeg y.toInt8.toInt32)) → hAt l G Y E (pc + 1) lv st H1 c k) : hAt l G Y E pc lv (.int y :: .int x :: .ref v :: st) H c k := by
  intro p e s m args below meth cd locs ls C hN hR hlo hl
  have hlt : x.toNatClampNeg < n := Nat.not_le.mp fun q => hin (Or.inr q)
  refine W.bast C.1 C.2.1 hb (zarrT C (t := 4) (by decide) n (fun j => .int (f j))) (fun q => by cases q) (by show ¬ (x < 0 ∨ (arrV _ _ _).slots.size ≤ _); rw [arrV_size]; exact hin) rfl rfl d fun H1 e1 e2 e3 => ?_
  refine h H1 e2 e3 ?_ p e s m args below meth cd _ ls C hN (hR.put ha.1 e2 e3) (fun q hq => ?_) hl
  · rw [narrow_byte] at e1
    refine e1.trans (congrArg some ?_)
    show (arrV (gA G 4) n fun j => .int (f j)).setSlot _ _ = arrV (gA G 4) n fun j => .int (upd f x.toNatClampNeg y.toInt8.toInt32 j)
    rw [arrV_store]
    refine congrArg (arrV (gA G 4) n) ?_
    funext j
    unfold updV upd
    split <;> rfl
  · rcases List.mem_append.mp hq with h1 | h1
    · exact hlo q h1
    · rw [List.mem_singleton.mp h1]
      exact ha
theorem H_alenB {v n : Nat} {f : Nat → Int32} (hb : hB G H v n f) (d : decode (zyC Y) pc = .ok (.arraylength, 1)) (h : hAt l G Y E (pc + 1) lv (.int (nI n) :: st) H c k) : hAt l G Y E pc lv (.ref v :: st) H c k := by
  intro p e s m args below meth cd locs ls C hN hR hlo hl
  obtain ⟨cell, q1, q2, q3, q4, q5, q6⟩ := hb
  exact W.alen (n := nI n) C.1 C.2.1 q1 (hByt C q3 q4) (by rw [q5]; rfl) rfl rfl d (h p e s m args below meth cd locs ls C hN hR hlo hl)
theorem H_alenI {v t n : Nat} {f : Nat → Int32} (hb : hA G H v t n (.inl f)) (ht : t < 8) (d : decode (zyC Y) pc = .ok (.arraylength, 1)) (h : hAt l G Y E (pc + 1) lv (.int (nI n) :: st) H c k) : hAt l G Y E pc lv (.ref v :: st) H c k := by
  intro p e s m args below meth cd locs ls C hN hR hlo hl
  exact W.alen (n := nI n) C.1 C.2.1 hb (zarrT C ht n (fun j => .int (f j))) (by show (arrV _ _ _).slots.size.toInt32 = _; rw [arrV_size]; rfl) rfl rfl d (h p e s m args below meth cd locs ls C hN hR hlo hl)
theorem H_alenR {v t n : Nat} {f : Nat → Option Nat} (hb : hA G H v t n (.inr (.inr (.inr (.inr f))))) (ht : t < 8) (d : decode (zyC Y) pc = .ok (.arraylength, 1)) (h : hAt l G Y E (pc + 1) lv (.int (nI n) :: st) H c k) : hAt l G Y E pc lv (.ref v :: st) H c k := by
  intro p e s m args below meth cd locs ls C hN hR hlo hl
  exact W.alen (n := nI n) C.1 C.2.1 hb (zarrT C ht n (fun j => va_rf (f j))) (by show (arrV _ _ _).slots.size.toInt32 = _; rw [arrV_size]; rfl) rfl rfl d (h p e s m args below meth cd locs ls C hN hR hlo hl)
/-- a new row of numbers; a new object; a new row of objects -/
theorem H_newa {at_ : ArrayType} {t n : Nat} {x : Int32} {z : ((Nat → Int32) ⊕ (Nat → Int64) ⊕ (Nat → UInt32) ⊕ (Nat → UInt64) ⊕ (Nat → Option Nat))} (ht : t < 8) (hty : newarray.typeOf at_ = zty t) (hw : Cond.arrayClass (newarray.typeOf at_) ∈ zAll) (hn : x.toInt = n) (hz : ∀ cA : ClassId, vp_cell cA (n, z) = arrV cA n (fun _ => defaultValue (zty t))) (hb : n * componentBytes (zty t) ≤ 536870912) (hc : c + 1 ≤ E.1.cells) (hk : k + n ≤ E.1.slots) (d : decode (zyC Y) pc = .ok (.newarray at_, 2))
    (h : ∀ H1 : Heap, H1.size = H.size + 1 → (∀ q, q < H.size → H1[q]? = H[q]?) → hA G H1 H.size t n z → hAt l G Y E (pc + 2) lv (.ref H.size :: st) H1 (c + 1) (k + n)) : hAt l G Y E pc lv (.int x :: st) H c k := by
  intro p e s m args below meth cd locs ls C hN hR hlo hl
  have e0 : x.toNatClampNeg = n := by show x.toInt.toNat = n; omega
  refine va_newaK C.1 C.2.1 (C.2.2.2.2.2.1 _ hw) rfl d rfl (n := x) (N := n) (by rw [Int32.lt_iff_toInt_lt, hn]; show ¬ (n : Int) < 0; omega) e0 (by rw [hty]; exact hb) hc hk rfl fun H1 cA e1 z1 o1 hAr hNm => ?_
  have hA1 : cA = gA G t := by
    have h2 : va_RA s (gA G t) (zty t) := ((zctK C).2 t _ (zTys_at G ht)).2
    rw [← hty] at h2
    have h3 : s.vm.findClass ("[" ++ (newarray.typeOf at_).toString) = some (gA G t) := by cases at_ <;> exact h2
    exact Option.some.inj (hNm.symm.trans h3)
  subst hA1
  refine h H1 z1 o1 ?_ p e s m args below meth cd locs ls C hN (hR.grow (by omega) o1) hlo hl
  rw [hty] at e1
  exact e1.trans (congrArg some (hz _).symm)
theorem H_new {idx ci N : Nat} {Cn : String} {T : u_T} {V : Nat → Value} (ty : Nat → FieldType) (hcl : vwCl[ci]? = some (Cn, T, N)) (hin : ∀ w ∈ u_ws Cn T N, w ∈ zAll) (hty : ∀ k, k < N → parseFieldDescriptor (T k).2.2.1 = some (ty k)) (w1 : Cond.classLink (zyO Y) idx Cn ∈ zAll) (w2 : Cond.instantiable Cn N ∈ zAll) (w3 : Cond.initialized Cn ∈ zAll) (hV : ∀ j, j < N → defaultValue (ty j) = V j) (hc : c + 1 ≤ E.1.cells) (hk : k + N ≤ E.1.slots) (d : decode (zyC Y) pc = .ok (.new idx, 3))
    (h : ∀ H1 : Heap, H1.size = H.size + 1 → (∀ q, q < H.size → H1[q]? = H[q]?) → hO G H1 H.size ci V → hAt l G Y E (pc + 3) lv (.ref H.size :: st) H1 (c + 1) (k + N)) : hAt l G Y E pc lv st H c k := by
  intro p e s m args below meth cd locs ls C hN hR hlo hl
  have hts := C.2.2.2.2.2.1
  have hKn := (zctK C).1 ci _ hcl
  refine W.newcK C.1 C.2.1 C.2.2.2.2.1 (hts _ w1) (hts _ w2) (hts _ w3) rfl d hc hk hKn.2.1 rfl fun H1 kC hkC e1 z1 o1 => ?_
  exact h H1 z1 o1 ⟨_, hcl, (u_born ty hts hin hKn hkC e1 hty).to hV⟩ p e s m args below meth cd locs ls C hN (hR.grow (by omega) o1) hlo hl
theorem H_objInit {idx a : Nat} (w1 : Cond.methodLink (zyO Y) idx Lib.objectInit ∈ zAll) (w2 : Cond.instanceMethod Lib.objectInit ∈ zAll) (w3 : Cond.code Lib.objectInit ⟨#[0xb1]⟩ 1 none ∈ zAll) (hE : zRm Y E.1) (hd : 1 ≤ zyd Y) (hw : (st.map fun v => v.category).sum + 12 ≤ 60 * zyd Y) (d : decode (zyC Y) pc = .ok (.invokespecial idx, 3)) (h : hAt l G Y E (pc + 3) lv st H c k) : hAt l G Y E pc lv (.ref a :: st) H c k := by
  intro p e s m args below meth cd locs ls C hN hR hlo hl
  have hts := C.2.2.2.2.2.1
  exact W.objInit C.1 C.2.1 C.2.2.2.2.1 (hts _ w1) (hts _ w2) (hts _ w3) rfl (by rw [C.2.2.2.1]; exact hl.1) rfl d (Nat.le_trans hd hE.1) (by refine Nat.le_trans ?_ hE.2; show 2 * 0 + _ + _ ≤ _; omega) (h p e s m args below meth cd locs ls C hN hR hlo hl)
/-! ends -/
variable {mc ms : Nat} {K : hK}
theorem H_iret {x : Int32} {ty : FieldType} (hr : zyR Y = some ty) (hn : narrow ty (.int x) = .int x) (d : decode (zyC Y) pc = .ok (.ireturn, 1)) (hc : c ≤ mc) (hk : k ≤ ms) (h : K (some (.int x)) H) : hAt l G Y (hEM G Y mc ms K) pc lv [.int x] H c k := by
  intro p e s m args below meth cd locs ls C hN hR hlo hl
  refine W.widen hc hk ?_
  exact W.zret C.1 C.2.1 (C.2.2.1.trans hr) hn (fun t ht hW => ⟨some (.int x), rfl, by rw [ht]; exact h, by rw [ht]; exact hR⟩) hlo d C.2.2.2.2.2.2.1
theorem H_vret (hr : zyR Y = none) (d : decode (zyC Y) pc = .ok (.return_, 1)) (hc : c ≤ mc) (hk : k ≤ ms) (h : K none H) : hAt l G Y (hEM G Y mc ms K) pc lv [] H c k := by
  intro p e s m args below meth cd locs ls C hN hR hlo hl
  refine W.widen hc hk ?_
  exact W.vret C.1 C.2.1 (C.2.2.1.trans hr) (fun t ht hW => ⟨none, rfl, by rw [ht]; exact h, by rw [ht]; exact hR⟩) hlo d C.2.2.2.2.2.2.1
theorem H_aret {a : Nat} {ty : FieldType} (hr : zyR Y = some ty) (hty : (∃ n, ty = .object n) ∨ ∃ t, ty = .array t) (d : decode (zyC Y) pc = .ok (.areturn, 1)) (hc : c ≤ mc) (hk : k ≤ ms) (h : K (some (.ref a)) H) : hAt l G Y (hEM G Y mc ms K) pc lv [.ref a] H c k := by
  intro p e s m args below meth cd locs ls C hN hR hlo hl
  refine W.widen hc hk ?_
  exact W.aret (v := .ref a) C.1 C.2.1 (C.2.2.1.trans hr) hty (Or.inr ⟨_, rfl⟩) (fun t ht hW => ⟨some (.ref a), rfl, by rw [ht]; exact h, by rw [ht]; exact hR⟩) hlo d C.2.2.2.2.2.2.1
end HH
/-- A METHOD from its entry -/
theorem hCal_of {l : Launch} {G : zG} {Y : zY} {mc ms : Nat} {av : List Value} {H : Heap} {K : hK} {lv : List (Nat × Value)} (hy : plainName (zyN Y).cls = true) (hT : zyT Y = []) (hlen : (lg_sl av).length ≤ zyL Y) (hlv : lv_args 0 av = lv) (h : hAt l G Y (hEM G Y mc ms K) 0 lv [] H 0 0) : hCal l G Y mc ms av H K := by
  refine Met.ofW (cc := zyC Y) (maxL := zyL Y) (ret := zyR Y) hy rfl ?_
  intro p e s m args below meth c s₁ B hml hv
  obtain ⟨rfl, hKn, rfl, hR⟩ := hv
  have hts := atoms_spec (ws := zws Y) B.pre
  have hl := lv_entry av (n := zyL Y) hlen
  rw [lg_entry_eq]
  refine h p e s m _ below meth c [] _ ⟨B.exec, B.bytes, B.returns, hml, findClass_of_methodNamed B.named, zplain_ok hts, B.notSynchronized, hKn.1, ⟨hKn.2, hR.1, hR.2.1⟩, ?_⟩ (name_of_methodNamed B.named B.method).1 hR (fun q hq => by cases hq) (by rw [← hlv]; exact hl)
  rw [hT]
  obtain ⟨meth2, c2, h1, h2, -, -, -, -, h7, -⟩ := Cond.code_spec B.named (hts _ List.mem_cons_self)
  cases Option.some.inj (h1.symm.trans B.method)
  cases Option.some.inj (h2.symm.trans (Stand.of_body B).code)
  have h8 : c.exceptionTable = #[] := by simpa using h7
  rw [h8]
  rfl
theorem hPre_blind {G : zG} {av : List Value} {H : Heap} : FrameBlind (va_Pc av (hPre G H)) := fun a U g mk q => by
  obtain ⟨q0, ⟨q1, q2⟩, q3⟩ := q
  exact ⟨q0, ⟨zTb.same (u := U) (U := U.calling g mk a) rfl q1, zTh.moved (u := U) (U := U.calling g mk a) (Vm.Alike.refl U.vm) q2⟩, q3⟩
theorem hPre_at {G : zG} {Y : zY} {p : Program} {s : State} {m : MethodId} {args : Array Value} {meth : Method} {cd : Code} {H : Heap} (C : zCtx G Y p s m args meth cd) (hR : hBase G H) {U : State} (hU : U.heap = H) (hW : s.WarmedH U.vm) : hPre G H U := by
  obtain ⟨g1, g2, g3⟩ := C.2.2.2.2.2.2.2.2.1
  refine ⟨⟨zTb.warm hW C.2.2.2.2.2.2.2.1, ?_⟩, hU, by rw [hU]; exact hR⟩
  rw [hU]
  exact zTh.moved hW.alike (zTh.kept g1 g2 hR.1)
/-- a call of the other kind, out of this one -/
theorem zCal_h {l : Launch} {G : zG} {Y : zY} {mc ms : Nat} {av : List zV} {M : zM} {Kf : Option zV → zM → Prop} (h : ∀ H : Heap, zRep G M H → hCal l G Y mc ms (av.map (tr G)) H (fun r H' => ∃ (rz : Option zV) (M' : zM), r = rz.map (tr G) ∧ (∀ v ∈ rz, zok v) ∧ Kf rz M' ∧ zRep G M' H')) : zCal l G Y mc ms av M (Kf, none) := by
  intro hav
  show Met _ _ _ _ _ _ _ _ _
  intro p e ha hc hk s m args below hf happ hP hK
  obtain ⟨q0, q1, q2⟩ := hP
  have h0 := h s.heap q2 p e ha hc hk s m args below hf happ ⟨q0, q1, rfl, hBase.of q2⟩ hK
  obtain ⟨n, o, h1, h2, h3, ⟨h4, h5⟩⟩ := h0
  obtain ⟨r, e1, ⟨rz, M', e2, e3, e4, e5⟩, -⟩ := h4
  exact ⟨n, o, h1, h2, h3, ⟨rz, M', by rw [e1, e2], e3, e4, e5⟩, h5⟩
section HC
variable {l : Launch} {G : zG} {Y : zY} {E : zE} {pc : Nat} {lv : List (Nat × Value)} {st : List Value} {H : Heap} {c k : Nat}
theorem hgo {p : Program} {e : Env} {s : State} {m : MethodId} {args : Array Value} {below : List Frame} {meth : Method} {cd : Code} {locs : List Loc} {ls : Array Slot} {st0 : List Value} {mc' ms' : Nat} {a : Array Value} {Kf : hK}
    (hr : va_Run p l e E.1 s m args below meth cd H locs c k mc' ms' (F0 m pc ls st0) st (hPost G Kf a) (zfr G)) (C : zCtx G Y p s m args meth cd) (hN : meth.name = (zyN Y).name) (hlo : ∀ q ∈ locs, zfr G q.base) (hl : lv_has ls (zyL Y) lv)
    (kk : ∀ (r : Option Value) (H1 : Heap), Kf r H1 → hAt l G Y E (pc + 3) lv (r.toList ++ st) H1 (c + mc') (k + ms')) : W p l e E.1 s m args below meth cd H locs c k (E.2 below s args) (F0 m pc ls st0) := by
  intro T hT X
  obtain ⟨v, st₀, t, T', L, h0, X', hL, e1, e2, ⟨r, hv, hK, hR⟩, go⟩ := hr T hT X
  have hv' : v = r := Outcome.returned.inj hv
  subst hv'
  obtain ⟨t2, a1, b1⟩ := kk v t.heap hK p e s m args below meth cd (locs ++ L) ls C hN hR (fun q hq => by
      rcases List.mem_append.mp hq with h1 | h1
      · exact hlo q h1
      · exact hL q h1) hl T' e1 X'
  exact ⟨t2, go t2 a1, b1⟩
theorem hrecv {p : Program} {s : State} {m : MethodId} {args : Array Value} {meth : Method} {cd : Code} {a ci N : Nat} {Cn : String} {T : u_T} (C : zCtx G Y p s m args meth cd) (h : hRc G H a ci) (hc : vwCl[ci]? = some (Cn, T, N)) : ∃ cellB : Cell, H[a]? = some cellB ∧ cellB.vm.isStatics = false ∧ s.vm.findClass Cn = some cellB.cls := by
  obtain ⟨cell, q1, q2, q3⟩ := h
  exact ⟨cell, q1, q2, by rw [q3]; exact ((zctK C).1 ci _ hc).2.1⟩
theorem H_callV {Y' : zY} {idx n a ci N mc' ms' : Nat} {Cn : String} {T : u_T} {as st0 : List Value} {Kf : hK} (hE : zRm Y E.1) (L : zLV Y idx Y' n Cn) (hc : vwCl[ci]? = some (Cn, T, N)) (hv : hRc G H a ci) (hn : as.length = n) (hs : st0 = as.reverse ++ .ref a :: st) (hw : (st.map fun v => v.category).sum ≤ 8) (d : decode (zyC Y) pc = .ok (.invokevirtual idx, 3)) (hf : c + mc' ≤ E.1.cells ∧ k + ms' ≤ E.1.slots) (h : hCal l G Y' mc' ms' (.ref a :: as) H Kf) (kk : ∀ (r : Option Value) (H1 : Heap), Kf r H1 → hAt l G Y E (pc + 3) lv (r.toList ++ st) H1 (c + mc') (k + ms')) : hAt l G Y E pc lv st0 H c k := by
  intro p e s m args below meth cd locs ls C hN hR hlo hl
  subst hs
  exact hgo (mc' := mc') (ms' := ms') (va_runV (As := as) ⟨C.1, C.2.1, C.2.2.2.1, C.2.2.2.2.1, C.2.2.2.2.2.1⟩ h (L.cwR hE C.2.2.2.2.2.1) ⟨hPre_blind, hrecv C hv hc, fun U hU hW => ⟨rfl, hPre_at C hR hU hW⟩⟩ rfl hn hl.1 rfl (by show 2 * 0 + _ ≤ 8; omega) d hf) C hN hlo hl kk
theorem H_callS {Y' : zY} {idx n mc' ms' : Nat} {as st0 : List Value} {Kf : hK} (hE : zRm Y E.1) (L : zLS Y idx Y' n) (hn : as.length = n) (hs : st0 = as.reverse ++ st) (hw : (st.map fun v => v.category).sum ≤ 8) (d : decode (zyC Y) pc = .ok (.invokestatic idx, 3)) (hf : c + mc' ≤ E.1.cells ∧ k + ms' ≤ E.1.slots) (h : hCal l G Y' mc' ms' as H Kf) (kk : ∀ (r : Option Value) (H1 : Heap), Kf r H1 → hAt l G Y E (pc + 3) lv (r.toList ++ st) H1 (c + mc') (k + ms')) : hAt l G Y E pc lv st0 H c k := by
  intro p e s m args below meth cd locs ls C hN hR hlo hl
  subst hs
  exact hgo (mc' := mc') (ms' := ms') (va_runS (As := as) ⟨C.1, C.2.1, C.2.2.2.1, C.2.2.2.2.1, C.2.2.2.2.2.1⟩ h (L.cwR hE C.2.2.2.2.2.1) ⟨hPre_blind, fun U hU hW => ⟨rfl, hPre_at C hR hU hW⟩⟩ rfl hn hl.1 rfl (by show 2 * 0 + _ ≤ 8; omega) d hf) C hN hlo hl kk
/-- a constructor -/
def hLI (Y : zY) (idx : Nat) (Y' : zY) (n : Nat) : Prop := Cond.methodLink (zyO Y) idx (zyN Y') ∈ zAll ∧ Cond.instanceMethod (zyN Y') ∈ zAll ∧ Cond.initialized (zyN Y').cls ∈ zAll ∧ Cond.code (zyN Y') (zyC Y') (zyL Y') none ∈ zAll ∧ zyR Y' = none ∧ (zyN Y').name = "<init>" ∧
  ((zyN Y').cls ≠ "java/lang/invoke/MethodHandle" ∧ (zyN Y').cls ≠ "java/lang/invoke/VarHandle" ∧ (parseMethodDescriptor (zyN Y').desc).map (fun d => d.parameters.length) = some n) ∧ zyd Y' + 1 ≤ zyd Y ∧ 8 + (zyL Y' + 11) + 60 * zyd Y' ≤ 60 * zyd Y
theorem H_callI {Y' : zY} {idx n a mc' ms' : Nat} {as st0 : List Value} {Kf : hK} (hE : zRm Y E.1) (L : hLI Y idx Y' n) (hn : as.length = n) (hs : st0 = as.reverse ++ .ref a :: st) (hw : (st.map fun v => v.category).sum ≤ 8) (d : decode (zyC Y) pc = .ok (.invokespecial idx, 3)) (hf : c + mc' ≤ E.1.cells ∧ k + ms' ≤ E.1.slots) (h : hCal l G Y' mc' ms' (.ref a :: as) H Kf) (kk : ∀ (r : Option Value) (H1 : Heap), Kf r H1 → hAt l G Y E (pc + 3) lv (r.toList ++ st) H1 (c + mc') (k + ms')) : hAt l G Y E pc lv st0 H c k := by
  intro p e s m args below meth cd locs ls C hN hR hlo hl
  subst hs
  obtain ⟨h1, h2, h3, h4, h5, h6, h7, h8, h9⟩ := L
  have hts := C.2.2.2.2.2.1
  have cw : CallB E.1 s args (zyO Y) idx (zyN Y') (zyC Y') (zyL Y') none (zws Y') (zRoom (zyd Y') mc' ms') mc' ms' n ∧ (zyN Y').name = "<init>" ∧ (Cond.instanceMethod (zyN Y')).before args s = true := by
    refine cwI (Ts := zAll) n hts (fun w hw => ?_) (by show _ = _ :: _; unfold zws; rw [h5]) rfl rfl (hts _ h3) (hts _ h1) (hts _ h2) h6 h7 ⟨Nat.le_trans h8 hE.1, Nat.le_trans h9 hE.2⟩
    rcases List.mem_cons.mp hw with e1 | e1
    · have hm : w ∈ zAll := by rw [e1, h5]; exact h4
      exact ⟨hm, good_of_word (List.mem_filter.mp hm).2⟩
    · exact ⟨e1, good_of_word (List.mem_filter.mp e1).2⟩
  exact hgo (mc' := mc') (ms' := ms') (va_runI (As := as) ⟨C.1, C.2.1, C.2.2.2.1, C.2.2.2.2.1, hts⟩ h cw ⟨hPre_blind, fun U hU hW => ⟨rfl, hPre_at C hR hU hW⟩⟩ rfl hn hl.1 rfl (by show 2 * 0 + _ ≤ 8; omega) d hf) C hN hlo hl kk
/-- super.m(..) -/
def hLU (Y : zY) (idx : Nat) (Y' : zY) (n : Nat) : Prop := Cond.methodLink (zyO Y) idx (zyN Y') ∈ zAll ∧ Cond.sameMethod (zyN Y').cls (zyN Y').cls (zyN Y').name (zyN Y').desc ∈ zAll ∧ Cond.superclass (zyO Y) (zyN Y').cls ∈ zAll ∧ Cond.instanceMethod (zyN Y') ∈ zAll ∧ Cond.initialized (zyN Y').cls ∈ zAll ∧ Cond.code (zyN Y') (zyC Y') (zyL Y') (zyR Y') ∈ zAll ∧ (zyN Y').name ≠ "<init>" ∧ (parseMethodDescriptor (zyN Y').desc).map (fun d => d.parameters.length) = some n ∧ zyd Y' + 1 ≤ zyd Y ∧ 8 + (zyL Y' + 11) + 60 * zyd Y' ≤ 60 * zyd Y
theorem H_callU {Y' : zY} {idx n a ci N mc' ms' : Nat} {Cn : String} {T : u_T} {as st0 : List Value} {Kf : hK} (hE : zRm Y E.1) (L : hLU Y idx Y' n) (hc : vwCl[ci]? = some (Cn, T, N)) (hv : hRc G H a ci) (hn : as.length = n) (hs : st0 = as.reverse ++ .ref a :: st) (hw : (st.map fun v => v.category).sum ≤ 8) (d : decode (zyC Y) pc = .ok (.invokespecial idx, 3)) (hf : c + mc' ≤ E.1.cells ∧ k + ms' ≤ E.1.slots) (h : hCal l G Y' mc' ms' (.ref a :: as) H Kf) (kk : ∀ (r : Option Value) (H1 : Heap), Kf r H1 → hAt l G Y E (pc + 3) lv (r.toList ++ st) H1 (c + mc') (k + ms')) : hAt l G Y E pc lv st0 H c k := by
  intro p e s m args below meth cd locs ls C hN hR hlo hl
  subst hs
  obtain ⟨h1, h2, h3, h4, h5, h6, h7, h8, h9, h10⟩ := L
  have hts := C.2.2.2.2.2.1
  have hK := (zctK C).1 ci _ hc
  obtain ⟨hS, hfc, kC, hkC, hkind⟩ := hK
  have cw : va_CS E.1 s args (zyO Y) idx (zyN Y') (zyC Y') (zyL Y') (zyR Y') (zws Y') (zRoom (zyd Y') mc' ms') mc' ms' n := by
    refine va_cwSU (Ts := zAll) n hts (zgood (ws := [.methodLink (zyO Y) idx (zyN Y'), .sameMethod (zyN Y').cls (zyN Y').cls (zyN Y').name (zyN Y').desc, .superclass (zyO Y) (zyN Y').cls, .instanceMethod (zyN Y'), .initialized (zyN Y').cls]) (fun w hw => ?_) h6) rfl rfl rfl ⟨h7, h8⟩ ⟨Nat.le_trans h9 hE.1, Nat.le_trans h10 hE.2⟩
    simp only [List.mem_cons, List.not_mem_nil, or_false] at hw
    rcases hw with rfl | rfl | rfl | rfl | rfl <;> assumption
  exact hgo (mc' := mc') (ms' := ms') (va_runSU (C := Cn) (cC := (gD G).1 ci) (As := as) ⟨hfc, kC, hkC, hkind⟩ ⟨C.1, C.2.1, C.2.2.2.1, C.2.2.2.2.1, hts⟩ h cw ⟨hPre_blind, hrecv C hv hc, fun U hU hW => ⟨rfl, hPre_at C hR hU hW⟩⟩ rfl hn hl.1 rfl (by show 2 * 0 + _ ≤ 8; omega) d hf) C hN hlo hl kk
/-- an inherited method -/
def hLN (Y : zY) (idx : Nat) (Y' : zY) (n : Nat) (C : String) : Prop := Cond.methodLink (zyO Y) idx (zyN Y') ∈ zAll ∧ Cond.sameMethod (zyN Y').cls (zyN Y').cls (zyN Y').name (zyN Y').desc ∈ zAll ∧ Cond.selects C (zyN Y') (zyN Y') ∈ zAll ∧ Cond.instanceMethod (zyN Y') ∈ zAll ∧ Cond.initialized (zyN Y').cls ∈ zAll ∧ Cond.code (zyN Y') (zyC Y') (zyL Y') (zyR Y') ∈ zAll ∧
  ((zyN Y').cls ≠ "java/lang/invoke/MethodHandle" ∧ (zyN Y').cls ≠ "java/lang/invoke/VarHandle" ∧ (parseMethodDescriptor (zyN Y').desc).map (fun d => d.parameters.length) = some n) ∧ zyd Y' + 1 ≤ zyd Y ∧ 8 + (zyL Y' + 11) + 60 * zyd Y' ≤ 60 * zyd Y
theorem H_callN {Y' : zY} {idx n a ci N mc' ms' : Nat} {Cn : String} {T : u_T} {as st0 : List Value} {Kf : hK} (hE : zRm Y E.1) (L : hLN Y idx Y' n Cn) (hc : vwCl[ci]? = some (Cn, T, N)) (hv : hRc G H a ci) (hn : as.length = n) (hs : st0 = as.reverse ++ .ref a :: st) (hw : (st.map fun v => v.category).sum ≤ 8) (d : decode (zyC Y) pc = .ok (.invokevirtual idx, 3)) (hf : c + mc' ≤ E.1.cells ∧ k + ms' ≤ E.1.slots) (h : hCal l G Y' mc' ms' (.ref a :: as) H Kf) (kk : ∀ (r : Option Value) (H1 : Heap), Kf r H1 → hAt l G Y E (pc + 3) lv (r.toList ++ st) H1 (c + mc') (k + ms')) : hAt l G Y E pc lv st0 H c k := by
  intro p e s m args below meth cd locs ls C hN hR hlo hl
  subst hs
  obtain ⟨h1, h2, h3, h4, h5, h6, h7, h8, h9⟩ := L
  have hts := C.2.2.2.2.2.1
  have cw : va_CU E.1 s args (zyO Y) Cn (zyN Y').cls idx (zyN Y') (zyN Y') (zyC Y') (zyL Y') (zyR Y') (zws Y') (zRoom (zyd Y') mc' ms') mc' ms' n := by
    refine va_cwU (Ts := zAll) n hts (zgood (ws := [.methodLink (zyO Y) idx (zyN Y'), .sameMethod (zyN Y').cls (zyN Y').cls (zyN Y').name (zyN Y').desc, .selects Cn (zyN Y') (zyN Y'), .instanceMethod (zyN Y'), .initialized (zyN Y').cls]) (fun w hw => ?_) h6) rfl rfl rfl rfl h7 ⟨Nat.le_trans h8 hE.1, Nat.le_trans h9 hE.2⟩
    simp only [List.mem_cons, List.not_mem_nil, or_false] at hw
    rcases hw with rfl | rfl | rfl | rfl | rfl <;> assumption
  exact hgo (mc' := mc') (ms' := ms') (va_runU (As := as) ⟨C.1, C.2.1, C.2.2.2.1, C.2.2.2.2.1, hts⟩ h cw ⟨hPre_blind, hrecv C hv hc, fun U hU hW => ⟨rfl, hPre_at C hR hU hW⟩⟩ rfl hn hl.1 rfl (by show 2 * 0 + _ ≤ 8; omega) d hf) C hN hlo hl kk
end HC
