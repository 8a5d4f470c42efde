/-! Z rows that read and write the heap -/
/-- a field that own's pool entry idx names: field j of sort s, of kind f (0 number, 1 fixed object, 2 text) -/
def zFL (own : String) (idx s j f : Nat) : Prop := ∃ (ci : Nat) (C : String) (T : u_T) (N : Nat), zkd s = some (.inl ci) ∧ vwCl[ci]? = some (C, T, N) ∧ j < N ∧ zfld s j = f ∧ Cond.fieldLink own idx (T j).1 (T j).2.1 (T j).2.2.1 ∈ zAll ∧ ∀ w ∈ u_ws C T N, w ∈ zAll
/-- the same, of a field that may be written, of the type ty -/
def zFP (own : String) (idx s j f : Nat) (ty : FieldType) : Prop := ∃ (ci : Nat) (C : String) (T : u_T) (N : Nat) (ty0 : Nat → FieldType), (zkd s = some (.inl ci) ∧ vwCl[ci]? = some (C, T, N) ∧ j < N ∧ zfld s j = f ∧ Cond.fieldLink own idx (T j).1 (T j).2.1 (T j).2.2.1 ∈ zAll ∧ ∀ w ∈ u_ws C T N, w ∈ zAll) ∧ (∀ k, k < N → parseFieldDescriptor (T k).2.2.1 = some (ty0 k)) ∧ (∀ a, a < N → ∀ b, b < N → a ≠ b → (T a).2.1 ≠ (T b).2.1) ∧ (T j).2.2.2 = false ∧ parseFieldDescriptor (T j).2.2.1 = some ty
theorem zctK {G : zG} {Y : zY} {p : Program} {s : State} {m : MethodId} {args : Array Value} {meth : Method} {cd : Code} (C : zCtx G Y p s m args meth cd) : va_K (gD G) vwCl (zTys G) s := C.2.2.2.2.2.2.2.1.1
theorem zrow {G : zG} {M : zM} {H : Heap} (hR : zRep G M H) {s i : Nat} (hi : i < zcnt s) : zhold G M s i H := hR.2.2.2.1 s i hi
theorem zfv_0 {G : zG} {M : zM} {s i j : Nat} (h : zfld s j = 0) : zfv G M s i j = .int (zmI M s i j) := by
  unfold zfv; rw [h] <;> rfl
theorem zfv_1 {G : zG} {M : zM} {s i j : Nat} (h : zfld s j = 1) : zfv G M s i j = .ref (ga G (zref s i j).1 (zref s i j).2) := by
  unfold zfv; rw [h] <;> rfl
theorem zfv_2 {G : zG} {M : zM} {s i j : Nat} (h : zfld s j = 2) : zfv G M s i j = .ref (zmN M s i j) := by
  unfold zfv; rw [h] <;> rfl
section ZH
variable {l : Launch} {G : zG} {Y : zY} {E : zE} {pc : Nat} {lv : List (Nat × zV)} {st : List zV} {M : zM} {c k : Nat}
theorem Z_getv {p : Program} {e : Env} {R : Room} {s : State} {m : MethodId} {args : Array Value} {below : List Frame} {meth : Method} {cd : Code} {H : Heap} {locs : List Loc} {ls : Array Slot} {rest : List Value} {Q : State → Prop} {idx s0 i0 j f : Nat}
    (C : zCtx G Y p s m args meth cd) (F : zFL (zyO Y) idx s0 j f) (d : decode (zyC Y) pc = .ok (.getfield idx, 3)) (hi : i0 < zcnt s0) (hR : zRep G M H)
    (h : W p l e R s m args below meth cd H locs c k Q (F0 m (pc + 3) ls (zfv G M s0 i0 j :: rest))) : W p l e R s m args below meth cd H locs c k Q (F0 m pc ls (.ref (ga G s0 i0) :: rest)) := by
  obtain ⟨ci, Cn, T, N, hk, hc, hj, hf, hw, hin⟩ := F
  have hh := zrow hR hi
  unfold zhold at hh
  rw [hk] at hh
  obtain ⟨r, h1, cell, q1, q2, q3, q4⟩ := hh
  have hr : r = (Cn, T, N) := Option.some.inj (h1.symm.trans hc)
  subst hr
  obtain ⟨hS, hfc, kC, hkC, hkind⟩ := (zctK C).1 ci _ hc
  obtain ⟨cf, kf, fi, fl, hfi, hsl⟩ := hS j hj
  refine W.getf C.1 C.2.1 C.2.2.2.2.1 (C.2.2.2.2.2.1 _ hw) hfi (u_facts hfc hkC (u_lays C.2.2.2.2.2.1 hin hj) hfi).1 q1 (by rw [q3]; exact fun h => by cases h) (v := zfv G M s0 i0 j) ?_ rfl rfl d h
  rw [hsl, q4 j hj]
theorem Z_getI {idx s0 i0 j : Nat} (F : zFL (zyO Y) idx s0 j 0) (d : decode (zyC Y) pc = .ok (.getfield idx, 3)) (h : zAt l G Y E (pc + 3) lv (vi (zmI M s0 i0 j) :: st) M c k) : zAt l G Y E pc lv (vr s0 i0 :: st) M c k := by
  intro p e s m args below meth cd H locs ls C hlv hst hR hlo hl
  refine Z_getv C F d (zkh hst) hR ?_
  have e1 : zfv G M s0 i0 j = .int (zmI M s0 i0 j) := by
    obtain ⟨_, _, _, _, _, _, _, hf, _⟩ := F
    exact zfv_0 hf
  rw [e1]
  exact h p e s m args below meth cd H locs ls C hlv (zkc trivial (zk1 hst)) hR hlo hl
theorem Z_getR {idx s0 i0 j s1 i1 : Nat} (F : zFL (zyO Y) idx s0 j 1) (hz : zref s0 i0 j = (s1, i1)) (ho : i0 < zcnt s0 → i1 < zcnt s1) (d : decode (zyC Y) pc = .ok (.getfield idx, 3)) (h : zAt l G Y E (pc + 3) lv (vr s1 i1 :: st) M c k) : zAt l G Y E pc lv (vr s0 i0 :: st) M c k := by
  intro p e s m args below meth cd H locs ls C hlv hst hR hlo hl
  refine Z_getv C F d (zkh hst) hR ?_
  have e1 : zfv G M s0 i0 j = .ref (ga G s1 i1) := by
    obtain ⟨_, _, _, _, _, _, _, hf, _⟩ := F
    rw [zfv_1 hf, hz]
  rw [e1]
  exact h p e s m args below meth cd H locs ls C hlv (zkc (v := vr s1 i1) (ho (zkh hst)) (zk1 hst)) hR hlo hl
theorem Z_getN {idx s0 i0 j : Nat} (F : zFL (zyO Y) idx s0 j 2) (d : decode (zyC Y) pc = .ok (.getfield idx, 3)) (h : zAt l G Y E (pc + 3) lv (va (zmN M s0 i0 j) :: st) M c k) : zAt l G Y E pc lv (vr s0 i0 :: st) M c k := by
  intro p e s m args below meth cd H locs ls C hlv hst hR hlo hl
  refine Z_getv C F d (zkh hst) hR ?_
  have e1 : zfv G M s0 i0 j = .ref (zmN M s0 i0 j) := by
    obtain ⟨_, _, _, _, _, _, _, hf, _⟩ := F
    exact zfv_2 hf
  rw [e1]
  exact h p e s m args below meth cd H locs ls C hlv (zkc trivial (zk1 hst)) hR hlo hl
/-- one object is written: the heap holds what M' says -/
theorem zRep.put {M M' : zM} {H H1 : Heap} {s0 i0 : Nat} (hR : zRep G M H) (hi : i0 < zcnt s0) (z : H1.size = H.size) (oq : ∀ q : Nat, q ≠ ga G s0 i0 → H1[q]? = H[q]?) (h0 : zhold G M' s0 i0 H1)
    (hs : ∀ s i : Nat, ¬ (s = s0 ∧ i = i0) → zmI M' s i = zmI M s i ∧ zmL M' s i = zmL M s i ∧ zmD M' s i = zmD M s i ∧ zmN M' s i = zmN M s i) (hb : M'.2.2.2.2 = M.2.2.2.2) (hkd : zkd s0 ≠ none) : zRep G M' H1 := by
  obtain ⟨hG, r1, r2, r3, ⟨v, r4, r5, r6, r7⟩, r8⟩ := hR
  have hbT : zmT M' = zmT M := congrArg (fun x => x.1) hb
  have hbB : zmB M' = zmB M := congrArg (fun x => x.2.1) hb
  have hbC : zmC M' = zmC M := congrArg (fun x => x.2.2) hb
  have h14 : s0 ≠ 14 := fun e => hkd (by rw [e]; rfl)
  have h52 : s0 ≠ 52 := fun e => hkd (by rw [e]; rfl)
  have oz : ∀ q : Nat, zfree G q → H1[q]? = H[q]? := fun q hq => oq q (hq s0 i0 hi)
  refine ⟨hG, fun q hq => ?_, by rw [z]; exact r2, fun s i h => ?_, ⟨v, ?_, ?_, ?_, ?_⟩, by rw [hbT]; exact r8⟩
  · rw [oq q (fun e => by have := hG.2 s0 i0 hi h52; rw [← e] at this; exact absurd hq (Nat.not_lt.mpr this))]
    exact r1 q hq
  · by_cases hh : s = s0 ∧ i = i0
    · obtain ⟨rfl, rfl⟩ := hh
      exact h0
    · obtain ⟨e1, e2, e3, e4⟩ := hs s i hh
      exact ((r3 s i h).same e1 e2 e3 e4).kept (oq _ (fun e => hh (hG.1 s i s0 i0 h hi e)))
  · obtain ⟨ml, f, b1, b2, b3, b4, b5, b6, b7, b8⟩ := r4
    refine ⟨ml, f, ?_, ?_, by rw [hbB]; exact b3, by rw [hbB]; exact b4, b5, by rw [hbB]; exact b6, b7, b8⟩
    · rw [hbB]
      exact b1.kept (oq _ (fun e => h14 (hG.1 14 0 s0 i0 (by decide) hi e).1.symm))
    · rw [hbB, oz v b7]
      exact b2
  · intro a t ht
    rw [hbT] at ht
    obtain ⟨v2, ⟨⟨cl, b1, b1'⟩, ⟨cl2, b2, b2'⟩, b3⟩, f1, f2, n1, n2⟩ := r5 a t ht
    refine ⟨v2, ⟨⟨cl, (oz a f1).trans b1, b1'⟩, ⟨cl2, (oz v2 f2).trans b2, b2'⟩, b3⟩, f1, f2, ?_, ?_⟩
    · unfold zx; rw [hbC]; exact n1
    · unfold zx; rw [hbC]; exact n2
  · intro q n f hq
    rw [hbC] at hq
    obtain ⟨c1, c2, c3⟩ := r6 q n f hq
    exact ⟨(oz q c2).trans c1, c2, c3⟩
  · rw [hbC]; exact r7
theorem zfr_at {H : Heap} (hR : zRep G M H) {s i : Nat} (hi : i < zcnt s) (hkd : zkd s ≠ none) : zfr G (ga G s i) := by
  have ne : ∀ s', zkd s' = none → 0 < zcnt s' → ga G s i ≠ ga G s' 0 := fun s' e1 e2 e3 => hkd (by rw [(hR.1.1 s i s' 0 hi e2 e3).1]; exact e1)
  exact ⟨hR.1.2 s i hi (fun e => hkd (by rw [e]; rfl)), ne 50 rfl (by decide), ne 51 rfl (by decide)⟩
theorem Z_putv {p : Program} {e : Env} {R : Room} {s : State} {m : MethodId} {args : Array Value} {below : List Frame} {meth : Method} {cd : Code} {H : Heap} {locs : List Loc} {ls : Array Slot} {rest : List Value} {Q : State → Prop} {idx s0 i0 j f : Nat} {ty : FieldType} {v : Value} {M' : zM}
    (C : zCtx G Y p s m args meth cd) (F : zFP (zyO Y) idx s0 j f ty) (d : decode (zyC Y) pc = .ok (.putfield idx, 3)) (hi : i0 < zcnt s0) (hR : zRep G M H) (hlo : ∀ q ∈ locs, zfr G q.base) (hn : narrow ty v = v) (hfit : fits ty v = true)
    (hv : zfv G M' s0 i0 j = v) (ho : ∀ j', j' ≠ j → zfv G M' s0 i0 j' = zfv G M s0 i0 j')
    (hs : ∀ s i : Nat, ¬ (s = s0 ∧ i = i0) → zmI M' s i = zmI M s i ∧ zmL M' s i = zmL M s i ∧ zmD M' s i = zmD M s i ∧ zmN M' s i = zmN M s i) (hb : M'.2.2.2.2 = M.2.2.2.2)
    (h : ∀ (H1 : Heap) (locs1 : List Loc), zRep G M' H1 → (∀ q ∈ locs1, zfr G q.base) → W p l e R s m args below meth cd H1 locs1 c k Q (F0 m (pc + 3) ls rest)) : W p l e R s m args below meth cd H locs c k Q (F0 m pc ls (v :: .ref (ga G s0 i0) :: rest)) := by
  obtain ⟨ci, Cn, T, N, ty0, ⟨hk, hc, hj, hf, hw, hin⟩, hty, hnm, hfin, hd⟩ := F
  have hh := zrow hR hi
  unfold zhold at hh
  rw [hk] at hh
  obtain ⟨r, h1, cell, q1, q2, q3, q4⟩ := hh
  have hr : r = (Cn, T, N) := Option.some.inj (h1.symm.trans hc)
  subst hr
  have hts := C.2.2.2.2.2.1
  have hap := va_apart (own := zyO Y) hts hin ty0 hty hnm (zctK C) hc
  obtain ⟨hS, hfc, kC, hkC, hkind⟩ := (zctK C).1 ci _ hc
  obtain ⟨cf, kf, fi, fl, hfi, hsl⟩ := hS j hj
  have hlay := hts _ (hin _ (u_in_lay hj))
  unfold u_lay at hlay
  rw [if_neg (by rw [hfin]; decide)] at hlay
  have hst := (u_facts hfc hkC (u_lays hts hin hj) hfi).1
  have h6 := u_store hfc hkC hkind hlay hfi hd hn hfit
  have h14 : zkd s0 ≠ none := fun e => by rw [hk] at e; cases e
  refine W.putK C.1 C.2.1 (f := fl) ⟨C.2.2.2.2.1, hts _ hw, ⟨_, _, _, hfi⟩, hst⟩ (by rw [q2]; exact h6) q1 q3 (by rw [hsl]; exact k2_hasslot (q4 j hj)) rfl rfl d fun H' e1 e2 e3 => ?_
  rw [hsl] at e1
  refine h H' _ (zRep.put hR hi e2 e3 ?_ hs hb h14) (fun q hq => ?_)
  · unfold zhold
    rw [hk]
    refine ⟨_, hc, t_OB.to (V := updV (zfv G M s0 i0) j v) ⟨_, e1, q2, q3, t_set q4 hap hj v⟩ (fun j' _ => ?_)⟩
    by_cases hjj : j' = j
    · subst hjj
      simp [updV, hv]
    · simp [updV, hjj, ho j' hjj]
  · rcases List.mem_append.mp hq with h1 | h1
    · exact hlo q h1
    · rw [List.mem_singleton.mp h1]
      exact zfr_at hR hi h14
theorem Z_putI {idx s0 i0 j : Nat} {ty : FieldType} {x : Int32} (F : zFP (zyO Y) idx s0 j 0 ty) (hn : narrow ty (.int x) = .int x) (hfit : fits ty (.int x) = true) (d : decode (zyC Y) pc = .ok (.putfield idx, 3)) (h : zAt l G Y E (pc + 3) lv st (zsI M s0 i0 j x) c k) : zAt l G Y E pc lv (vi x :: vr s0 i0 :: st) M c k := by
  intro p e s m args below meth cd H locs ls C hlv hst hR hlo hl
  have hf : zfld s0 j = 0 := by obtain ⟨_, _, _, _, _, ⟨_, _, _, hf, _⟩, _⟩ := F; exact hf
  refine Z_putv (M' := zsI M s0 i0 j x) C F d (zkh (zk1 hst)) hR hlo hn hfit ?_ ?_ ?_ rfl (fun H1 locs1 hR1 hlo1 => h p e s m args below meth cd H1 locs1 ls C hlv (zk1 (zk1 hst)) hR1 hlo1 hl)
  · rw [zfv_0 hf]
    simp [zmI, zsI, zsIr, zrw, zup]
  · intro j' hj'
    unfold zfv
    simp [zmI, zmN, zsI, zsIr, zrw, zup, hj']
  · intro s i hh
    simp [zmI, zmL, zmD, zmN, zsI, zsIr, zrw, hh]
theorem Z_putN {idx s0 i0 j a0 : Nat} {ty : FieldType} (F : zFP (zyO Y) idx s0 j 2 ty) (hn : narrow ty (.ref a0) = .ref a0) (hfit : fits ty (.ref a0) = true) (d : decode (zyC Y) pc = .ok (.putfield idx, 3)) (h : zAt l G Y E (pc + 3) lv st (zsN M s0 i0 j a0) c k) : zAt l G Y E pc lv (va a0 :: vr s0 i0 :: st) M c k := by
  intro p e s m args below meth cd H locs ls C hlv hst hR hlo hl
  have hf : zfld s0 j = 2 := by obtain ⟨_, _, _, _, _, ⟨_, _, _, hf, _⟩, _⟩ := F; exact hf
  refine Z_putv (M' := zsN M s0 i0 j a0) C F d (zkh (zk1 hst)) hR hlo hn hfit ?_ ?_ ?_ rfl (fun H1 locs1 hR1 hlo1 => h p e s m args below meth cd H1 locs1 ls C hlv (zk1 (zk1 hst)) hR1 hlo1 hl)
  · rw [zfv_2 hf]
    simp [zmN, zsN, zsNr, zrw, zup]
  · intro j' hj'
    unfold zfv
    simp [zmI, zmN, zsN, zsNr, zrw, zup, hj']
  · intro s i hh
    simp [zmI, zmL, zmD, zmN, zsN, zsNr, zrw, hh]
/-! arrays -/
theorem zarr_at {G : zG} {M : zM} {H : Heap} (hR : zRep G M H) {s i t n : Nat} (hi : i < zcnt s) (hk : zkd s = some (.inr (t, n))) : H[ga G s i]? = some (vp_cell (gA G t) (n, zarr G M s i t)) := by
  have hh := zrow hR hi
  unfold zhold at hh
  rw [hk] at hh
  exact hh
theorem zarrT {G : zG} {Y : zY} {p : Program} {s : State} {m : MethodId} {args : Array Value} {meth : Method} {cd : Code} (C : zCtx G Y p s m args meth cd) {t : Nat} (h : t < 8) : ArrOfT s (gA G t) (zty t) := ((zctK C).2 t _ (zTys_at G h)).1
theorem Z_iald {s0 i0 n : Nat} {x : Int32} (hk : zkd s0 = some (.inr (0, n))) (hin : vp_in x n) (d : decode (zyC Y) pc = .ok (.iaload, 1)) (h : zAt l G Y E (pc + 1) lv (vi (zmI M s0 i0 x.toNatClampNeg) :: st) M c k) : zAt l G Y E pc lv (vi x :: vr s0 i0 :: st) M c k := by
  intro p e s m args below meth cd H locs ls C hlv hst hR hlo hl
  have hlt : x.toNatClampNeg < n := Nat.not_le.mp fun q => hin (Or.inr q)
  have ha := zarr_at (i := i0) hR (zkh (zk1 hst)) hk
  exact W.iald (v := .int (zmI M s0 i0 x.toNatClampNeg)) C.1 C.2.1 ha (zarrT C (t := 0) (by decide) n (fun j => .int (zmI M s0 i0 j))) (fun q => by cases q) (by show ¬ (x < 0 ∨ (arrV _ _ _).slots.size ≤ _); rw [arrV_size]; exact hin) (by show (arrV _ _ _).slots[_]? = _; rw [arrV_read _ _ hlt]) rfl rfl d (h p e s m args below meth cd H locs ls C hlv (zkc trivial (zk1 (zk1 hst))) hR hlo hl)
theorem Z_zald {s0 i0 n : Nat} {x : Int32} (hk : zkd s0 = some (.inr (2, n))) (hin : vp_in x n) (d : decode (zyC Y) pc = .ok (.baload, 1)) (h : zAt l G Y E (pc + 1) lv (vi (zmI M s0 i0 x.toNatClampNeg) :: st) M c k) : zAt l G Y E pc lv (vi x :: vr s0 i0 :: st) M c k := by
  intro p e s m args below meth cd H locs ls C hlv hst hR hlo hl
  have hlt : x.toNatClampNeg < n := Nat.not_le.mp fun q => hin (Or.inr q)
  have ha := zarr_at (i := i0) hR (zkh (zk1 hst)) hk
  exact W.zald (v := .int (zmI M s0 i0 x.toNatClampNeg)) C.1 C.2.1 ha (zarrT C (t := 2) (by decide) n (fun j => .int (zmI M s0 i0 j))) (fun q => by cases q) (by show ¬ (x < 0 ∨ (arrV _ _ _).slots.size ≤ _); rw [arrV_size]; exact hin) (by show (arrV _ _ _).slots[_]? = _; rw [arrV_read _ _ hlt]) rfl rfl d (h p e s m args below meth cd H locs ls C hlv (zkc trivial (zk1 (zk1 hst))) hR hlo hl)
theorem Z_lald {s0 i0 n : Nat} {x : Int32} (hk : zkd s0 = some (.inr (1, n))) (hin : vp_in x n) (d : decode (zyC Y) pc = .ok (.laload, 1)) (h : zAt l G Y E (pc + 1) lv (vl (zmL M s0 i0 x.toNatClampNeg) :: st) M c k) : zAt l G Y E pc lv (vi x :: vr s0 i0 :: st) M c k := by
  intro p e s m args below meth cd H locs ls C hlv hst hR hlo hl
  have hlt : x.toNatClampNeg < n := Nat.not_le.mp fun q => hin (Or.inr q)
  have ha := zarr_at (i := i0) hR (zkh (zk1 hst)) hk
  exact W.lald (v := .long (zmL M s0 i0 x.toNatClampNeg)) C.1 C.2.1 ha (zarrT C (t := 1) (by decide) n (fun j => .long (zmL M s0 i0 j))) (fun q => by cases q) (by show ¬ (x < 0 ∨ (arrV _ _ _).slots.size ≤ _); rw [arrV_size]; exact hin) (by show (arrV _ _ _).slots[_]? = _; rw [arrV_read _ _ hlt]) rfl rfl d (h p e s m args below meth cd H locs ls C hlv (zkc trivial (zk1 (zk1 hst))) hR hlo hl)
theorem Z_dald {s0 i0 n : Nat} {x : Int32} (hk : zkd s0 = some (.inr (5, n))) (hin : vp_in x n) (d : decode (zyC Y) pc = .ok (.daload, 1)) (h : zAt l G Y E (pc + 1) lv (vd (zmD M s0 i0 x.toNatClampNeg) :: st) M c k) : zAt l G Y E pc lv (vi x :: vr s0 i0 :: st) M c k := by
  intro p e s m args below meth cd H locs ls C hlv hst hR hlo hl
  have hlt : x.toNatClampNeg < n := Nat.not_le.mp fun q => hin (Or.inr q)
  have ha := zarr_at (i := i0) hR (zkh (zk1 hst)) hk
  exact W.dald (v := .double (zmD M s0 i0 x.toNatClampNeg)) C.1 C.2.1 ha (zarrT C (t := 5) (by decide) n (fun j => .double (zmD M s0 i0 j))) (fun q => by cases q) (by show ¬ (x < 0 ∨ (arrV _ _ _).slots.size ≤ _); rw [arrV_size]; exact hin) (by show (arrV _ _ _).slots[_]? = _; rw [arrV_read _ _ hlt]) rfl rfl d (h p e s m args below meth cd H locs ls C hlv (zkc trivial (zk1 (zk1 hst))) hR hlo hl)
theorem zarr_ref {G : zG} {M : zM} {s i t : Nat} (ht : t = 6 ∨ t = 7) : zarr G M s i t = .inr (.inr (.inr (.inr (fun k => some (ga G (zref s i k).1 (zref s i k).2))))) := by
  rcases ht with rfl | rfl <;> rfl
theorem zty_ref {t : Nat} (ht : t = 6 ∨ t = 7) : (zty t).isReference = true := by
  rcases ht with rfl | rfl <;> rfl
/-- an object out of a fixed row of objects -/
theorem Z_aald {s0 i0 n t s1 i1 : Nat} {x : Int32} (hk : zkd s0 = some (.inr (t, n))) (ht : t = 6 ∨ t = 7) (hin : vp_in x n) (hz : zref s0 i0 x.toNatClampNeg = (s1, i1)) (ho : i0 < zcnt s0 → i1 < zcnt s1) (d : decode (zyC Y) pc = .ok (.aaload, 1)) (h : zAt l G Y E (pc + 1) lv (vr s1 i1 :: st) M c k) : zAt l G Y E pc lv (vi x :: vr s0 i0 :: st) M c k := by
  intro p e s m args below meth cd H locs ls C hlv hst hR hlo hl
  have hlt : x.toNatClampNeg < n := Nat.not_le.mp fun q => hin (Or.inr q)
  have ha := zarr_at (i := i0) hR (zkh (zk1 hst)) hk
  rw [zarr_ref ht] at ha
  refine W.aald (v := .ref (ga G s1 i1)) (ty := zty t) C.1 C.2.1 ha (zarrT C (t := t) (by omega) n (fun j => va_rf (some (ga G (zref s0 i0 j).1 (zref s0 i0 j).2)))) (zty_ref ht) (fun q => by cases q) (by show ¬ (x < 0 ∨ (arrV _ _ _).slots.size ≤ _); rw [arrV_size]; exact hin) ?_ rfl rfl d (h p e s m args below meth cd H locs ls C hlv (zkc (v := vr s1 i1) (ho (zkh (zk1 hst))) (zk1 (zk1 hst))) hR hlo hl)
  show (arrV _ _ _).slots[_]? = _
  rw [arrV_read _ _ hlt]
  show some (Value.ref (ga G (zref s0 i0 x.toNatClampNeg).1 (zref s0 i0 x.toNatClampNeg).2)) = _
  rw [hz]
theorem Z_alen {s0 i0 t n : Nat} {v : Int32} (hk : zkd s0 = some (.inr (t, n))) (ht : t < 8) (hv : Int32.ofNat n = v) (d : decode (zyC Y) pc = .ok (.arraylength, 1)) (h : zAt l G Y E (pc + 1) lv (vi v :: st) M c k) : zAt l G Y E pc lv (vr s0 i0 :: st) M c k := by
  intro p e s m args below meth cd H locs ls C hlv hst hR hlo hl
  have ha := zarr_at hR (zkh hst) hk
  have hP : va_P (gD G) vwCl [(ga G s0 i0, .inl (gA G t, n, zarr G M s0 i0 t))] H := fun j q hq => by
    match j, hq with
    | 0, hq => cases hq; exact ha
    | j + 1, hq => simp at hq
  exact va_alen C.1 C.2.1 (zctK C) hP 0 t rfl (zTys_at G ht) hv d (h p e s m args below meth cd H locs ls C hlv (zkc trivial (zk1 hst)) hR hlo hl)
theorem zlo_put {G : zG} {M : zM} {H : Heap} (hR : zRep G M H) {s i j : Nat} (hi : i < zcnt s) (hkd : zkd s ≠ none) {locs : List Loc} (hlo : ∀ q ∈ locs, zfr G q.base) : ∀ q ∈ locs ++ [⟨ga G s i, j⟩], zfr G q.base := by
  intro q hq
  rcases List.mem_append.mp hq with h1 | h1
  · exact hlo q h1
  · rw [List.mem_singleton.mp h1]
    exact zfr_at hR hi hkd
theorem Z_iast {s0 i0 n : Nat} {x y : Int32} (hk : zkd s0 = some (.inr (0, n))) (hin : vp_in x n) (d : decode (zyC Y) pc = .ok (.iastore, 1)) (h : zAt l G Y E (pc + 1) lv st (zsI M s0 i0 x.toNatClampNeg y) c k) : zAt l G Y E pc lv (vi y :: vi x :: vr s0 i0 :: st) M c k := by
  intro p e s m args below meth cd H locs ls C hlv hst hR hlo hl
  have hi : i0 < zcnt s0 := zkh (zk1 (zk1 hst))
  have ha := zarr_at hR hi hk
  refine W.iast C.1 C.2.1 ha (zarrT C (t := 0) (by decide) n (fun j => .int (zmI M s0 i0 j))) (fun q => by cases q) (by show ¬ (x < 0 ∨ (arrV _ _ _).slots.size ≤ _); rw [arrV_size]; exact hin) rfl rfl d fun H1 e1 z oq => ?_
  refine h p e s m args below meth cd H1 _ ls C hlv (zk1 (zk1 (zk1 hst))) (zRep.put hR hi z oq ?_ ?_ rfl (fun e => by rw [hk] at e; cases e)) (zlo_put hR hi (fun e => by rw [hk] at e; cases e) hlo) hl
  · unfold zhold
    rw [hk]
    show H1[_]? = some (vp_cell _ (n, .inl _))
    rw [e1]
    show some ((arrV (gA G 0) n (fun j => .int (zmI M s0 i0 j))).setSlot _ _) = _
    rw [arrV_store, vp_cell_i]
    congr 2
    funext q
    by_cases hq : q = x.toNatClampNeg
    · subst hq
      simp [updV, zmI, zsI, zsIr, zrw, zup]
    · simp [updV, zmI, zsI, zsIr, zrw, zup, hq]
  · intro s i hh
    simp [zmI, zmL, zmD, zmN, zsI, zsIr, zrw, hh]
theorem Z_zast {s0 i0 n : Nat} {x y : Int32} (hk : zkd s0 = some (.inr (2, n))) (hin : vp_in x n) (hn : narrow .boolean (.int y) = .int y) (d : decode (zyC Y) pc = .ok (.bastore, 1)) (h : zAt l G Y E (pc + 1) lv st (zsI M s0 i0 x.toNatClampNeg y) c k) : zAt l G Y E pc lv (vi y :: vi x :: vr s0 i0 :: st) M c k := by
  intro p e s m args below meth cd H locs ls C hlv hst hR hlo hl
  have hi : i0 < zcnt s0 := zkh (zk1 (zk1 hst))
  have ha := zarr_at hR hi hk
  refine W.zast C.1 C.2.1 ha (zarrT C (t := 2) (by decide) n (fun j => .int (zmI M s0 i0 j))) (fun q => by cases q) (by show ¬ (x < 0 ∨ (arrV _ _ _).slots.size ≤ _); rw [arrV_size]; exact hin) rfl rfl d fun H1 e1 z oq => ?_
  refine h p e s m args below meth cd H1 _ ls C hlv (zk1 (zk1 (zk1 hst))) (zRep.put hR hi z oq ?_ ?_ rfl (fun e => by rw [hk] at e; cases e)) (zlo_put hR hi (fun e => by rw [hk] at e; cases e) hlo) hl
  · unfold zhold
    rw [hk]
    show H1[_]? = some (vp_cell _ (n, .inl _))
    rw [e1]
    show some ((arrV (gA G 2) n (fun j => .int (zmI M s0 i0 j))).setSlot _ _) = _
    rw [hn, arrV_store, vp_cell_i]
    congr 2
    funext q
    by_cases hq : q = x.toNatClampNeg
    · subst hq
      simp [updV, zmI, zsI, zsIr, zrw, zup]
    · simp [updV, zmI, zsI, zsIr, zrw, zup, hq]
  · intro s i hh
    simp [zmI, zmL, zmD, zmN, zsI, zsIr, zrw, hh]
theorem Z_last {s0 i0 n : Nat} {x : Int32} {y : Int64} (hk : zkd s0 = some (.inr (1, n))) (hin : vp_in x n) (d : decode (zyC Y) pc = .ok (.lastore, 1)) (h : zAt l G Y E (pc + 1) lv st (zsL M s0 i0 x.toNatClampNeg y) c k) : zAt l G Y E pc lv (vl y :: vi x :: vr s0 i0 :: st) M c k := by
  intro p e s m args below meth cd H locs ls C hlv hst hR hlo hl
  have hi : i0 < zcnt s0 := zkh (zk1 (zk1 hst))
  have ha := zarr_at hR hi hk
  refine W.last C.1 C.2.1 ha (zarrT C (t := 1) (by decide) n (fun j => .long (zmL M s0 i0 j))) (fun q => by cases q) (by show ¬ (x < 0 ∨ (arrV _ _ _).slots.size ≤ _); rw [arrV_size]; exact hin) rfl rfl d fun H1 e1 z oq => ?_
  refine h p e s m args below meth cd H1 _ ls C hlv (zk1 (zk1 (zk1 hst))) (zRep.put hR hi z oq ?_ ?_ rfl (fun e => by rw [hk] at e; cases e)) (zlo_put hR hi (fun e => by rw [hk] at e; cases e) hlo) hl
  · unfold zhold
    rw [hk]
    show H1[_]? = some (vp_cell _ (n, .inr (.inl _)))
    rw [e1]
    show some ((arrV (gA G 1) n (fun j => .long (zmL M s0 i0 j))).setSlot _ _) = _
    rw [arrV_store, vp_cell_l]
    congr 2
    funext q
    by_cases hq : q = x.toNatClampNeg
    · subst hq
      simp [updV, zmL, zsL, zsLr, zrw, zup]
    · simp [updV, zmL, zsL, zsLr, zrw, zup, hq]
  · intro s i hh
    simp [zmI, zmL, zmD, zmN, zsL, zsLr, zrw, hh]
theorem Z_dast {s0 i0 n : Nat} {x : Int32} {y : UInt64} (hk : zkd s0 = some (.inr (5, n))) (hin : vp_in x n) (d : decode (zyC Y) pc = .ok (.dastore, 1)) (h : zAt l G Y E (pc + 1) lv st (zsD M s0 i0 x.toNatClampNeg y) c k) : zAt l G Y E pc lv (vd y :: vi x :: vr s0 i0 :: st) M c k := by
  intro p e s m args below meth cd H locs ls C hlv hst hR hlo hl
  have hi : i0 < zcnt s0 := zkh (zk1 (zk1 hst))
  have ha := zarr_at hR hi hk
  refine W.dast C.1 C.2.1 ha (zarrT C (t := 5) (by decide) n (fun j => .double (zmD M s0 i0 j))) (fun q => by cases q) (by show ¬ (x < 0 ∨ (arrV _ _ _).slots.size ≤ _); rw [arrV_size]; exact hin) rfl rfl d fun H1 e1 z oq => ?_
  refine h p e s m args below meth cd H1 _ ls C hlv (zk1 (zk1 (zk1 hst))) (zRep.put hR hi z oq ?_ ?_ rfl (fun e => by rw [hk] at e; cases e)) (zlo_put hR hi (fun e => by rw [hk] at e; cases e) hlo) hl
  · unfold zhold
    rw [hk]
    show H1[_]? = some (vp_cell _ (n, .inr (.inr (.inr (.inl _)))))
    rw [e1]
    show some ((arrV (gA G 5) n (fun j => .double (zmD M s0 i0 j))).setSlot _ _) = _
    rw [arrV_store, vp_cell_d]
    congr 2
    funext q
    by_cases hq : q = x.toNatClampNeg
    · subst hq
      simp [updV, zmD, zsD, zsDr, zrw, zup]
    · simp [updV, zmD, zsD, zsDr, zrw, zup, hq]
  · intro s i hh
    simp [zmI, zmL, zmD, zmN, zsD, zsDr, zrw, hh]
end ZH
