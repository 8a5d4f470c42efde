/-! printed by wip/whole/mklaw.py. THE LAW'S OWN WALK. Beside the memory: the number in its row of one long, the number in its row of one double. -/
theorem f2d_n {a : UInt32} (h : nn6 (FP.Core.decode FP.Core.b32 a.toNat)) : vf_n64 (FP.f2d a) := by
  have e : FP.Core.fIsNaN a = false := by
    show decide (FP.Core.decode FP.Core.b32 a.toNat = .nan) = false
    exact decide_eq_false fun q => h q
  unfold FP.f2d
  rw [e]
  show vf_n64 (UInt64.ofNat (FP.Core.encode FP.Core.b64 (FP.Core.round FP.Core.b64 (FP.Core.decode FP.Core.b32 a.toNat))))
  refine n64_of ?_
  generalize hd : FP.Core.decode FP.Core.b32 a.toNat = d at h ⊢
  cases d with
  | nan => exact absurd rfl h
  | inf s => exact .inl ⟨_, rfl⟩
  | fin s c q => exact rr6 _ _ _ _
theorem fdiv_nn {a b : UInt32} (ha : nn6 (FP.Core.decode FP.Core.b32 a.toNat)) (hb : nz3 b) : nn6 (FP.Core.decode FP.Core.b32 (FP.fdiv a b).toNat) := by
  obtain ⟨t, c, r, h1, h2⟩ := hb
  refine nn3_of ?_
  rw [h1]
  exact quo3 ha h2
section
variable {l : Launch} {G : zG} {M : zM} {A : Nat}
/-- P_lossShare, and what it answers is a number -/
theorem P_lossShareN (hI : Inv M A) (hA : A ≤ 299000000) : zCalF l G Y_X8_lossShare 0 0 [vr 0 0] M (fun x M1 => vf_n64 (FP.f2d x) ∧ zCalF l G Y_X9_lossShare 0 0 [vr 30 0] M1 (fun y M2 => y = x ∧ Good A 0 M2)) := by
  obtain ⟨n, hR, hO⟩ := hI.1
  have ht := hO.tim
  have hn := hO.nf
  have hb : sBnd A (9 * (zmI M 31 0 7).toInt.toNat) := ⟨by omega, by omega⟩
  have e31 : zmI (zsI M 30 0 7 0) 31 0 = zmI M 31 0 := z31_thr M 0
  have en : (zmI (zsI M 30 0 7 0) 31 0 11).toInt = n := by rw [z31_thr]; exact hn.1
  have b5 := acc_bnd (p := -1) (a := 0) hO hb (by omega)
  have ea : sp_acc (zmI M 31 0) n 0 (-1) = sp_tot (zmI M 31 0) 0 n := by
    unfold sp_acc
    rw [if_neg (by rw [ti_n1]; omega)]
  refine zm_X8_lossShare (C_total (a := 0) hO hb hR rfl (by omega) ⟨fun c => ⟨f2d_n (fun h => absurd h (by decide +kernel)), ?_⟩, fun c => C_dropped hO hb hR ?_⟩)
  · have c2 : sp_acc (zmI M 31 0) n 0 (-1) = 0 := (tl_0 b5.1).mp c
    refine zm_X9_lossShare (R_total (a := 0) en hn.2 rfl (by omega) ⟨fun d => ?_, fun _ => ⟨rfl, Good.z hI⟩⟩)
    rw [e31, ← ea] at d
    exact absurd c2 d
  · have c2 : ¬ sp_acc (zmI M 31 0) n 0 (-1) = 0 := fun d => c ((tl_0 b5.1).mpr d)
    have c3 : 0 < (sp_acc (zmI M 31 0) n 0 (-1)).toInt := by
      rw [ti_eq, ti_0] at c2
      omega
    have nz : nz3 (FP.l2f (sp_acc (zmI M 31 0) n 0 (-1)).toInt64) := l2f_nz (by rw [tl_32]; exact c3) (by rw [tl_32]; omega)
    have hv : ∀ v : Int64, vf_n32 (FP.fdiv (FP.l2f v) (FP.l2f (sp_acc (zmI M 31 0) n 0 (-1)).toInt64)) := fun v => fdiv_n (l2f_nn v) nz
    refine ⟨hv _, f2d_n (fdiv_nn (l2f_nn _) nz), zm_X9_lossShare (R_total (a := 0) en hn.2 rfl (by omega) ⟨fun _ => R_dropped en hn.2 ⟨?_, ?_, Good.z hI⟩, fun d => ?_⟩)⟩
    · rw [i2f_l2f, i2f_l2f, e31, ← ea]
      exact hv _
    · rw [i2f_l2f, i2f_l2f, e31, ← ea]
      rfl
    · rw [e31, ← ea] at d
      exact absurd d c2
end
abbrev lW : Type := zM × Int64 × UInt64
def lP (G : zG) (w : lW) (H : Heap) : Prop := (∃ f : Nat → Int64, f 0 = w.2.1 ∧ H[ga G 50 0]? = some (vp_cell (gA G 1) (1, .inr (.inl f)))) ∧ ∃ f : Nat → UInt64, f 0 = w.2.2 ∧ H[ga G 51 0]? = some (vp_cell (gA G 5) (1, .inr (.inr (.inr (.inl f)))))
def lRep (G : zG) (w : lW) (H : Heap) : Prop := zRep G w.1 H ∧ lP G w H
/-- what a call with the mask zfr leaves alone -/
def lKept (G : zG) (st t : State) : Prop := ∀ q : Nat, q < st.heap.size → ¬ zfr G q → t.heap[q]? = st.heap[q]?
theorem lP.kept {G : zG} {w w' : lW} {H H1 : Heap} (h : lP G w H) (e : w'.2 = w.2) (hk : ∀ q : Nat, q < H.size → ¬ zfr G q → H1[q]? = H[q]?) : lP G w' H1 := by
  obtain ⟨⟨f, e1, h1⟩, f2, e2, h2⟩ := h
  refine ⟨⟨f, by rw [e]; exact e1, ?_⟩, f2, by rw [e]; exact e2, ?_⟩
  · rw [hk _ (Array.getElem?_eq_some_iff.mp h1).1 (fun z => z.2.1 rfl)]
    exact h1
  · rw [hk _ (Array.getElem?_eq_some_iff.mp h2).1 (fun z => z.2.2 rfl)]
    exact h2
theorem lk_of {G : zG} {st t : State} {L : List Loc} {k n : Nat} (h : st.sameButNew ({ t with vm := st.vm } : State) L k n) (hL : ∀ z ∈ L, zfr G z.base) : lKept G st t := fun q hq hz => (vx_frame h).2 q hq (fun z hz' e => hz (e ▸ hL z hz'))
theorem lk_Met {l : Launch} {y : MethodName} {ws : List Cond} {rm : Room} {Pc : Array Value → State → Prop} {Qc : Array Value → State → Outcome → State → Prop} {mc ms : Nat} {G : zG} (h : Met l y ws rm Pc Qc mc ms (zfr G)) : Met l y ws rm Pc (fun a st o t => Qc a st o t ∧ lKept G st t) mc ms (zfr G) := by
  intro p e ha hc hk s m args below hf happ hP hK
  obtain ⟨n, o, h1, h2, h3, ⟨h4, L, hF, hL⟩⟩ := h p e ha hc hk s m args below hf happ hP hK
  exact ⟨n, o, h1, h2, h3, ⟨h4, lk_of hF.2.2 hL⟩, L, hF, hL⟩
theorem lk_MetX {l : Launch} {y : MethodName} {ws : List Cond} {rm : Room} {Pc : Array Value → State → Prop} {Qc : Array Value → State → Outcome → State → Prop} {XC : String → State → State → Prop} {mc ms : Nat} {G : zG} (h : vx_Met l y ws rm Pc Qc XC mc ms (zfr G)) : vx_Met l y ws rm Pc (fun a st o t => Qc a st o t ∧ lKept G st t) (fun E st t => XC E st t ∧ lKept G st t) mc ms (zfr G) := by
  intro p e ha hc hk s m args below hf happ hP hK
  obtain ⟨n, o, h1, h2, h3, h4⟩ := h p e ha hc hk s m args below hf happ hP hK
  refine ⟨n, o, h1, h2, h3, ?_⟩
  rcases h4 with ⟨h4, L, hF, hL⟩ | ⟨q, ho, E, ce, L, x1, x2, x3, x4, x5, x6, x7⟩
  · exact .inl ⟨⟨h4, lk_of hF.2.2 hL⟩, L, hF, hL⟩
  · exact .inr ⟨q, ho, E, ce, L, ⟨x1, lk_of x6 x7⟩, x2, x3, x4, x5, x6, x7⟩
theorem zRep.out {G : zG} {M : zM} {H H1 : Heap} {s0 : Nat} (hR : zRep G M H) (h0 : s0 = 50 ∨ s0 = 51) (z : H1.size = H.size) (oq : ∀ q : Nat, q ≠ ga G s0 0 → H1[q]? = H[q]?) : zRep G M H1 := by
  have hi : 0 < zcnt s0 := by rcases h0 with rfl | rfl <;> decide
  have h14 : s0 ≠ 14 := by omega
  have h52 : s0 ≠ 52 := by omega
  have hk : zkd s0 = none := by rcases h0 with rfl | rfl <;> rfl
  obtain ⟨hG, r1, r2, r3, ⟨v, r4, r5, r6, r7⟩, r8⟩ := hR
  have oz : ∀ q : Nat, zfree G q → H1[q]? = H[q]? := fun q hq => oq q (hq s0 0 hi)
  refine ⟨hG, fun q hq => ?_, by rw [z]; exact r2, fun s i h => ?_, ⟨v, ?_, ?_, ?_, r7⟩, r8⟩
  · rw [oq q (fun e => by have := hG.2 s0 0 hi h52; rw [← e] at this; exact absurd hq (Nat.not_lt.mpr this))]
    exact r1 q hq
  · by_cases hh : s = s0 ∧ i = 0
    · obtain ⟨rfl, rfl⟩ := hh
      have h3 := r3 s 0 h
      unfold zhold at h3 ⊢
      rw [hk] at h3 ⊢
      show s = 50 ∨ s = 51 → ga G s 0 < H1.size
      rw [z]
      exact h3
    · exact (r3 s i h).kept (oq _ (fun e => hh (hG.1 s i s0 0 h hi e)))
  · obtain ⟨ml, f, b1, b2, b3, b4, b5, b6, b7, b8⟩ := r4
    exact ⟨ml, f, b1.kept (oq _ (fun e => h14 (hG.1 14 0 s0 0 (by decide) hi e).1.symm)), by rw [oz v b7]; exact b2, b3, b4, b5, b6, b7, b8⟩
  · intro a t ht
    obtain ⟨v2, ⟨⟨cl, b1, b1'⟩, ⟨cl2, b2, b2'⟩, b3⟩, f1, f2, n1, n2⟩ := r5 a t ht
    exact ⟨v2, ⟨⟨cl, (oz a f1).trans b1, b1'⟩, ⟨cl2, (oz v2 f2).trans b2, b2'⟩, b3⟩, f1, f2, n1, n2⟩
  · intro q n f hq
    obtain ⟨c1, c2, c3⟩ := r6 q n f hq
    exact ⟨(oz q c2).trans c1, c2, c3⟩
def lAt (l : Launch) (G : zG) (Y : zY) (E : zE) (pc : Nat) (lv : List (Nat × zV)) (st : List zV) (M : lW) (c k : Nat) : Prop :=
  ∀ (p : Program) (e : Env) (s : State) (m : MethodId) (args : Array Value) (below : List Frame) (meth : Method) (cd : Code) (H : Heap) (locs : List Loc) (ls : Array Slot), zCtx G Y p s m args meth cd → (∀ q ∈ lv, zok q.2) → (∀ v ∈ st, zok v) → lRep G M H → (∀ q ∈ locs, gz G ≤ q.base) → lv_has ls (zyL Y) (lv.map (trq G)) →
    W p l e E.1 s m args below meth cd H locs c k (E.2 below s args) (F0 m pc ls (st.map (tr G)))
section LR
variable {l : Launch} {G : zG} {Y : zY} {E : zE} {pc : Nat} {lv : List (Nat × zV)} {st : List zV} {M : lW} {c k : Nat}
theorem L_iconst {n : Int} {v : Int32} (hv : Int32.ofInt n = v) (d : decode (zyC Y) pc = .ok (.iconst n, 1)) (h : lAt l G Y E (pc + 1) lv (vi v :: st) M c k) : lAt l G Y E (pc) lv (st) M c k := by
  intro p e s m args below meth cd H locs ls C hlv hst hR hlo hl
  exact lv_iconst C.1 C.2.1 d hv (h p e s m args below meth cd H locs ls C hlv (zkc trivial hst) hR hlo hl)
theorem L_bipush {n : Int} {v : Int32} (hv : (Int8.ofInt n).toInt32 = v) (d : decode (zyC Y) pc = .ok (.bipush n, 2)) (h : lAt l G Y E (pc + 2) lv (vi v :: st) M c k) : lAt l G Y E (pc) lv (st) M c k := by
  intro p e s m args below meth cd H locs ls C hlv hst hR hlo hl
  exact lv_bipush C.1 C.2.1 d hv (h p e s m args below meth cd H locs ls C hlv (zkc trivial hst) hR hlo hl)
theorem L_iload_n {j : Fin 4} {i : Nat} {x : Int32} (d : decode (zyC Y) pc = .ok (.iload_n j, 1)) (hi : (j : Nat) = i) (q : Nat) (hq : lv[q]? = some (i, vi x)) (h : lAt l G Y E (pc + 1) lv (vi x :: st) M c k) : lAt l G Y E (pc) lv (st) M c k := by
  intro p e s m args below meth cd H locs ls C hlv hst hR hlo hl
  exact lv_iload_n C.1 C.2.1 d hi (zlv_at hl hq) (h p e s m args below meth cd H locs ls C hlv (zkc trivial hst) hR hlo hl)
theorem L_iload {i : Nat} {x : Int32} (d : decode (zyC Y) pc = .ok (.iload i, 2)) (q : Nat) (hq : lv[q]? = some (i, vi x)) (h : lAt l G Y E (pc + 2) lv (vi x :: st) M c k) : lAt l G Y E (pc) lv (st) M c k := by
  intro p e s m args below meth cd H locs ls C hlv hst hR hlo hl
  exact lv_iload C.1 C.2.1 d (zlv_at hl hq) (h p e s m args below meth cd H locs ls C hlv (zkc trivial hst) hR hlo hl)
theorem L_lload {i : Nat} {x : Int64} (d : decode (zyC Y) pc = .ok (.lload i, 2)) (q : Nat) (hq : lv[q]? = some (i, vl x)) (h : lAt l G Y E (pc + 2) lv (vl x :: st) M c k) : lAt l G Y E (pc) lv (st) M c k := by
  intro p e s m args below meth cd H locs ls C hlv hst hR hlo hl
  exact lv_lload C.1 C.2.1 d (zlv_at hl hq) (h p e s m args below meth cd H locs ls C hlv (zkc trivial hst) hR hlo hl)
theorem L_dload {i : Nat} {x : UInt64} (d : decode (zyC Y) pc = .ok (.dload i, 2)) (q : Nat) (hq : lv[q]? = some (i, vd x)) (h : lAt l G Y E (pc + 2) lv (vd x :: st) M c k) : lAt l G Y E (pc) lv (st) M c k := by
  intro p e s m args below meth cd H locs ls C hlv hst hR hlo hl
  exact lv_dload C.1 C.2.1 d (zlv_at hl hq) (h p e s m args below meth cd H locs ls C hlv (zkc trivial hst) hR hlo hl)
theorem L_aload_n {s0 i0 : Nat} {j : Fin 4} {i : Nat} (d : decode (zyC Y) pc = .ok (.aload_n j, 1)) (hi : (j : Nat) = i) (q : Nat) (hq : lv[q]? = some (i, vr s0 i0)) (h : lAt l G Y E (pc + 1) lv (vr s0 i0 :: st) M c k) : lAt l G Y E (pc) lv (st) M c k := by
  intro p e s m args below meth cd H locs ls C hlv hst hR hlo hl
  exact lv_aload_n C.1 C.2.1 d hi (zlv_at hl hq) (h p e s m args below meth cd H locs ls C hlv (zkc (zlv_ok hlv hq) hst) hR hlo hl)
theorem L_aload {s0 i0 : Nat} {i : Nat} (d : decode (zyC Y) pc = .ok (.aload i, 2)) (q : Nat) (hq : lv[q]? = some (i, vr s0 i0)) (h : lAt l G Y E (pc + 2) lv (vr s0 i0 :: st) M c k) : lAt l G Y E (pc) lv (st) M c k := by
  intro p e s m args below meth cd H locs ls C hlv hst hR hlo hl
  exact lv_aload C.1 C.2.1 d (zlv_at hl hq) (h p e s m args below meth cd H locs ls C hlv (zkc (zlv_ok hlv hq) hst) hR hlo hl)
theorem L_istore_n {x : Int32} {j : Fin 4} {i : Nat} {lv2 : List (Nat × zV)} (d : decode (zyC Y) pc = .ok (.istore_n j, 1)) (hi : (j : Nat) = i) (hn : i < zyL Y) (he : (i, vi x) :: zf1 i lv = lv2) (h : lAt l G Y E (pc + 1) lv2 (st) M c k) : lAt l G Y E (pc) lv (vi x :: st) M c k := by
  intro p e s m args below meth cd H locs ls C hlv hst hR hlo hl
  exact lv_istore_n C.1 C.2.1 d hi hl hn (by rw [zf1_map, ← List.map_cons (f := trq G) (a := (i, vi x))]) (fun ls2 hl2 => h p e s m args below meth cd H locs ls2 C (zlv_put hlv (zkh hst) he) (zk1 hst) hR hlo (by rw [← he]; exact hl2))
theorem L_istore {x : Int32} {i : Nat} {lv2 : List (Nat × zV)} (d : decode (zyC Y) pc = .ok (.istore i, 2)) (hn : i < zyL Y) (he : (i, vi x) :: zf1 i lv = lv2) (h : lAt l G Y E (pc + 2) lv2 (st) M c k) : lAt l G Y E (pc) lv (vi x :: st) M c k := by
  intro p e s m args below meth cd H locs ls C hlv hst hR hlo hl
  exact lv_istore C.1 C.2.1 d hl hn (by rw [zf1_map, ← List.map_cons (f := trq G) (a := (i, vi x))]) (fun ls2 hl2 => h p e s m args below meth cd H locs ls2 C (zlv_put hlv (zkh hst) he) (zk1 hst) hR hlo (by rw [← he]; exact hl2))
theorem L_lstore {x : Int64} {i : Nat} {lv2 : List (Nat × zV)} (d : decode (zyC Y) pc = .ok (.lstore i, 2)) (hn : i + 1 < zyL Y) (he : (i, vl x) :: zf2 i lv = lv2) (h : lAt l G Y E (pc + 2) lv2 (st) M c k) : lAt l G Y E (pc) lv (vl x :: st) M c k := by
  intro p e s m args below meth cd H locs ls C hlv hst hR hlo hl
  exact lv_lstore C.1 C.2.1 d hl hn (by rw [zf2_map, ← List.map_cons (f := trq G) (a := (i, vl x))]) (fun ls2 hl2 => h p e s m args below meth cd H locs ls2 C (zlv_put hlv (zkh hst) he) (zk1 hst) hR hlo (by rw [← he]; exact hl2))
theorem L_dstore {x : UInt64} {i : Nat} {lv2 : List (Nat × zV)} (d : decode (zyC Y) pc = .ok (.dstore i, 2)) (hn : i + 1 < zyL Y) (he : (i, vd x) :: zf2 i lv = lv2) (h : lAt l G Y E (pc + 2) lv2 (st) M c k) : lAt l G Y E (pc) lv (vd x :: st) M c k := by
  intro p e s m args below meth cd H locs ls C hlv hst hR hlo hl
  exact lv_dstore C.1 C.2.1 d hl hn (by rw [zf2_map, ← List.map_cons (f := trq G) (a := (i, vd x))]) (fun ls2 hl2 => h p e s m args below meth cd H locs ls2 C (zlv_put hlv (zkh hst) he) (zk1 hst) hR hlo (by rw [← he]; exact hl2))
theorem L_astoreA_n {a0 : Nat} {j : Fin 4} {i : Nat} {lv2 : List (Nat × zV)} (d : decode (zyC Y) pc = .ok (.astore_n j, 1)) (hi : (j : Nat) = i) (hn : i < zyL Y) (he : (i, va a0) :: zf1 i lv = lv2) (h : lAt l G Y E (pc + 1) lv2 (st) M c k) : lAt l G Y E (pc) lv (va a0 :: st) M c k := by
  intro p e s m args below meth cd H locs ls C hlv hst hR hlo hl
  exact lv_astore_n C.1 C.2.1 d hi hl hn (by rw [zf1_map, ← List.map_cons (f := trq G) (a := (i, va a0))]) (fun ls2 hl2 => h p e s m args below meth cd H locs ls2 C (zlv_put hlv (zkh hst) he) (zk1 hst) hR hlo (by rw [← he]; exact hl2))
theorem L_astoreA {a0 : Nat} {i : Nat} {lv2 : List (Nat × zV)} (d : decode (zyC Y) pc = .ok (.astore i, 2)) (hn : i < zyL Y) (he : (i, va a0) :: zf1 i lv = lv2) (h : lAt l G Y E (pc + 2) lv2 (st) M c k) : lAt l G Y E (pc) lv (va a0 :: st) M c k := by
  intro p e s m args below meth cd H locs ls C hlv hst hR hlo hl
  exact lv_astore C.1 C.2.1 d hl hn (by rw [zf1_map, ← List.map_cons (f := trq G) (a := (i, va a0))]) (fun ls2 hl2 => h p e s m args below meth cd H locs ls2 C (zlv_put hlv (zkh hst) he) (zk1 hst) hR hlo (by rw [← he]; exact hl2))
theorem L_iadd {a b : Int32} (d : decode (zyC Y) pc = .ok (.iadd, 1)) (h : lAt l G Y E (pc + 1) lv (vi (a + b) :: st) M c k) : lAt l G Y E (pc) lv (vi b :: vi a :: st) M c k := by
  intro p e s m args below meth cd H locs ls C hlv hst hR hlo hl
  exact lv_iadd C.1 C.2.1 d (h p e s m args below meth cd H locs ls C hlv (zkc trivial (zk1 (zk1 hst))) hR hlo hl)
theorem L_isub {a b : Int32} (d : decode (zyC Y) pc = .ok (.isub, 1)) (h : lAt l G Y E (pc + 1) lv (vi (a - b) :: st) M c k) : lAt l G Y E (pc) lv (vi b :: vi a :: st) M c k := by
  intro p e s m args below meth cd H locs ls C hlv hst hR hlo hl
  exact lv_isub C.1 C.2.1 d (h p e s m args below meth cd H locs ls C hlv (zkc trivial (zk1 (zk1 hst))) hR hlo hl)
theorem L_iand {a b : Int32} (d : decode (zyC Y) pc = .ok (.iand, 1)) (h : lAt l G Y E (pc + 1) lv (vi (a &&& b) :: st) M c k) : lAt l G Y E (pc) lv (vi b :: vi a :: st) M c k := by
  intro p e s m args below meth cd H locs ls C hlv hst hR hlo hl
  exact lv_iand C.1 C.2.1 d (h p e s m args below meth cd H locs ls C hlv (zkc trivial (zk1 (zk1 hst))) hR hlo hl)
theorem L_i2l {a : Int32} (d : decode (zyC Y) pc = .ok (.i2l, 1)) (h : lAt l G Y E (pc + 1) lv (vl a.toInt64 :: st) M c k) : lAt l G Y E (pc) lv (vi a :: st) M c k := by
  intro p e s m args below meth cd H locs ls C hlv hst hR hlo hl
  exact lv_i2l C.1 C.2.1 d rfl (h p e s m args below meth cd H locs ls C hlv (zkc trivial (zk1 hst)) hR hlo hl)
theorem L_f2d {a : UInt32} (d : decode (zyC Y) pc = .ok (.f2d, 1)) (hne : vf_n64 (FP.f2d a)) (h : lAt l G Y E (pc + 1) lv (vd (FP.f2d a) :: st) M c k) : lAt l G Y E (pc) lv (vfl a :: st) M c k := by
  intro p e s m args below meth cd H locs ls C hlv hst hR hlo hl
  exact lv_f2d C.1 C.2.1 d hne (h p e s m args below meth cd H locs ls C hlv (zkc trivial (zk1 hst)) hR hlo hl)
theorem L_lcmp {a b : Int64} (d : decode (zyC Y) pc = .ok (.lcmp, 1)) (h : lAt l G Y E (pc + 1) lv (vi (lg_cmp a b) :: st) M c k) : lAt l G Y E (pc) lv (vl b :: vl a :: st) M c k := by
  intro p e s m args below meth cd H locs ls C hlv hst hR hlo hl
  exact W.lcmp C.1 C.2.1 d (h p e s m args below meth cd H locs ls C hlv (zkc trivial (zk1 (zk1 hst))) hR hlo hl)
theorem L_dcmp {a b : UInt64} {op : CmpOp} (d : decode (zyC Y) pc = .ok (.dcmp op, 1)) (h : lAt l G Y E (pc + 1) lv (vi (Op.cmpValue (FP.dcmp a b) op) :: st) M c k) : lAt l G Y E (pc) lv (vd b :: vd a :: st) M c k := by
  intro p e s m args below meth cd H locs ls C hlv hst hR hlo hl
  exact lv_dcmp C.1 C.2.1 d (h p e s m args below meth cd H locs ls C hlv (zkc trivial (zk1 (zk1 hst))) hR hlo hl)
theorem L_if_eq {x : Int32} {off : Int} {tgt : Nat} (d : decode (zyC Y) pc = .ok (.ifCond .eq off, 3)) (ht : (pc : Int) + off = (tgt : Int)) (kt : x = 0 → lAt l G Y E (tgt) lv (st) M c k) (kf : ¬ x = 0 → lAt l G Y E (pc + 3) lv (st) M c k) : lAt l G Y E (pc) lv (vi x :: st) M c k := by
  intro p e s m args below meth cd H locs ls C hlv hst hR hlo hl
  exact lv_if_eq C.1 C.2.1 d ht (fun q => kt q p e s m args below meth cd H locs ls C hlv (zk1 hst) hR hlo hl) (fun q => kf q p e s m args below meth cd H locs ls C hlv (zk1 hst) hR hlo hl)
theorem L_if_ne {x : Int32} {off : Int} {tgt : Nat} (d : decode (zyC Y) pc = .ok (.ifCond .ne off, 3)) (ht : (pc : Int) + off = (tgt : Int)) (kt : ¬ x = 0 → lAt l G Y E (tgt) lv (st) M c k) (kf : x = 0 → lAt l G Y E (pc + 3) lv (st) M c k) : lAt l G Y E (pc) lv (vi x :: st) M c k := by
  intro p e s m args below meth cd H locs ls C hlv hst hR hlo hl
  exact lv_if_ne C.1 C.2.1 d ht (fun q => kt q p e s m args below meth cd H locs ls C hlv (zk1 hst) hR hlo hl) (fun q => kf q p e s m args below meth cd H locs ls C hlv (zk1 hst) hR hlo hl)
theorem L_icmp_eq {x y : Int32} {off : Int} {tgt : Nat} (d : decode (zyC Y) pc = .ok (.if_icmp .eq off, 3)) (ht : (pc : Int) + off = (tgt : Int)) (kt : x = y → lAt l G Y E (tgt) lv (st) M c k) (kf : ¬ x = y → lAt l G Y E (pc + 3) lv (st) M c k) : lAt l G Y E (pc) lv (vi y :: vi x :: st) M c k := by
  intro p e s m args below meth cd H locs ls C hlv hst hR hlo hl
  exact lv_icmp_eq C.1 C.2.1 d ht (fun q => kt q p e s m args below meth cd H locs ls C hlv (zk1 (zk1 hst)) hR hlo hl) (fun q => kf q p e s m args below meth cd H locs ls C hlv (zk1 (zk1 hst)) hR hlo hl)
theorem L_icmp_gt {x y : Int32} {off : Int} {tgt : Nat} (d : decode (zyC Y) pc = .ok (.if_icmp .gt off, 3)) (ht : (pc : Int) + off = (tgt : Int)) (kt : y < x → lAt l G Y E (tgt) lv (st) M c k) (kf : ¬ y < x → lAt l G Y E (pc + 3) lv (st) M c k) : lAt l G Y E (pc) lv (vi y :: vi x :: st) M c k := by
  intro p e s m args below meth cd H locs ls C hlv hst hR hlo hl
  exact lv_icmp_gt C.1 C.2.1 d ht (fun q => kt q p e s m args below meth cd H locs ls C hlv (zk1 (zk1 hst)) hR hlo hl) (fun q => kf q p e s m args below meth cd H locs ls C hlv (zk1 (zk1 hst)) hR hlo hl)
theorem L_goto {off : Int} {tgt : Nat} (d : decode (zyC Y) pc = .ok (.goto off, 3)) (ht : (pc : Int) + off = (tgt : Int)) (h : lAt l G Y E (tgt) lv (st) M c k) : lAt l G Y E (pc) lv (st) M c k := by
  intro p e s m args below meth cd H locs ls C hlv hst hR hlo hl
  exact lv_goto C.1 C.2.1 d ht (h p e s m args below meth cd H locs ls C hlv hst hR hlo hl)
theorem L_iinc {i : Nat} {n : Int} {x v : Int32} {lv2 : List (Nat × zV)} (d : decode (zyC Y) pc = .ok (.iinc i n, 3)) (q : Nat) (hq : lv[q]? = some (i, vi x)) (hv : x + Int32.ofInt n = v) (hn : i < zyL Y) (he : (i, vi v) :: zf1 i lv = lv2) (h : lAt l G Y E (pc + 3) lv2 (st) M c k) : lAt l G Y E (pc) lv (st) M c k := by
  intro p e s m args below meth cd H locs ls C hlv hst hR hlo hl
  exact lv_iinc C.1 C.2.1 d hl (k := q) (by rw [List.getElem?_map, hq]; rfl) hv hn (by rw [zf1_map, ← List.map_cons (f := trq G) (a := (i, vi v))]) (fun ls2 hl2 => h p e s m args below meth cd H locs ls2 C (zlv_put hlv (v := vi v) trivial he) hst hR hlo (by rw [← he]; exact hl2))
theorem L_tabIn {dflt lo hi : Int} {offs : Array Int} {len : Nat} {x : Int32} {off : Int} {tgt : Nat} (d : decode (zyC Y) pc = .ok (.tableswitch dflt lo hi offs, len)) (j : Nat) (hx : (¬ x.toInt < lo ∧ ¬ hi < x.toInt) ∧ (x.toInt - lo).toNat = j) (ho : offs[j]? = some off) (ht : (pc : Int) + off = (tgt : Int)) (h : lAt l G Y E tgt lv st M c k) : lAt l G Y E pc lv (vi x :: st) M c k := by
  intro p e s m args below meth cd H locs ls C hlv hst hR hlo hl
  exact lv_tableIn C.1 C.2.1 d hx.1.1 hx.1.2 (by rw [hx.2]; exact ho) ht (h p e s m args below meth cd H locs ls C hlv (zk1 hst) hR hlo hl)
theorem L_tabOut {dflt lo hi : Int} {offs : Array Int} {len : Nat} {x : Int32} {tgt : Nat} (d : decode (zyC Y) pc = .ok (.tableswitch dflt lo hi offs, len)) (hx : x.toInt < lo ∨ hi < x.toInt) (ht : (pc : Int) + dflt = (tgt : Int)) (h : lAt l G Y E tgt lv st M c k) : lAt l G Y E pc lv (vi x :: st) M c k := by
  intro p e s m args below meth cd H locs ls C hlv hst hR hlo hl
  exact lv_tableOut C.1 C.2.1 d hx ht (h p e s m args below meth cd H locs ls C hlv (zk1 hst) hR hlo hl)
theorem L_pick (ks : List Nat) {lv2 : List (Nat × zV)} (he : ks.filterMap (fun j => lv[j]?) = lv2) (h : lAt l G Y E pc lv2 st M c k) : lAt l G Y E pc lv st M c k := by
  intro p e s m args below meth cd H locs ls C hlv hst hR hlo hl
  subst he
  have hm : ∀ q ∈ ks.filterMap (fun j => lv[j]?), q ∈ lv := fun q hq => by
    obtain ⟨j, -, hj⟩ := List.mem_filterMap.mp hq
    exact List.mem_of_getElem? hj
  exact h p e s m args below meth cd H locs ls C (fun q hq => hlv q (hm q hq)) hst hR hlo ⟨hl.1, hl.2.1, fun q hq => by
    obtain ⟨q0, h0, rfl⟩ := List.mem_map.mp hq
    exact hl.2.2 _ (List.mem_map.mpr ⟨q0, hm q0 h0, rfl⟩)⟩
theorem l_in0 : ¬ ((0 : Int32) < 0 ∨ 1 ≤ (0 : Int32).toNatClampNeg) := by decide
theorem L_last {y : Int64} (d : decode (zyC Y) pc = .ok (.lastore, 1)) (h : lAt l G Y E (pc + 1) lv st (M.1, y, M.2.2) c k) : lAt l G Y E pc lv (vl y :: vi 0 :: vr 50 0 :: st) M c k := by
  intro p e s m args below meth cd H locs ls C hlv hst hR hlo hl
  obtain ⟨hR0, ⟨f, e0, ha⟩, f2, e2, ha2⟩ := hR
  refine W.last C.1 C.2.1 ha (zarrT C (t := 1) (by decide) 1 (fun j => .long (f j))) (fun q => by cases q) (by show ¬ ((0 : Int32) < 0 ∨ (arrV _ _ _).slots.size ≤ _); rw [arrV_size]; exact l_in0) rfl rfl d fun H1 e1 z oq => ?_
  refine h p e s m args below meth cd H1 _ ls C hlv (zk1 (zk1 (zk1 hst))) ⟨zRep.out hR0 (.inl rfl) z oq, ⟨zup f 0 y, zup_self f 0 y, ?_⟩, f2, e2, ?_⟩ (fun q hq => ?_) hl
  · rw [e1]
    show some ((arrV (gA G 1) 1 (fun j => .long (f j))).setSlot _ _) = _
    rw [arrV_store, vp_cell_l]
    congr 2
    funext q
    unfold updV zup
    show (if q = (0 : Int32).toNatClampNeg then _ else _) = _
    rw [show (0 : Int32).toNatClampNeg = 0 by decide]
    split <;> rfl
  · rw [oq _ (fun e => by have := (hR0.1.1 51 0 50 0 (by decide) (by decide) e).1; omega)]
    exact ha2
  · rcases List.mem_append.mp hq with h1 | h1
    · exact hlo q h1
    · rw [List.mem_singleton.mp h1]
      exact hR0.1.2 50 0 (by decide) (by decide)
theorem L_dast {y : UInt64} (d : decode (zyC Y) pc = .ok (.dastore, 1)) (h : lAt l G Y E (pc + 1) lv st (M.1, M.2.1, y) c k) : lAt l G Y E pc lv (vd y :: vi 0 :: vr 51 0 :: st) M c k := by
  intro p e s m args below meth cd H locs ls C hlv hst hR hlo hl
  obtain ⟨hR0, ⟨f2, e2, ha2⟩, f, e0, ha⟩ := hR
  refine W.dast C.1 C.2.1 ha (zarrT C (t := 5) (by decide) 1 (fun j => .double (f j))) (fun q => by cases q) (by show ¬ ((0 : Int32) < 0 ∨ (arrV _ _ _).slots.size ≤ _); rw [arrV_size]; exact l_in0) rfl rfl d fun H1 e1 z oq => ?_
  refine h p e s m args below meth cd H1 _ ls C hlv (zk1 (zk1 (zk1 hst))) ⟨zRep.out hR0 (.inr rfl) z oq, ⟨f2, e2, ?_⟩, zup f 0 y, zup_self f 0 y, ?_⟩ (fun q hq => ?_) hl
  · rw [oq _ (fun e => by have := (hR0.1.1 50 0 51 0 (by decide) (by decide) e).1; omega)]
    exact ha2
  · rw [e1]
    show some ((arrV (gA G 5) 1 (fun j => .double (f j))).setSlot _ _) = _
    rw [arrV_store, vp_cell_d]
    congr 2
    funext q
    unfold updV zup
    show (if q = (0 : Int32).toNatClampNeg then _ else _) = _
    rw [show (0 : Int32).toNatClampNeg = 0 by decide]
    split <;> rfl
  · rcases List.mem_append.mp hq with h1 | h1
    · exact hlo q h1
    · rw [List.mem_singleton.mp h1]
      exact hR0.1.2 51 0 (by decide) (by decide)
theorem L_lald (d : decode (zyC Y) pc = .ok (.laload, 1)) (h : lAt l G Y E (pc + 1) lv (vl M.2.1 :: st) M c k) : lAt l G Y E pc lv (vi 0 :: vr 50 0 :: st) M c k := by
  intro p e s m args below meth cd H locs ls C hlv hst hR hlo hl
  obtain ⟨hR0, ⟨f, e0, ha⟩, hP2⟩ := hR
  rw [← e0] at h
  exact W.lald (v := .long (f 0)) C.1 C.2.1 ha (zarrT C (t := 1) (by decide) 1 (fun j => .long (f j))) (fun q => by cases q) (by show ¬ ((0 : Int32) < 0 ∨ (arrV _ _ _).slots.size ≤ _); rw [arrV_size]; exact l_in0) (by show (arrV _ _ _).slots[_]? = _; rw [arrV_read _ _ (show (0 : Int32).toNatClampNeg < 1 by decide)]; rfl) rfl rfl d (h p e s m args below meth cd H locs ls C hlv (zkc trivial (zk1 (zk1 hst))) ⟨hR0, ⟨f, e0, ha⟩, hP2⟩ hlo hl)
theorem L_dald (d : decode (zyC Y) pc = .ok (.daload, 1)) (h : lAt l G Y E (pc + 1) lv (vd M.2.2 :: st) M c k) : lAt l G Y E pc lv (vi 0 :: vr 51 0 :: st) M c k := by
  intro p e s m args below meth cd H locs ls C hlv hst hR hlo hl
  obtain ⟨hR0, hP2, f, e0, ha⟩ := hR
  rw [← e0] at h
  exact W.dald (v := .double (f 0)) C.1 C.2.1 ha (zarrT C (t := 5) (by decide) 1 (fun j => .double (f j))) (fun q => by cases q) (by show ¬ ((0 : Int32) < 0 ∨ (arrV _ _ _).slots.size ≤ _); rw [arrV_size]; exact l_in0) (by show (arrV _ _ _).slots[_]? = _; rw [arrV_read _ _ (show (0 : Int32).toNatClampNeg < 1 by decide)]; rfl) rfl rfl d (h p e s m args below meth cd H locs ls C hlv (zkc trivial (zk1 (zk1 hst))) ⟨hR0, hP2, f, e0, ha⟩ hlo hl)
theorem L_slen (d : decode (zyC Y) pc = .ok (.arraylength, 1)) (h : lAt l G Y E (pc + 1) lv (vi (Int32.ofNat (gn G)) :: st) M c k) : lAt l G Y E pc lv (vr 52 0 :: st) M c k := by
  intro p e s m args below meth cd H locs ls C hlv hst hR hlo hl
  obtain ⟨scr, h1, h2, h3, h4, h5⟩ := C.2.2.2.2.2.2.2.1.2.2.2.1
  have hlt := C.2.2.2.2.2.2.2.1.2.2.2.2.1
  exact W.alen (n := Int32.ofNat (gn G)) C.1 C.2.1 (by rw [hR.1.2.1 _ hlt]; exact h1) h2 (by rw [h4] <;> rfl) rfl rfl d (h p e s m args below meth cd H locs ls C hlv (zkc trivial (zk1 hst)) hR hlo hl)
theorem L_sld {x : Int32} (hin : vp_in x (gn G)) (d : decode (zyC Y) pc = .ok (.iaload, 1)) (h : lAt l G Y E (pc + 1) lv (vi (gs G x.toNatClampNeg) :: st) M c k) : lAt l G Y E pc lv (vi x :: vr 52 0 :: st) M c k := by
  intro p e s m args below meth cd H locs ls C hlv hst hR hlo hl
  obtain ⟨scr, h1, h2, h3, h4, h5⟩ := C.2.2.2.2.2.2.2.1.2.2.2.1
  have hlt := C.2.2.2.2.2.2.2.1.2.2.2.2.1
  have hx : x.toNatClampNeg < gn G := Nat.not_le.mp fun q => hin (Or.inr q)
  exact W.iald (v := .int (gs G x.toNatClampNeg)) C.1 C.2.1 (by rw [hR.1.2.1 _ hlt]; exact h1) h2 h3 (by rw [h4]; exact hin) (h5 _ hx) rfl rfl d (h p e s m args below meth cd H locs ls C hlv (zkc trivial (zk1 (zk1 hst))) hR hlo hl)
/-! calls -/
abbrev lK : Type := Option zV → lW → Prop
def lPost (G : zG) (K : lK) : Array Value → State → Outcome → State → Prop := fun _ _ o t => ∃ (r : Option zV) (w : lW), o = .returned (r.map (tr G)) ∧ (∀ v ∈ r, zok v) ∧ K r w ∧ lRep G w t.heap
def lPre (G : zG) (w : lW) : State → Prop := fun U => zKn G U U.heap ∧ lRep G w U.heap
abbrev lws (Y : zY) : List Cond := Cond.codeWith (zyN Y) (zyC Y) (zyL Y) (zyR Y) (zyT Y) :: zAll
abbrev lfr (G : zG) : Addr → Prop := fun q => gz G ≤ q
/-- A CALL of one of the law's own methods -/
def lCal (l : Launch) (G : zG) (Y : zY) (mc ms : Nat) (av : List zV) (w : lW) (K : lK) : Prop := (∀ v ∈ av, zok v) → Met l (zyN Y) (lws Y) (zRoom (zyd Y) mc ms) (va_Pc (av.map (tr G)) (lPre G w)) (lPost G K) mc ms (lfr G)
def lEM (G : zG) (Y : zY) (mc ms : Nat) (K : lK) : zE := (zRoom (zyd Y) mc ms, fun below s args => MQ below (lPost G K) args s mc ms (lfr G))
theorem lgo {p : Program} {e : Env} {s : State} {m : MethodId} {args : Array Value} {below : List Frame} {meth : Method} {cd : Code} {H : Heap} {locs : List Loc} {ls : Array Slot} {st0 : List Value} {mc' ms' : Nat} {Q : State → Outcome → State → Prop} {fr : Addr → Prop} {Kf : lK}
    (hr : va_Run p l e E.1 s m args below meth cd H locs c k mc' ms' (F0 m pc ls st0) (st.map (tr G)) Q fr) (hfr : ∀ q, fr q → gz G ≤ q) (hQ : ∀ (st0 t : State) (v : Option Value), st0.heap = H → Q st0 (.returned v) t → ∃ (r : Option zV) (w : lW), v = r.map (tr G) ∧ (∀ v ∈ r, zok v) ∧ Kf r w ∧ lRep G w t.heap)
    (C : zCtx G Y p s m args meth cd) (hlv : ∀ q ∈ lv, zok q.2) (hst : ∀ v ∈ st, zok v) (hlo : ∀ q ∈ locs, gz G ≤ q.base) (hl : lv_has ls (zyL Y) (lv.map (trq G)))
    (kk : ∀ (r : Option zV) (w : lW), Kf r w → lAt l G Y E (pc + 3) lv (r.toList ++ st) w (c + mc') (k + ms')) : W p l e E.1 s m args below meth cd H locs c k (E.2 below s args) (F0 m pc ls st0) := by
  intro T hT X
  obtain ⟨v, st₀, t, T', L, h0, X', hL, e1, e2, hq, go⟩ := hr T hT X
  obtain ⟨r, w, rfl, hok, hK, hR⟩ := hQ st₀ t v h0 hq
  obtain ⟨t2, a1, b1⟩ := kk r w hK p e s m args below meth cd T'.heap (locs ++ L) ls C hlv (fun u hu => by
      rcases List.mem_append.mp hu with h1 | h1
      · exact hok u (by cases r <;> simp_all)
      · exact hst u h1) (by rw [e1]; exact hR) (fun q hq => by
      rcases List.mem_append.mp hq with h1 | h1
      · exact hlo q h1
      · exact hfr _ (hL q h1)) hl T' rfl X'
  refine ⟨t2, go t2 ?_, b1⟩
  have e3 : (r.toList ++ st).map (tr G) = (r.map (tr G)).toList ++ st.map (tr G) := by
    cases r <;> simp
  rw [e3] at a1
  exact a1
/-- a call of the class, or of the reference, that does not throw -/
theorem L_callV {Y' : zY} {idx n s0 i0 ci N mc' ms' : Nat} {Cn : String} {T : u_T} {as st0 : List zV} {Kf : Option zV → zM → Prop} (hE : zRm Y E.1) (L : zLV Y idx Y' n Cn) (hk : zkd s0 = some (.inl ci)) (hc : vwCl[ci]? = some (Cn, T, N)) (hn : as.length = n) (hs : st0 = as.reverse ++ vr s0 i0 :: st) (hw : (st.map zcat).sum ≤ 8) (d : decode (zyC Y) pc = .ok (.invokevirtual idx, 3)) (hf : c + mc' ≤ E.1.cells ∧ k + ms' ≤ E.1.slots) (h : zCal l G Y' mc' ms' (vr s0 i0 :: as) M.1 (Kf, none)) (kk : ∀ (r : Option zV) (M1 : zM), Kf r M1 → lAt l G Y E (pc + 3) lv (r.toList ++ st) (M1, M.2) (c + mc') (k + ms')) : lAt l G Y E pc lv st0 M c k := by
  intro p e s m args below meth cd H locs ls C hlv hst hR hlo hl
  subst hs
  have hav : ∀ v ∈ vr s0 i0 :: as, zok v := fun v hv => hst v (by
    rcases List.mem_cons.mp hv with h1 | h1
    · rw [h1]; simp
    · simp [h1])
  have hi : i0 < zcnt s0 := hav (vr s0 i0) List.mem_cons_self
  have hM : Met l (zyN Y') (zws Y') (zRoom (zyd Y') mc' ms') (va_Pc ((vr s0 i0 :: as).map (tr G)) (zPre G M.1)) (zPost G Kf) mc' ms' (zfr G) := h hav
  refine lgo (st := st) (mc' := mc') (ms' := ms') (Kf := fun r w => Kf r w.1 ∧ w.2 = M.2) (va_runV (As := as.map (tr G)) ⟨C.1, C.2.1, C.2.2.2.1, C.2.2.2.2.1, C.2.2.2.2.2.1⟩ (lk_Met hM) (L.cwR hE C.2.2.2.2.2.1) ⟨zPre_blind, zrecv C hR.1 hi hk hc, fun U hU hW => ⟨rfl, zPre_at C hR.1 hU hW⟩⟩ rfl (by rw [List.length_map]; exact hn) hl.1 (by simp) (by rw [zcats]; show 2 * 0 + _ ≤ 8; omega) d hf) (fun q hq => hq.1) (fun st0 t v h0 hq => ?_) C hlv (fun v hv => hst v (by simp [hv])) hlo hl (fun r w hw => by have := kk r w.1 hw.1; rw [← hw.2] at this; exact this)
  obtain ⟨⟨r, M1, g1, g2, g3, g4⟩, g5⟩ := hq
  subst h0
  exact ⟨r, (M1, M.2), Outcome.returned.inj g1, g2, ⟨g3, rfl⟩, g4, hR.2.kept rfl g5⟩
/-- a call of one of the law's own methods -/
def lLS (Y : zY) (idx : Nat) (Y' : zY) (n : Nat) : Prop := Cond.methodLink (zyO Y) idx (zyN Y') ∈ zAll ∧ Cond.static (zyN Y') ∈ zAll ∧ Cond.initialized (zyN Y').cls ∈ zAll ∧ Cond.codeWith (zyN Y') (zyC Y') (zyL Y') (zyR Y') (zyT Y') ∈ zAll ∧
  ((zyN Y').cls ≠ "java/lang/invoke/MethodHandle" ∧ (zyN Y').cls ≠ "java/lang/invoke/VarHandle" ∧ (parseMethodDescriptor (zyN Y').desc).map (fun d => d.parameters.length) = some n) ∧ zyd Y' + 1 ≤ zyd Y ∧ 8 + (zyL Y' + 11) + 60 * zyd Y' ≤ 60 * zyd Y
theorem lPre_blind {av : List Value} {w : lW} : FrameBlind (va_Pc av (lPre G w)) := fun a U g mk q => by
  obtain ⟨q0, ⟨q1, q2⟩, q3⟩ := q
  exact ⟨q0, ⟨zTb.same (u := U) (U := U.calling g mk a) rfl q1, zTh.moved (u := U) (U := U.calling g mk a) (Vm.Alike.refl U.vm) q2⟩, q3⟩
theorem lLS.cwR {Y Y' : zY} {idx n mc' ms' : Nat} {R : Room} {s : State} {args : Array Value} (h : lLS Y idx Y' n) (hE : zRm Y R) (hts : ∀ w ∈ zAll, w.before args s = true) : vx_CSW R s args (zyO Y) idx (zyN Y') (zyC Y') (zyL Y') (zyR Y') (zyT Y') (lws Y') (zRoom (zyd Y') mc' ms') mc' ms' n := by
  obtain ⟨h1, h2, h3, h4, h5, h6, h7⟩ := h
  refine vx_cwSW (Ts := zAll) n hts (fun w hw => ?_) rfl rfl rfl h5 ⟨Nat.le_trans h6 hE.1, Nat.le_trans h7 hE.2⟩
  have hm : w ∈ zAll := by
    unfold va_wsS at hw
    simp only [List.mem_cons, List.mem_append, List.not_mem_nil, or_false] at hw
    rcases hw with (rfl | rfl | rfl) | rfl | h9 <;> assumption
  exact ⟨hm, good_of_word (List.mem_filter.mp hm).2⟩
theorem L_callS {Y' : zY} {idx n mc' ms' : Nat} {as st0 : List zV} {Kf : lK} (hE : zRm Y E.1) (L : lLS Y idx Y' n) (hn : as.length = n) (hs : st0 = as.reverse ++ st) (hw : (st.map zcat).sum ≤ 8) (d : decode (zyC Y) pc = .ok (.invokestatic idx, 3)) (hf : c + mc' ≤ E.1.cells ∧ k + ms' ≤ E.1.slots) (h : lCal l G Y' mc' ms' as M Kf) (kk : ∀ (r : Option zV) (w : lW), Kf r w → lAt l G Y E (pc + 3) lv (r.toList ++ st) w (c + mc') (k + ms')) : lAt l G Y E pc lv st0 M c k := by
  intro p e s m args below meth cd H locs ls C hlv hst hR hlo hl
  subst hs
  have hav : ∀ v ∈ as, zok v := fun v hv => hst v (by simp [hv])
  refine lgo (st := st) (mc' := mc') (ms' := ms') (Kf := Kf) (vx_runSW (As := as.map (tr G)) ⟨C.1, C.2.1, C.2.2.2.1, C.2.2.2.2.1, C.2.2.2.2.2.1⟩ (h hav) (L.cwR hE C.2.2.2.2.2.1) ⟨lPre_blind, fun U hU hW => ⟨rfl, (zPre_at C hR.1 hU hW).1, by rw [hU]; exact hR⟩⟩ rfl (by rw [List.length_map]; exact hn) hl.1 (by simp) (by rw [zcats]; show 2 * 0 + _ ≤ 8; omega) d hf) (fun q hq => hq) (fun st0 t v h0 hq => ?_) C hlv (fun v hv => hst v (by simp [hv])) hlo hl kk
  obtain ⟨r, w, g1, g2, g3, g4⟩ := hq
  exact ⟨r, w, Outcome.returned.inj g1, g2, g3, g4⟩
/-- the end of one of the law's own methods -/
theorem L_iret {mc ms : Nat} {K : lK} {x : Int32} (hr : zyR Y = some .int) (d : decode (zyC Y) pc = .ok (.ireturn, 1)) (hc : c ≤ mc) (hk : k ≤ ms) (h : K (some (vi x)) M) : lAt l G Y (lEM G Y mc ms K) pc lv [vi x] M c k := by
  intro p e s m args below meth cd H locs ls C hlv hst hR hlo hl
  refine W.widen hc hk ?_
  exact W.zret C.1 C.2.1 (C.2.2.1.trans hr) rfl (fun t ht hW => ⟨some (vi x), M, rfl, fun v hv => by cases hv; trivial, h, by rw [ht]; exact hR⟩) hlo d C.2.2.2.2.2.2.1
theorem lCal_of {mc ms : Nat} {av : List zV} {K : lK} (hy : plainName (zyN Y).cls = true) (hlen : (lg_sl (av.map (tr G))).length ≤ zyL Y) (hlv : lv_args 0 (av.map (tr G)) = lv.map (trq G)) (hok : (∀ v ∈ av, zok v) → ∀ q ∈ lv, zok q.2) (h : lAt l G Y (lEM G Y mc ms K) 0 lv [] M 0 0) : lCal l G Y mc ms av M K := by
  intro hav
  show MetFree _ _ _ _ _ _
  refine MetFree.of_bodyS (code := zyC Y) (maxLocals := zyL Y) (ret := zyR Y) hy ?_ ?_
  · intro args s m h hn
    obtain ⟨m9, meth, c, hn9, h1, h2, h3, h4, -, h5, h6, -⟩ := Cond.codeWith_spec (atoms_spec (ws := lws Y) h _ List.mem_cons_self)
    cases hn.symm.trans hn9
    exact ⟨meth, c, h1, h2, h3, h4, h5, h6⟩
  · intro p e s m args below meth c s₁ B hml hP _
    obtain ⟨rfl, hKn, hR⟩ := hP
    have hts := atoms_spec (ws := lws Y) B.pre
    have hl := lv_entry (av.map (tr G)) (n := zyL Y) hlen
    have hh0 : s₁.heap = s.heap := by rw [B.state]; rfl
    have hW : W p l e (zRoom (zyd Y) mc ms) s m (av.map (tr G)).toArray below meth c s.heap [] 0 0 (MQ below (lPost G K) (av.map (tr G)).toArray s mc ms (lfr G)) (entryFrame m (av.map (tr G)).toArray (zyL Y)) := by
      rw [lg_entry_eq]
      refine h p e s m _ below meth c s.heap [] _ ⟨B.exec, B.bytes, B.returns, hml, findClass_of_methodNamed B.named, fun w hw => hts w (List.mem_cons_of_mem _ hw), B.notSynchronized, hKn.1, ⟨hKn.2, hR.1.2.1, hR.1.2.2.1⟩, vx_table (x := zyN Y) B (hts _ List.mem_cons_self)⟩ (hok hav) (fun v hv => by cases hv) hR (fun q hq => by cases hq) ?_
      rw [← hlv]
      exact hl
    obtain ⟨t, a1, o, b1, b2, b3⟩ := hW s₁ hh0 (Stand.of_body B)
    exact ⟨t, o, a1, b1, b2, b3⟩
/-- where a throw of X at pc goes on -/
def lHit (Y : zY) (pc : Nat) (X : String) (tgt : Nat) : Prop := ∃ (pre : List ExceptionTableEntry) (x : ExceptionTableEntry) (suf : List ExceptionTableEntry), tableOf (zyT Y) = pre ++ x :: suf ∧ (∀ z ∈ pre, z.catchType ≠ 0 ∧ Cond.classLink (zyO Y) z.catchType IOE ∈ zAll ∧ X = IAE) ∧ covers x pc = true ∧ x.catchType ≠ 0 ∧ Cond.classLink (zyO Y) x.catchType X ∈ zAll ∧ Cond.castable X X ∈ zFace ∧ x.handlerPc = tgt
/-- a call of the class in a method that catches what it throws -/
theorem L_callW {Y' : zY} {idx n s0 i0 ci N mc' ms' : Nat} {Cn : String} {T : u_T} {as st0 : List zV} {Kf : Option zV → zM → Prop} {KX : String → zM → Prop} (hE : zRm Y E.1) (L : zLV Y idx Y' n Cn) (hk : zkd s0 = some (.inl ci)) (hc : vwCl[ci]? = some (Cn, T, N)) (hn : as.length = n) (hs : st0 = as.reverse ++ vr s0 i0 :: st) (hw : (st.map zcat).sum ≤ 8) (d : decode (zyC Y) pc = .ok (.invokevirtual idx, 3)) (hf : c + mc' ≤ E.1.cells ∧ k + ms' ≤ E.1.slots) (h : zCal l G Y' mc' ms' (vr s0 i0 :: as) M.1 (Kf, some KX))
    (kx : ∀ (X : String) (M1 : zM), KX X M1 → ∃ tgt : Nat, lHit Y pc X tgt ∧ ∀ q : Nat, lAt l G Y E tgt lv [va q] (M1, M.2) (c + mc') (k + ms')) (kk : ∀ (r : Option zV) (M1 : zM), Kf r M1 → lAt l G Y E (pc + 3) lv (r.toList ++ st) (M1, M.2) (c + mc') (k + ms')) : lAt l G Y E pc lv st0 M c k := by
  intro p e s m args below meth cd H locs ls C hlv hst hR hlo hl
  subst hs
  have hav : ∀ v ∈ vr s0 i0 :: as, zok v := fun v hv => hst v (by
    rcases List.mem_cons.mp hv with h1 | h1
    · rw [h1]; simp
    · simp [h1])
  have hi : i0 < zcnt s0 := hav (vr s0 i0) List.mem_cons_self
  have hst2 : ∀ v ∈ st, zok v := fun v hv => hst v (by simp [hv])
  have hM : vx_Met l (zyN Y') (zws Y') (zRoom (zyd Y') mc' ms') (va_Pc ((vr s0 i0 :: as).map (tr G)) (zPre G M.1)) (zPost G Kf) (zPostX G KX) mc' ms' (zfr G) := h hav
  have hr := vx_runV (g := F0 m pc ls ((as.reverse ++ vr s0 i0 :: st).map (tr G))) (rest := st.map (tr G)) (As := as.map (tr G)) (locs := locs) (l := l) (e := e) (below := below) (meth := meth) (cells := c) (slots := k) (R := E.1) ⟨C.1, C.2.1, C.2.2.2.1, C.2.2.2.2.1, C.2.2.2.2.2.1⟩ (lk_MetX hM) (L.cwR hE C.2.2.2.2.2.1) ⟨zPre_blind, zrecv C hR.1 hi hk hc, fun U hU hW => ⟨rfl, zPre_at C hR.1 hU hW⟩⟩ rfl (by rw [List.length_map]; exact hn) hl.1 (by simp) (by rw [zcats]; show 2 * 0 + _ ≤ 8; omega) d hf
  intro T hT X
  rcases hr T hT X with ⟨v, st₀, t, T', L, h0, X', hL, e1, e2, ⟨⟨r, M1, hv, hok, hK, hR1⟩, g5⟩, go⟩ | ⟨q, st₀, t, T', L, Ex, ce, h0, X', hL, e1, e2, ⟨⟨M1, hKX, hR1⟩, g5⟩, hce, hcv, hcl, go⟩
  · have hv' : v = r.map (tr G) := Outcome.returned.inj hv
    subst hv' h0
    obtain ⟨t2, a1, b1⟩ := kk r M1 hK p e s m args below meth cd T'.heap (locs ++ L) ls C hlv (fun u hu => by
        rcases List.mem_append.mp hu with h1 | h1
        · exact hok u (by cases r <;> simp_all)
        · exact hst2 u h1) (by rw [e1]; exact ⟨hR1, hR.2.kept rfl g5⟩) (fun q hq => by
        rcases List.mem_append.mp hq with h1 | h1
        · exact hlo q h1
        · exact (hL q h1).1) hl T' rfl X'
    refine ⟨t2, go t2 ?_, b1⟩
    have e3 : (r.toList ++ st).map (tr G) = (r.map (tr G)).toList ++ st.map (tr G) := by
      cases r <;> simp
    rw [e3] at a1
    exact a1
  · subst h0
    obtain ⟨tgt, ⟨pre, x, suf, t1, t2, t3, t4, t5, t6, rfl⟩, kt⟩ := kx Ex M1 hKX
    obtain ⟨t9, a1, b1⟩ := vx_catch (rest := st.map (tr G)) (own := zyO Y) (name := Ex) C.2.2.2.2.1 pre x suf (C.2.2.2.2.2.2.2.2.2.trans t1) (fun z hz => .inr ⟨(t2 z hz).1, IOE, C.2.2.2.2.2.1 _ (t2 z hz).2.1, by rw [(t2 z hz).2.2]; exact C.2.2.2.2.2.2.2.1.2.2.2.2.2.2.2.2.1.2.2.2⟩) t3 t4 (C.2.2.2.2.2.1 _ t5) (C.2.2.2.2.2.2.2.2.1.1.2.2 _ t6 _) (H := T'.heap) (by rw [e1]; exact hce) hcv hcl
      (kt q p e s m args below meth cd T'.heap (locs ++ L) ls C hlv (fun u hu => by rw [List.mem_singleton.mp hu]; trivial) ⟨by rw [e1]; exact hR1, by rw [e1]; exact hR.2.kept rfl g5⟩ (fun z hz => by
        rcases List.mem_append.mp hz with h1 | h1
        · exact hlo z h1
        · exact (hL z h1).1) hl) T' rfl X'
    exact ⟨t9, Steps.trans go a1, b1⟩
end LR
