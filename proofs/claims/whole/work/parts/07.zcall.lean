/-! Z: the end of a method, a method's entry, calls, throws -/
theorem zplain_ok {Y : zY} {args : Array Value} {s : State} (h : ∀ w ∈ zws Y, w.before args s = true) : ∀ w ∈ zAll, w.before args s = true := fun w hw => h w (List.mem_cons_of_mem _ hw)
/-- A METHOD from its entry: what holds at pc 0 gives the call -/
theorem zCal_of {l : Launch} {G : zG} {Y : zY} {mc ms : Nat} {av : List zV} {M : zM} {K : zK} {lv : List (Nat × zV)} (hy : plainName (zyN Y).cls = true) (hT : zyT Y = [])
    (hlen : (lg_sl (av.map (tr G))).length ≤ zyL Y) (hlv : lv_args 0 (av.map (tr G)) = lv.map (trq G)) (hok : (∀ v ∈ av, zok v) → ∀ q ∈ lv, zok q.2) (h : zAt l G Y (zEM G Y mc ms K) 0 lv [] M 0 0) : zCal l G Y mc ms av M K := by
  intro hav
  obtain ⟨K1, K2⟩ := K
  have go : ∀ (p : Program) (e : Env) (s : State) (m : MethodId) (args : Array Value) (below : List Frame) (meth : Method) (c : Code) (s₁ : State), BodyLoose p l (zyN Y) (headSpec (zws Y) (zRoom (zyd Y) mc ms)) (zyC Y) (zyL Y) (zyR Y) e s m args below meth c s₁ → c.maxLocals = zyL Y → (∀ x ∈ c.exceptionTable.toList, False) → va_Pc (av.map (tr G)) (zPre G M) args s →
      W p l e (zRoom (zyd Y) mc ms) s m args below meth c s.heap [] 0 0 ((zEM G Y mc ms (K1, K2)).2 below s args) (entryFrame m args (zyL Y)) := by
    intro p e s m args below meth c s₁ B hml htab hv
    obtain ⟨rfl, hKn, hR⟩ := hv
    have hts := atoms_spec (ws := zws Y) B.pre
    have hl := lv_entry (av.map (tr G)) (n := zyL Y) hlen
    rw [lg_entry_eq]
    refine h p e s m _ below meth c s.heap [] _ ⟨B.exec, B.bytes, B.returns, hml, findClass_of_methodNamed B.named, zplain_ok hts, B.notSynchronized, hKn.1, ⟨hKn.2, hR.2.1, hR.2.2.1⟩, ?_⟩ (hok hav) (fun v hv => by cases hv) hR (fun q hq => by cases hq) ?_
    · rw [hT]
      show _ = []
      exact List.eq_nil_iff_forall_not_mem.mpr htab
    · rw [← hlv]
      exact hl
  cases K2 with
  | none =>
    refine Met.ofW (cc := zyC Y) (maxL := zyL Y) (ret := zyR Y) hy rfl ?_
    intro p e s m args below meth c s₁ B hml hv
    refine go p e s m args below meth c s₁ B hml ?_ hv
    intro x hx
    have hts := atoms_spec (ws := zws Y) B.pre
    obtain ⟨meth2, c2, h1, h2, -, -, -, -, h7, -⟩ := Cond.code_spec B.named (hts _ List.mem_cons_self)
    cases Option.some.inj (h1.symm.trans B.method)
    cases Option.some.inj (h2.symm.trans (Stand.of_body B).code)
    have h8 : c.exceptionTable = #[] := by simpa using h7
    rw [h8] at hx
    simp at hx
  | some KX => exact vx_ofW (cc := zyC Y) (maxL := zyL Y) (ret := zyR Y) hy rfl go
section ZE
variable {l : Launch} {G : zG} {Y : zY} {mc ms : Nat} {K : zK} {E : zE} {pc : Nat} {lv : List (Nat × zV)} {st : List zV} {M : zM} {c k : Nat}
theorem zQ_ret {p : Program} {e : Env} {s : State} {m : MethodId} {args : Array Value} {below : List Frame} {meth : Method} {cd : Code} {H : Heap} {locs : List Loc} {g : JFrame} (h : W p l e (zRoom (zyd Y) mc ms) s m args below meth cd H locs c k (MQ below (zPost G K.1) args s mc ms (zfr G)) g) : W p l e (zEM G Y mc ms K).1 s m args below meth cd H locs c k ((zEM G Y mc ms K).2 below s args) g := by
  obtain ⟨K1, K2⟩ := K
  cases K2 with
  | none => exact h
  | some KX => exact vx_ret h

theorem Z_iret {x : Int32} {ty : FieldType} (hr : zyR Y = some ty) (hn : narrow ty (.int x) = .int x) (d : decode (zyC Y) pc = .ok (.ireturn, 1)) (hc : c ≤ mc) (hk : k ≤ ms) (h : K.1 (some (vi x)) M) : zAt l G Y (zEM G Y mc ms K) pc lv [vi x] M c k := by
  intro p e s m args below meth cd H locs ls C hlv hst hR hlo hl
  refine W.widen hc hk (zQ_ret ?_)
  exact W.zret C.1 C.2.1 (C.2.2.1.trans hr) hn (fun t ht hW => ⟨some (vi x), M, rfl, fun v hv => by cases hv; trivial, h, by rw [ht]; exact hR⟩) hlo d C.2.2.2.2.2.2.1
theorem Z_lret {x : Int64} (hr : zyR Y = some .long) (d : decode (zyC Y) pc = .ok (.lreturn, 1)) (hc : c ≤ mc) (hk : k ≤ ms) (h : K.1 (some (vl x)) M) : zAt l G Y (zEM G Y mc ms K) pc lv [vl x] M c k := by
  intro p e s m args below meth cd H locs ls C hlv hst hR hlo hl
  refine W.widen hc hk (zQ_ret ?_)
  exact W.lret C.1 C.2.1 (C.2.2.1.trans hr) (fun t ht hW => ⟨some (vl x), M, rfl, fun v hv => by cases hv; trivial, h, by rw [ht]; exact hR⟩) hlo d C.2.2.2.2.2.2.1
theorem Z_dret {x : UInt64} (hr : zyR Y = some .double) (d : decode (zyC Y) pc = .ok (.dreturn, 1)) (hc : c ≤ mc) (hk : k ≤ ms) (h : K.1 (some (vd x)) M) : zAt l G Y (zEM G Y mc ms K) pc lv [vd x] M c k := by
  intro p e s m args below meth cd H locs ls C hlv hst hR hlo hl
  refine W.widen hc hk (zQ_ret ?_)
  exact W.dret C.1 C.2.1 (C.2.2.1.trans hr) (fun t ht hW => ⟨some (vd x), M, rfl, fun v hv => by cases hv; trivial, h, by rw [ht]; exact hR⟩) hlo d C.2.2.2.2.2.2.1
theorem Z_fret {x : UInt32} (hr : zyR Y = some .float) (d : decode (zyC Y) pc = .ok (.freturn, 1)) (hc : c ≤ mc) (hk : k ≤ ms) (h : K.1 (some (vfl x)) M) : zAt l G Y (zEM G Y mc ms K) pc lv [vfl x] M c k := by
  intro p e s m args below meth cd H locs ls C hlv hst hR hlo hl
  refine W.widen hc hk (zQ_ret ?_)
  exact W.fret C.1 C.2.1 (C.2.2.1.trans hr) (fun t ht hW => ⟨some (vfl x), M, rfl, fun v hv => by cases hv; trivial, h, by rw [ht]; exact hR⟩) hlo d C.2.2.2.2.2.2.1
theorem Z_vret (hr : zyR Y = none) (d : decode (zyC Y) pc = .ok (.return_, 1)) (hc : c ≤ mc) (hk : k ≤ ms) (h : K.1 none M) : zAt l G Y (zEM G Y mc ms K) pc lv [] M c k := by
  intro p e s m args below meth cd H locs ls C hlv hst hR hlo hl
  refine W.widen hc hk (zQ_ret ?_)
  exact W.vret C.1 C.2.1 (C.2.2.1.trans hr) (fun t ht hW => ⟨none, M, rfl, (fun v hv => by cases hv), h, by rw [ht]; exact hR⟩) hlo d C.2.2.2.2.2.2.1
theorem Z_aret {v : zV} {ty : FieldType} (hr : zyR Y = some ty) (hty : (∃ n, ty = .object n) ∨ ∃ t, ty = .array t) (hv : (∃ q, v = .inr q) ∨ ∃ a, v = va a) (d : decode (zyC Y) pc = .ok (.areturn, 1)) (hc : c ≤ mc) (hk : k ≤ ms) (h : K.1 (some v) M) : zAt l G Y (zEM G Y mc ms K) pc lv [v] M c k := by
  intro p e s m args below meth cd H locs ls C hlv hst hR hlo hl
  refine W.widen hc hk (zQ_ret ?_)
  refine W.aret (v := tr G v) C.1 C.2.1 (C.2.2.1.trans hr) hty (Or.inr ?_) (fun t ht hW => ⟨some v, M, rfl, fun u hu => by cases hu; exact zkh hst, h, by rw [ht]; exact hR⟩) hlo d C.2.2.2.2.2.2.1
  rcases hv with ⟨q, rfl⟩ | ⟨a, rfl⟩
  · exact ⟨_, rfl⟩
  · exact ⟨_, rfl⟩
theorem zgood {Y' : zY} {ws : List Cond} (h : ∀ w ∈ ws, w ∈ zAll) (hc : Cond.code (zyN Y') (zyC Y') (zyL Y') (zyR Y') ∈ zAll) : GoodIn zAll (ws ++ zws Y') := by
  intro w hw
  have hm : w ∈ zAll := by
    rcases List.mem_append.mp hw with h1 | h1
    · exact h w h1
    · rcases List.mem_cons.mp h1 with h2 | h2
      · rw [h2]; exact hc
      · exact h2
  exact ⟨hm, good_of_word (List.mem_filter.mp hm).2⟩
theorem zPre_blind {G : zG} {av : List Value} {M : zM} : FrameBlind (va_Pc av (zPre G M)) := fun a U g mk q => by
  obtain ⟨q0, ⟨q1, q2⟩, q3⟩ := q
  exact ⟨q0, ⟨zTb.same (u := U) (U := U.calling g mk a) rfl q1, zTh.moved (u := U) (U := U.calling g mk a) (Vm.Alike.refl U.vm) q2⟩, q3⟩
theorem zPre_at {p : Program} {s : State} {m : MethodId} {args : Array Value} {meth : Method} {cd : Code} {H : Heap} (C : zCtx G Y p s m args meth cd) (hR : zRep G M H) {U : State} (hU : U.heap = H) (hW : s.WarmedH U.vm) : zPre G M U := by
  obtain ⟨g1, g2, g3⟩ := C.2.2.2.2.2.2.2.2.1
  refine ⟨⟨zTb.warm hW C.2.2.2.2.2.2.2.1, ?_⟩, by rw [hU]; exact hR⟩
  rw [hU]
  exact zTh.moved hW.alike (zTh.kept g1 g2 hR.2.1)
/-- what a call row has in hand of the callee's tables' words -/
def zLV (Y : zY) (idx : Nat) (Y' : zY) (n : Nat) (C : String) : Prop := Cond.methodLink (zyO Y) idx (zyN Y') ∈ zAll ∧ Cond.instanceMethod (zyN Y') ∈ zAll ∧ Cond.selects C (zyN Y') (zyN Y') ∈ zAll ∧ Cond.initialized C ∈ zAll ∧ Cond.code (zyN Y') (zyC Y') (zyL Y') (zyR Y') ∈ zAll ∧
  ((zyN Y').cls = C ∧ (zyN Y').cls ≠ "java/lang/invoke/MethodHandle" ∧ (zyN Y').cls ≠ "java/lang/invoke/VarHandle" ∧ (parseMethodDescriptor (zyN Y').desc).map (fun d => d.parameters.length) = some n) ∧ zyd Y' + 1 ≤ zyd Y ∧ 8 + (zyL Y' + 11) + 60 * zyd Y' ≤ 60 * zyd Y
def zLS (Y : zY) (idx : Nat) (Y' : zY) (n : Nat) : Prop := Cond.methodLink (zyO Y) idx (zyN Y') ∈ zAll ∧ Cond.static (zyN Y') ∈ zAll ∧ Cond.initialized (zyN Y').cls ∈ zAll ∧ Cond.code (zyN Y') (zyC Y') (zyL Y') (zyR Y') ∈ zAll ∧
  ((zyN Y').cls ≠ "java/lang/invoke/MethodHandle" ∧ (zyN Y').cls ≠ "java/lang/invoke/VarHandle" ∧ (parseMethodDescriptor (zyN Y').desc).map (fun d => d.parameters.length) = some n) ∧ zyd Y' + 1 ≤ zyd Y ∧ 8 + (zyL Y' + 11) + 60 * zyd Y' ≤ 60 * zyd Y
/-- a room that is large enough for Y's calls -/
def zRm (Y : zY) (R : Room) : Prop := zyd Y ≤ R.frames ∧ 60 * zyd Y ≤ R.locals
theorem zLV.cwR {Y Y' : zY} {idx n mc' ms' : Nat} {C : String} {R : Room} {s : State} {args : Array Value} (h : zLV Y idx Y' n C) (hE : zRm Y R) (hts : ∀ w ∈ zAll, w.before args s = true) : CallW R s args (zyO Y) C idx (zyN Y') (zyC Y') (zyL Y') (zyR Y') (zws Y') (zRoom (zyd Y') mc' ms') mc' ms' n := by
  obtain ⟨h1, h2, h3, h4, h5, h6, h7, h8⟩ := h
  refine cwV (Ts := zAll) n hts ?_ rfl rfl rfl h6 ⟨Nat.le_trans h7 hE.1, Nat.le_trans h8 hE.2⟩
  refine zgood (ws := [.methodLink (zyO Y) idx (zyN Y'), .instanceMethod (zyN Y'), .selects C (zyN Y') (zyN Y'), .initialized C]) (fun w hw => ?_) h5
  simp only [List.mem_cons, List.not_mem_nil, or_false] at hw
  rcases hw with rfl | rfl | rfl | rfl <;> assumption
theorem zLS.cwR {Y Y' : zY} {idx n mc' ms' : Nat} {R : Room} {s : State} {args : Array Value} (h : zLS Y idx Y' n) (hE : zRm Y R) (hts : ∀ w ∈ zAll, w.before args s = true) : CallB R s args (zyO Y) idx (zyN Y') (zyC Y') (zyL Y') (zyR Y') (zws Y') (zRoom (zyd Y') mc' ms') mc' ms' n ∧ (Cond.static (zyN Y')).before args s = true := by
  obtain ⟨h1, h2, h3, h4, h5, h6, h7⟩ := h
  refine va_cwS (Ts := zAll) n hts ?_ rfl rfl rfl h5 ⟨Nat.le_trans h6 hE.1, Nat.le_trans h7 hE.2⟩
  refine zgood (ws := [.methodLink (zyO Y) idx (zyN Y'), .static (zyN Y'), .initialized (zyN Y').cls]) (fun w hw => ?_) h4
  simp only [List.mem_cons, List.not_mem_nil, or_false] at hw
  rcases hw with rfl | rfl | rfl <;> assumption
theorem zcats (G : zG) (st : List zV) : ((st.map (tr G)).map fun v => v.category) = st.map zcat := by
  rw [List.map_map]
  apply List.map_congr_left
  intro v _
  exact zcat_tr G v
/-- behind a call that does not throw -/
theorem zgo {p : Program} {e : Env} {s : State} {m : MethodId} {args : Array Value} {below : List Frame} {meth : Method} {cd : Code} {H : Heap} {locs : List Loc} {ls : Array Slot} {st0 : List Value} {mc' ms' : Nat} {a : Array Value} {Kf : Option zV → zM → Prop}
    (hr : va_Run p l e E.1 s m args below meth cd H locs c k mc' ms' (F0 m pc ls st0) (st.map (tr G)) (zPost G Kf a) (zfr G)) (C : zCtx G Y p s m args meth cd) (hlv : ∀ q ∈ lv, zok q.2) (hst : ∀ v ∈ st, zok v) (hlo : ∀ q ∈ locs, zfr G q.base) (hl : lv_has ls (zyL Y) (lv.map (trq G)))
    (kk : ∀ (r : Option zV) (M1 : zM), Kf r M1 → zAt l G Y E (pc + 3) lv (r.toList ++ st) M1 (c + mc') (k + ms')) : W p l e E.1 s m args below meth cd H locs c k (E.2 below s args) (F0 m pc ls st0) := by
  intro T hT X
  obtain ⟨v, st₀, t, T', L, h0, X', hL, e1, e2, ⟨r, M1, hv, hok, hK, hR⟩, go⟩ := hr T hT X
  have hv' : v = r.map (tr G) := Outcome.returned.inj hv
  subst hv'
  obtain ⟨t2, a1, b1⟩ := kk r M1 hK p e s m args below meth cd T'.heap (locs ++ L) ls C hlv (fun u hu => by
      rcases List.mem_append.mp hu with h1 | h1
      · exact hok u (by cases r <;> simp_all)
      · exact hst u h1) (by rw [e1]; exact hR) (fun q hq => by
      rcases List.mem_append.mp hq with h1 | h1
      · exact hlo q h1
      · exact hL q h1) hl T' rfl X'
  refine ⟨t2, go t2 ?_, b1⟩
  have e3 : (r.toList ++ st).map (tr G) = (r.map (tr G)).toList ++ st.map (tr G) := by
    cases r <;> simp
  rw [e3] at a1
  exact a1
/-- behind a call that may throw, in a method that lets it pass -/
theorem zgoX {p : Program} {e : Env} {s : State} {m : MethodId} {args : Array Value} {below : List Frame} {meth : Method} {cd : Code} {H : Heap} {locs : List Loc} {ls : Array Slot} {st0 : List Value} {mc' ms' : Nat} {a : Array Value} {Kf : Option zV → zM → Prop} {KX' KX : String → zM → Prop} {K1 : Option zV → zM → Prop} (hT : zyT Y = [])
    (hr : vx_Run p l e (zRoom (zyd Y) mc ms) s m args below meth cd H locs c k mc' ms' (F0 m pc ls st0) (st.map (tr G)) (zPost G Kf a) (zPostX G KX') (zfr G)) (C : zCtx G Y p s m args meth cd) (hlv : ∀ q ∈ lv, zok q.2) (hst : ∀ v ∈ st, zok v) (hlo : ∀ q ∈ locs, zfr G q.base) (hl : lv_has ls (zyL Y) (lv.map (trq G)))
    (kx : ∀ (X : String) (M1 : zM), KX' X M1 → c + mc' ≤ mc ∧ k + ms' ≤ ms ∧ KX X M1)
    (kk : ∀ (r : Option zV) (M1 : zM), Kf r M1 → zAt l G Y (zEM G Y mc ms (K1, some KX)) (pc + 3) lv (r.toList ++ st) M1 (c + mc') (k + ms')) : W p l e (zRoom (zyd Y) mc ms) s m args below meth cd H locs c k ((zEM G Y mc ms (K1, some KX)).2 below s args) (F0 m pc ls st0) := by
  intro T hT' X
  rcases hr T hT' X with ⟨v, st₀, t, T', L, h0, X', hL, e1, e2, ⟨r, M1, hv, hok, hK, hR⟩, go⟩ | ⟨q, st₀, t, T', L, Ex, ce, h0, X', hL, e1, e2, ⟨M1, hKX, hR⟩, hce, hcv, hcl, go⟩
  · have hv' : v = r.map (tr G) := Outcome.returned.inj hv
    subst hv'
    obtain ⟨t2, a1, b1⟩ := kk r M1 hK p e s m args below meth cd T'.heap (locs ++ L) ls C hlv (fun u hu => by
        rcases List.mem_append.mp hu with h1 | h1
        · exact hok u (by cases r <;> simp_all)
        · exact hst u h1) (by rw [e1]; exact hR) (fun q hq => by
        rcases List.mem_append.mp hq with h1 | h1
        · exact hlo q h1
        · exact hL q h1) hl T' rfl X'
    refine ⟨t2, go t2 ?_, b1⟩
    have e3 : (r.toList ++ st).map (tr G) = (r.map (tr G)).toList ++ st.map (tr G) := by
      cases r <;> simp
    rw [e3] at a1
    exact a1
  · obtain ⟨x1, x2, x3⟩ := kx Ex M1 hKX
    have htab : ∀ x ∈ cd.exceptionTable.toList, covers x pc = false := fun x hx => by
      rw [C.2.2.2.2.2.2.2.2.2, hT] at hx
      cases hx
    obtain ⟨t2, a1, b1⟩ := vx_out (Qc := zPost G K1) (XC := zPostX G KX) (free := zfr G) (mc := mc) (ms := ms) (pc := pc) (ls := ls) (rest := st.map (tr G)) htab C.2.2.2.2.2.2.1 (H := T'.heap) (by rw [e1]; exact hce) hcv hcl (fun t3 ht3 _ => ⟨M1, x3, by rw [ht3, e1]; exact hR⟩) (fun z hz => by
        rcases List.mem_append.mp hz with h1 | h1
        · exact hlo z h1
        · exact hL z h1) x1 x2 T' rfl X'
    exact ⟨t2, Steps.trans go a1, b1⟩
theorem zrecv {p : Program} {s : State} {m : MethodId} {args : Array Value} {meth : Method} {cd : Code} {H : Heap} {s0 i0 ci N : Nat} {Cn : String} {T : u_T} (C : zCtx G Y p s m args meth cd) (hR : zRep G M H) (hi : i0 < zcnt s0) (hk : zkd s0 = some (.inl ci)) (hc : vwCl[ci]? = some (Cn, T, N)) : ∃ cellB : Cell, H[ga G s0 i0]? = some cellB ∧ cellB.vm.isStatics = false ∧ s.vm.findClass Cn = some cellB.cls := by
  have hh := zrow hR hi
  unfold zhold at hh
  rw [hk] at hh
  obtain ⟨r, h1, cell, q1, q2, q3, q4⟩ := hh
  exact ⟨cell, q1, by rw [q3]; rfl, by rw [q2]; exact ((zctK C).1 ci _ hc).2.1⟩
theorem Z_callV {Y' : zY} {idx n s0 i0 ci N mc' ms' : Nat} {Cn : String} {T : u_T} {as st0 : List zV} {Kf : Option zV → zM → Prop} (hE : zRm Y E.1) (L : zLV Y idx Y' n Cn) (hk : zkd s0 = some (.inl ci)) (hc : vwCl[ci]? = some (Cn, T, N)) (hn : as.length = n) (hs : st0 = as.reverse ++ vr s0 i0 :: st) (hw : (st.map zcat).sum ≤ 8) (d : decode (zyC Y) pc = .ok (.invokevirtual idx, 3)) (hf : c + mc' ≤ E.1.cells ∧ k + ms' ≤ E.1.slots) (h : zCal l G Y' mc' ms' (vr s0 i0 :: as) M (Kf, none)) (kk : ∀ (r : Option zV) (M1 : zM), Kf r M1 → zAt l G Y E (pc + 3) lv (r.toList ++ st) M1 (c + mc') (k + ms')) : zAt l G Y E pc lv st0 M c k := by
  intro p e s m args below meth cd H locs ls C hlv hst hR hlo hl
  subst hs
  have hav : ∀ v ∈ vr s0 i0 :: as, zok v := fun v hv => hst v (by
    rcases List.mem_cons.mp hv with h1 | h1
    · rw [h1]; simp
    · simp [h1])
  have hi : i0 < zcnt s0 := hav (vr s0 i0) List.mem_cons_self
  refine zgo (mc' := mc') (ms' := ms') (va_runV (As := as.map (tr G)) ⟨C.1, C.2.1, C.2.2.2.1, C.2.2.2.2.1, C.2.2.2.2.2.1⟩ (h hav) (L.cwR hE C.2.2.2.2.2.1) ⟨zPre_blind, zrecv C hR hi hk hc, fun U hU hW => ⟨rfl, zPre_at C hR hU hW⟩⟩ rfl (by rw [List.length_map]; exact hn) hl.1 (by simp) (by rw [zcats]; show 2 * 0 + _ ≤ 8; omega) d hf) C hlv (fun v hv => hst v (by simp [hv])) hlo hl kk
theorem Z_callS {Y' : zY} {idx n mc' ms' : Nat} {as st0 : List zV} {Kf : Option zV → zM → Prop} (hE : zRm Y E.1) (L : zLS Y idx Y' n) (hn : as.length = n) (hs : st0 = as.reverse ++ st) (hw : (st.map zcat).sum ≤ 8) (d : decode (zyC Y) pc = .ok (.invokestatic idx, 3)) (hf : c + mc' ≤ E.1.cells ∧ k + ms' ≤ E.1.slots) (h : zCal l G Y' mc' ms' as M (Kf, none)) (kk : ∀ (r : Option zV) (M1 : zM), Kf r M1 → zAt l G Y E (pc + 3) lv (r.toList ++ st) M1 (c + mc') (k + ms')) : zAt l G Y E pc lv st0 M c k := by
  intro p e s m args below meth cd H locs ls C hlv hst hR hlo hl
  subst hs
  have hav : ∀ v ∈ as, zok v := fun v hv => hst v (by simp [hv])
  refine zgo (mc' := mc') (ms' := ms') (va_runS (As := as.map (tr G)) ⟨C.1, C.2.1, C.2.2.2.1, C.2.2.2.2.1, C.2.2.2.2.2.1⟩ (h hav) (L.cwR hE C.2.2.2.2.2.1) ⟨zPre_blind, fun U hU hW => ⟨rfl, zPre_at C hR hU hW⟩⟩ rfl (by rw [List.length_map]; exact hn) hl.1 (by simp) (by rw [zcats]; show 2 * 0 + _ ≤ 8; omega) d hf) C hlv (fun v hv => hst v (by simp [hv])) hlo hl kk
theorem Z_callVX {Y' : zY} {idx n s0 i0 ci N mc' ms' : Nat} {Cn : String} {T : u_T} {as st0 : List zV} {Kf : Option zV → zM → Prop} {KX' KX : String → zM → Prop} {K1 : Option zV → zM → Prop} (hTY : zyT Y = []) (L : zLV Y idx Y' n Cn) (hk : zkd s0 = some (.inl ci)) (hc : vwCl[ci]? = some (Cn, T, N)) (hn : as.length = n) (hs : st0 = as.reverse ++ vr s0 i0 :: st) (hw : (st.map zcat).sum ≤ 8) (d : decode (zyC Y) pc = .ok (.invokevirtual idx, 3)) (hf : c + mc' ≤ mc ∧ k + ms' ≤ ms) (h : zCal l G Y' mc' ms' (vr s0 i0 :: as) M (Kf, some KX')) (kx : ∀ (X : String) (M1 : zM), KX' X M1 → KX X M1) (kk : ∀ (r : Option zV) (M1 : zM), Kf r M1 → zAt l G Y (zEM G Y mc ms (K1, some KX)) (pc + 3) lv (r.toList ++ st) M1 (c + mc') (k + ms')) : zAt l G Y (zEM G Y mc ms (K1, some KX)) pc lv st0 M c k := by
  intro p e s m args below meth cd H locs ls C hlv hst hR hlo hl
  subst hs
  have hav : ∀ v ∈ vr s0 i0 :: as, zok v := fun v hv => hst v (by
    rcases List.mem_cons.mp hv with h1 | h1
    · rw [h1]; simp
    · simp [h1])
  have hi : i0 < zcnt s0 := hav (vr s0 i0) List.mem_cons_self
  refine zgoX (mc' := mc') (ms' := ms') hTY (vx_runV (As := as.map (tr G)) ⟨C.1, C.2.1, C.2.2.2.1, C.2.2.2.2.1, C.2.2.2.2.2.1⟩ (h hav) (L.cwR ⟨Nat.le_refl _, Nat.le_refl _⟩ C.2.2.2.2.2.1) ⟨zPre_blind, zrecv C hR hi hk hc, fun U hU hW => ⟨rfl, zPre_at C hR hU hW⟩⟩ rfl (by rw [List.length_map]; exact hn) hl.1 (by simp) (by rw [zcats]; show 2 * 0 + _ ≤ 8; omega) d hf) C hlv (fun v hv => hst v (by simp [hv])) hlo hl (fun X1 M1 h1 => ⟨hf.1, hf.2, kx X1 M1 h1⟩) kk
theorem Z_callSX {Y' : zY} {idx n mc' ms' : Nat} {as st0 : List zV} {Kf : Option zV → zM → Prop} {KX' KX : String → zM → Prop} {K1 : Option zV → zM → Prop} (hTY : zyT Y = []) (L : zLS Y idx Y' n) (hn : as.length = n) (hs : st0 = as.reverse ++ st) (hw : (st.map zcat).sum ≤ 8) (d : decode (zyC Y) pc = .ok (.invokestatic idx, 3)) (hf : c + mc' ≤ mc ∧ k + ms' ≤ ms) (h : zCal l G Y' mc' ms' as M (Kf, some KX')) (kx : ∀ (X : String) (M1 : zM), KX' X M1 → KX X M1) (kk : ∀ (r : Option zV) (M1 : zM), Kf r M1 → zAt l G Y (zEM G Y mc ms (K1, some KX)) (pc + 3) lv (r.toList ++ st) M1 (c + mc') (k + ms')) : zAt l G Y (zEM G Y mc ms (K1, some KX)) pc lv st0 M c k := by
  intro p e s m args below meth cd H locs ls C hlv hst hR hlo hl
  subst hs
  have hav : ∀ v ∈ as, zok v := fun v hv => hst v (by simp [hv])
  refine zgoX (mc' := mc') (ms' := ms') hTY (vx_runS (As := as.map (tr G)) ⟨C.1, C.2.1, C.2.2.2.1, C.2.2.2.2.1, C.2.2.2.2.2.1⟩ (h hav) (L.cwR ⟨Nat.le_refl _, Nat.le_refl _⟩ C.2.2.2.2.2.1) ⟨zPre_blind, fun U hU hW => ⟨rfl, zPre_at C hR hU hW⟩⟩ rfl (by rw [List.length_map]; exact hn) hl.1 (by simp) (by rw [zcats]; show 2 * 0 + _ ≤ 8; omega) d hf) C hlv (fun v hv => hst v (by simp [hv])) hlo hl (fun X1 M1 h1 => ⟨hf.1, hf.2, kx X1 M1 h1⟩) kk
/-! calls by what they answer -/
def zKI (K : Int32 → zM → Prop) : Option zV → zM → Prop := fun r M1 => ∃ x : Int32, r = some (vi x) ∧ K x M1
def zKL (K : Int64 → zM → Prop) : Option zV → zM → Prop := fun r M1 => ∃ x : Int64, r = some (vl x) ∧ K x M1
def zKD (K : UInt64 → zM → Prop) : Option zV → zM → Prop := fun r M1 => ∃ x : UInt64, r = some (vd x) ∧ K x M1
def zKF (K : UInt32 → zM → Prop) : Option zV → zM → Prop := fun r M1 => ∃ x : UInt32, r = some (vfl x) ∧ K x M1
def zKA (K : Nat → zM → Prop) : Option zV → zM → Prop := fun r M1 => ∃ x : Nat, r = some (va x) ∧ K x M1
def zKR (K : zI → zM → Prop) : Option zV → zM → Prop := fun r M1 => ∃ x : zI, r = some (Sum.inr x) ∧ K x M1
def zKV (K : zM → Prop) : Option zV → zM → Prop := fun r M1 => r = none ∧ K M1
abbrev zCalI (l : Launch) (G : zG) (Y : zY) (mc ms : Nat) (av : List zV) (M : zM) (K : Int32 → zM → Prop) : Prop := zCal l G Y mc ms av M (zKI K, none)
abbrev zCalIX (l : Launch) (G : zG) (Y : zY) (mc ms : Nat) (av : List zV) (M : zM) (K : Int32 → zM → Prop) (KX : String → zM → Prop) : Prop := zCal l G Y mc ms av M (zKI K, some KX)
abbrev zCalL (l : Launch) (G : zG) (Y : zY) (mc ms : Nat) (av : List zV) (M : zM) (K : Int64 → zM → Prop) : Prop := zCal l G Y mc ms av M (zKL K, none)
abbrev zCalLX (l : Launch) (G : zG) (Y : zY) (mc ms : Nat) (av : List zV) (M : zM) (K : Int64 → zM → Prop) (KX : String → zM → Prop) : Prop := zCal l G Y mc ms av M (zKL K, some KX)
abbrev zCalD (l : Launch) (G : zG) (Y : zY) (mc ms : Nat) (av : List zV) (M : zM) (K : UInt64 → zM → Prop) : Prop := zCal l G Y mc ms av M (zKD K, none)
abbrev zCalDX (l : Launch) (G : zG) (Y : zY) (mc ms : Nat) (av : List zV) (M : zM) (K : UInt64 → zM → Prop) (KX : String → zM → Prop) : Prop := zCal l G Y mc ms av M (zKD K, some KX)
abbrev zCalF (l : Launch) (G : zG) (Y : zY) (mc ms : Nat) (av : List zV) (M : zM) (K : UInt32 → zM → Prop) : Prop := zCal l G Y mc ms av M (zKF K, none)
abbrev zCalFX (l : Launch) (G : zG) (Y : zY) (mc ms : Nat) (av : List zV) (M : zM) (K : UInt32 → zM → Prop) (KX : String → zM → Prop) : Prop := zCal l G Y mc ms av M (zKF K, some KX)
abbrev zCalA (l : Launch) (G : zG) (Y : zY) (mc ms : Nat) (av : List zV) (M : zM) (K : Nat → zM → Prop) : Prop := zCal l G Y mc ms av M (zKA K, none)
abbrev zCalAX (l : Launch) (G : zG) (Y : zY) (mc ms : Nat) (av : List zV) (M : zM) (K : Nat → zM → Prop) (KX : String → zM → Prop) : Prop := zCal l G Y mc ms av M (zKA K, some KX)
abbrev zCalR (l : Launch) (G : zG) (Y : zY) (mc ms : Nat) (av : List zV) (M : zM) (K : zI → zM → Prop) : Prop := zCal l G Y mc ms av M (zKR K, none)
abbrev zCalRX (l : Launch) (G : zG) (Y : zY) (mc ms : Nat) (av : List zV) (M : zM) (K : zI → zM → Prop) (KX : String → zM → Prop) : Prop := zCal l G Y mc ms av M (zKR K, some KX)
abbrev zCalV (l : Launch) (G : zG) (Y : zY) (mc ms : Nat) (av : List zV) (M : zM) (K : zM → Prop) : Prop := zCal l G Y mc ms av M (zKV K, none)
abbrev zCalVX (l : Launch) (G : zG) (Y : zY) (mc ms : Nat) (av : List zV) (M : zM) (K : zM → Prop) (KX : String → zM → Prop) : Prop := zCal l G Y mc ms av M (zKV K, some KX)
theorem Z_callVI {Y' : zY} {idx n s0 i0 ci N mc' ms' : Nat} {Cn : String} {T : u_T} {as st0 : List zV} {Kf : Int32 → zM → Prop} (hE : zRm Y E.1) (L : zLV Y idx Y' n Cn) (hk : zkd s0 = some (.inl ci)) (hc : vwCl[ci]? = some (Cn, T, N)) (hn : as.length = n) (hs : st0 = as.reverse ++ vr s0 i0 :: st) (hw : (st.map zcat).sum ≤ 8) (d : decode (zyC Y) pc = .ok (.invokevirtual idx, 3)) (hf : c + mc' ≤ E.1.cells ∧ k + ms' ≤ E.1.slots) (h : zCalI l G Y' mc' ms' (vr s0 i0 :: as) M Kf) (kk : ∀ (x : Int32) (M1 : zM), Kf x M1 → zAt l G Y E (pc + 3) lv (vi x :: st) M1 (c + mc') (k + ms')) : zAt l G Y E pc lv st0 M c k :=
  Z_callV hE L hk hc hn hs hw d hf h (fun r M1 hr => by obtain ⟨x, rfl, hx⟩ := hr; exact kk x M1 hx)
theorem Z_callSI {Y' : zY} {idx n mc' ms' : Nat} {as st0 : List zV} {Kf : Int32 → zM → Prop} (hE : zRm Y E.1) (L : zLS Y idx Y' n) (hn : as.length = n) (hs : st0 = as.reverse ++ st) (hw : (st.map zcat).sum ≤ 8) (d : decode (zyC Y) pc = .ok (.invokestatic idx, 3)) (hf : c + mc' ≤ E.1.cells ∧ k + ms' ≤ E.1.slots) (h : zCalI l G Y' mc' ms' as M Kf) (kk : ∀ (x : Int32) (M1 : zM), Kf x M1 → zAt l G Y E (pc + 3) lv (vi x :: st) M1 (c + mc') (k + ms')) : zAt l G Y E pc lv st0 M c k :=
  Z_callS hE L hn hs hw d hf h (fun r M1 hr => by obtain ⟨x, rfl, hx⟩ := hr; exact kk x M1 hx)
theorem Z_callVL {Y' : zY} {idx n s0 i0 ci N mc' ms' : Nat} {Cn : String} {T : u_T} {as st0 : List zV} {Kf : Int64 → zM → Prop} (hE : zRm Y E.1) (L : zLV Y idx Y' n Cn) (hk : zkd s0 = some (.inl ci)) (hc : vwCl[ci]? = some (Cn, T, N)) (hn : as.length = n) (hs : st0 = as.reverse ++ vr s0 i0 :: st) (hw : (st.map zcat).sum ≤ 8) (d : decode (zyC Y) pc = .ok (.invokevirtual idx, 3)) (hf : c + mc' ≤ E.1.cells ∧ k + ms' ≤ E.1.slots) (h : zCalL l G Y' mc' ms' (vr s0 i0 :: as) M Kf) (kk : ∀ (x : Int64) (M1 : zM), Kf x M1 → zAt l G Y E (pc + 3) lv (vl x :: st) M1 (c + mc') (k + ms')) : zAt l G Y E pc lv st0 M c k :=
  Z_callV hE L hk hc hn hs hw d hf h (fun r M1 hr => by obtain ⟨x, rfl, hx⟩ := hr; exact kk x M1 hx)
theorem Z_callSL {Y' : zY} {idx n mc' ms' : Nat} {as st0 : List zV} {Kf : Int64 → zM → Prop} (hE : zRm Y E.1) (L : zLS Y idx Y' n) (hn : as.length = n) (hs : st0 = as.reverse ++ st) (hw : (st.map zcat).sum ≤ 8) (d : decode (zyC Y) pc = .ok (.invokestatic idx, 3)) (hf : c + mc' ≤ E.1.cells ∧ k + ms' ≤ E.1.slots) (h : zCalL l G Y' mc' ms' as M Kf) (kk : ∀ (x : Int64) (M1 : zM), Kf x M1 → zAt l G Y E (pc + 3) lv (vl x :: st) M1 (c + mc') (k + ms')) : zAt l G Y E pc lv st0 M c k :=
  Z_callS hE L hn hs hw d hf h (fun r M1 hr => by obtain ⟨x, rfl, hx⟩ := hr; exact kk x M1 hx)
theorem Z_callVD {Y' : zY} {idx n s0 i0 ci N mc' ms' : Nat} {Cn : String} {T : u_T} {as st0 : List zV} {Kf : UInt64 → zM → Prop} (hE : zRm Y E.1) (L : zLV Y idx Y' n Cn) (hk : zkd s0 = some (.inl ci)) (hc : vwCl[ci]? = some (Cn, T, N)) (hn : as.length = n) (hs : st0 = as.reverse ++ vr s0 i0 :: st) (hw : (st.map zcat).sum ≤ 8) (d : decode (zyC Y) pc = .ok (.invokevirtual idx, 3)) (hf : c + mc' ≤ E.1.cells ∧ k + ms' ≤ E.1.slots) (h : zCalD l G Y' mc' ms' (vr s0 i0 :: as) M Kf) (kk : ∀ (x : UInt64) (M1 : zM), Kf x M1 → zAt l G Y E (pc + 3) lv (vd x :: st) M1 (c + mc') (k + ms')) : zAt l G Y E pc lv st0 M c k :=
  Z_callV hE L hk hc hn hs hw d hf h (fun r M1 hr => by obtain ⟨x, rfl, hx⟩ := hr; exact kk x M1 hx)
theorem Z_callSD {Y' : zY} {idx n mc' ms' : Nat} {as st0 : List zV} {Kf : UInt64 → zM → Prop} (hE : zRm Y E.1) (L : zLS Y idx Y' n) (hn : as.length = n) (hs : st0 = as.reverse ++ st) (hw : (st.map zcat).sum ≤ 8) (d : decode (zyC Y) pc = .ok (.invokestatic idx, 3)) (hf : c + mc' ≤ E.1.cells ∧ k + ms' ≤ E.1.slots) (h : zCalD l G Y' mc' ms' as M Kf) (kk : ∀ (x : UInt64) (M1 : zM), Kf x M1 → zAt l G Y E (pc + 3) lv (vd x :: st) M1 (c + mc') (k + ms')) : zAt l G Y E pc lv st0 M c k :=
  Z_callS hE L hn hs hw d hf h (fun r M1 hr => by obtain ⟨x, rfl, hx⟩ := hr; exact kk x M1 hx)
theorem Z_callVF {Y' : zY} {idx n s0 i0 ci N mc' ms' : Nat} {Cn : String} {T : u_T} {as st0 : List zV} {Kf : UInt32 → zM → Prop} (hE : zRm Y E.1) (L : zLV Y idx Y' n Cn) (hk : zkd s0 = some (.inl ci)) (hc : vwCl[ci]? = some (Cn, T, N)) (hn : as.length = n) (hs : st0 = as.reverse ++ vr s0 i0 :: st) (hw : (st.map zcat).sum ≤ 8) (d : decode (zyC Y) pc = .ok (.invokevirtual idx, 3)) (hf : c + mc' ≤ E.1.cells ∧ k + ms' ≤ E.1.slots) (h : zCalF l G Y' mc' ms' (vr s0 i0 :: as) M Kf) (kk : ∀ (x : UInt32) (M1 : zM), Kf x M1 → zAt l G Y E (pc + 3) lv (vfl x :: st) M1 (c + mc') (k + ms')) : zAt l G Y E pc lv st0 M c k :=
  Z_callV hE L hk hc hn hs hw d hf h (fun r M1 hr => by obtain ⟨x, rfl, hx⟩ := hr; exact kk x M1 hx)
theorem Z_callSF {Y' : zY} {idx n mc' ms' : Nat} {as st0 : List zV} {Kf : UInt32 → zM → Prop} (hE : zRm Y E.1) (L : zLS Y idx Y' n) (hn : as.length = n) (hs : st0 = as.reverse ++ st) (hw : (st.map zcat).sum ≤ 8) (d : decode (zyC Y) pc = .ok (.invokestatic idx, 3)) (hf : c + mc' ≤ E.1.cells ∧ k + ms' ≤ E.1.slots) (h : zCalF l G Y' mc' ms' as M Kf) (kk : ∀ (x : UInt32) (M1 : zM), Kf x M1 → zAt l G Y E (pc + 3) lv (vfl x :: st) M1 (c + mc') (k + ms')) : zAt l G Y E pc lv st0 M c k :=
  Z_callS hE L hn hs hw d hf h (fun r M1 hr => by obtain ⟨x, rfl, hx⟩ := hr; exact kk x M1 hx)
theorem Z_callVA {Y' : zY} {idx n s0 i0 ci N mc' ms' : Nat} {Cn : String} {T : u_T} {as st0 : List zV} {Kf : Nat → zM → Prop} (hE : zRm Y E.1) (L : zLV Y idx Y' n Cn) (hk : zkd s0 = some (.inl ci)) (hc : vwCl[ci]? = some (Cn, T, N)) (hn : as.length = n) (hs : st0 = as.reverse ++ vr s0 i0 :: st) (hw : (st.map zcat).sum ≤ 8) (d : decode (zyC Y) pc = .ok (.invokevirtual idx, 3)) (hf : c + mc' ≤ E.1.cells ∧ k + ms' ≤ E.1.slots) (h : zCalA l G Y' mc' ms' (vr s0 i0 :: as) M Kf) (kk : ∀ (x : Nat) (M1 : zM), Kf x M1 → zAt l G Y E (pc + 3) lv (va x :: st) M1 (c + mc') (k + ms')) : zAt l G Y E pc lv st0 M c k :=
  Z_callV hE L hk hc hn hs hw d hf h (fun r M1 hr => by obtain ⟨x, rfl, hx⟩ := hr; exact kk x M1 hx)
theorem Z_callSA {Y' : zY} {idx n mc' ms' : Nat} {as st0 : List zV} {Kf : Nat → zM → Prop} (hE : zRm Y E.1) (L : zLS Y idx Y' n) (hn : as.length = n) (hs : st0 = as.reverse ++ st) (hw : (st.map zcat).sum ≤ 8) (d : decode (zyC Y) pc = .ok (.invokestatic idx, 3)) (hf : c + mc' ≤ E.1.cells ∧ k + ms' ≤ E.1.slots) (h : zCalA l G Y' mc' ms' as M Kf) (kk : ∀ (x : Nat) (M1 : zM), Kf x M1 → zAt l G Y E (pc + 3) lv (va x :: st) M1 (c + mc') (k + ms')) : zAt l G Y E pc lv st0 M c k :=
  Z_callS hE L hn hs hw d hf h (fun r M1 hr => by obtain ⟨x, rfl, hx⟩ := hr; exact kk x M1 hx)
theorem Z_callVR {Y' : zY} {idx n s0 i0 ci N mc' ms' : Nat} {Cn : String} {T : u_T} {as st0 : List zV} {Kf : zI → zM → Prop} (hE : zRm Y E.1) (L : zLV Y idx Y' n Cn) (hk : zkd s0 = some (.inl ci)) (hc : vwCl[ci]? = some (Cn, T, N)) (hn : as.length = n) (hs : st0 = as.reverse ++ vr s0 i0 :: st) (hw : (st.map zcat).sum ≤ 8) (d : decode (zyC Y) pc = .ok (.invokevirtual idx, 3)) (hf : c + mc' ≤ E.1.cells ∧ k + ms' ≤ E.1.slots) (h : zCalR l G Y' mc' ms' (vr s0 i0 :: as) M Kf) (kk : ∀ (x : zI) (M1 : zM), Kf x M1 → zAt l G Y E (pc + 3) lv (Sum.inr x :: st) M1 (c + mc') (k + ms')) : zAt l G Y E pc lv st0 M c k :=
  Z_callV hE L hk hc hn hs hw d hf h (fun r M1 hr => by obtain ⟨x, rfl, hx⟩ := hr; exact kk x M1 hx)
theorem Z_callSR {Y' : zY} {idx n mc' ms' : Nat} {as st0 : List zV} {Kf : zI → zM → Prop} (hE : zRm Y E.1) (L : zLS Y idx Y' n) (hn : as.length = n) (hs : st0 = as.reverse ++ st) (hw : (st.map zcat).sum ≤ 8) (d : decode (zyC Y) pc = .ok (.invokestatic idx, 3)) (hf : c + mc' ≤ E.1.cells ∧ k + ms' ≤ E.1.slots) (h : zCalR l G Y' mc' ms' as M Kf) (kk : ∀ (x : zI) (M1 : zM), Kf x M1 → zAt l G Y E (pc + 3) lv (Sum.inr x :: st) M1 (c + mc') (k + ms')) : zAt l G Y E pc lv st0 M c k :=
  Z_callS hE L hn hs hw d hf h (fun r M1 hr => by obtain ⟨x, rfl, hx⟩ := hr; exact kk x M1 hx)
theorem Z_callVV {Y' : zY} {idx n s0 i0 ci N mc' ms' : Nat} {Cn : String} {T : u_T} {as st0 : List zV} {Kf : zM → Prop} (hE : zRm Y E.1) (L : zLV Y idx Y' n Cn) (hk : zkd s0 = some (.inl ci)) (hc : vwCl[ci]? = some (Cn, T, N)) (hn : as.length = n) (hs : st0 = as.reverse ++ vr s0 i0 :: st) (hw : (st.map zcat).sum ≤ 8) (d : decode (zyC Y) pc = .ok (.invokevirtual idx, 3)) (hf : c + mc' ≤ E.1.cells ∧ k + ms' ≤ E.1.slots) (h : zCalV l G Y' mc' ms' (vr s0 i0 :: as) M Kf) (kk : ∀ (M1 : zM), Kf M1 → zAt l G Y E (pc + 3) lv (st) M1 (c + mc') (k + ms')) : zAt l G Y E pc lv st0 M c k :=
  Z_callV hE L hk hc hn hs hw d hf h (fun r M1 hr => by obtain ⟨rfl, hx⟩ := hr; exact kk M1 hx)
theorem Z_callSV {Y' : zY} {idx n mc' ms' : Nat} {as st0 : List zV} {Kf : zM → Prop} (hE : zRm Y E.1) (L : zLS Y idx Y' n) (hn : as.length = n) (hs : st0 = as.reverse ++ st) (hw : (st.map zcat).sum ≤ 8) (d : decode (zyC Y) pc = .ok (.invokestatic idx, 3)) (hf : c + mc' ≤ E.1.cells ∧ k + ms' ≤ E.1.slots) (h : zCalV l G Y' mc' ms' as M Kf) (kk : ∀ (M1 : zM), Kf M1 → zAt l G Y E (pc + 3) lv (st) M1 (c + mc') (k + ms')) : zAt l G Y E pc lv st0 M c k :=
  Z_callS hE L hn hs hw d hf h (fun r M1 hr => by obtain ⟨rfl, hx⟩ := hr; exact kk M1 hx)
theorem Z_callVIX {Y' : zY} {idx n s0 i0 ci N mc' ms' : Nat} {Cn : String} {T : u_T} {as st0 : List zV} {Kf : Int32 → zM → Prop} {KX' KX : String → zM → Prop} {K1 : Option zV → zM → Prop} (hTY : zyT Y = []) (L : zLV Y idx Y' n Cn) (hk : zkd s0 = some (.inl ci)) (hc : vwCl[ci]? = some (Cn, T, N)) (hn : as.length = n) (hs : st0 = as.reverse ++ vr s0 i0 :: st) (hw : (st.map zcat).sum ≤ 8) (d : decode (zyC Y) pc = .ok (.invokevirtual idx, 3)) (hf : c + mc' ≤ mc ∧ k + ms' ≤ ms) (h : zCalIX l G Y' mc' ms' (vr s0 i0 :: as) M Kf KX') (kx : ∀ (X : String) (M1 : zM), KX' X M1 → KX X M1) (kk : ∀ (x : Int32) (M1 : zM), Kf x M1 → zAt l G Y (zEM G Y mc ms (K1, some KX)) (pc + 3) lv (vi x :: st) M1 (c + mc') (k + ms')) : zAt l G Y (zEM G Y mc ms (K1, some KX)) pc lv st0 M c k :=
  Z_callVX hTY L hk hc hn hs hw d hf h kx (fun r M1 hr => by obtain ⟨x, rfl, hx⟩ := hr; exact kk x M1 hx)
theorem Z_callSIX {Y' : zY} {idx n mc' ms' : Nat} {as st0 : List zV} {Kf : Int32 → zM → Prop} {KX' KX : String → zM → Prop} {K1 : Option zV → zM → Prop} (hTY : zyT Y = []) (L : zLS Y idx Y' n) (hn : as.length = n) (hs : st0 = as.reverse ++ st) (hw : (st.map zcat).sum ≤ 8) (d : decode (zyC Y) pc = .ok (.invokestatic idx, 3)) (hf : c + mc' ≤ mc ∧ k + ms' ≤ ms) (h : zCalIX l G Y' mc' ms' as M Kf KX') (kx : ∀ (X : String) (M1 : zM), KX' X M1 → KX X M1) (kk : ∀ (x : Int32) (M1 : zM), Kf x M1 → zAt l G Y (zEM G Y mc ms (K1, some KX)) (pc + 3) lv (vi x :: st) M1 (c + mc') (k + ms')) : zAt l G Y (zEM G Y mc ms (K1, some KX)) pc lv st0 M c k :=
  Z_callSX hTY L hn hs hw d hf h kx (fun r M1 hr => by obtain ⟨x, rfl, hx⟩ := hr; exact kk x M1 hx)
theorem Z_callVLX {Y' : zY} {idx n s0 i0 ci N mc' ms' : Nat} {Cn : String} {T : u_T} {as st0 : List zV} {Kf : Int64 → zM → Prop} {KX' KX : String → zM → Prop} {K1 : Option zV → zM → Prop} (hTY : zyT Y = []) (L : zLV Y idx Y' n Cn) (hk : zkd s0 = some (.inl ci)) (hc : vwCl[ci]? = some (Cn, T, N)) (hn : as.length = n) (hs : st0 = as.reverse ++ vr s0 i0 :: st) (hw : (st.map zcat).sum ≤ 8) (d : decode (zyC Y) pc = .ok (.invokevirtual idx, 3)) (hf : c + mc' ≤ mc ∧ k + ms' ≤ ms) (h : zCalLX l G Y' mc' ms' (vr s0 i0 :: as) M Kf KX') (kx : ∀ (X : String) (M1 : zM), KX' X M1 → KX X M1) (kk : ∀ (x : Int64) (M1 : zM), Kf x M1 → zAt l G Y (zEM G Y mc ms (K1, some KX)) (pc + 3) lv (vl x :: st) M1 (c + mc') (k + ms')) : zAt l G Y (zEM G Y mc ms (K1, some KX)) pc lv st0 M c k :=
  Z_callVX hTY L hk hc hn hs hw d hf h kx (fun r M1 hr => by obtain ⟨x, rfl, hx⟩ := hr; exact kk x M1 hx)
theorem Z_callSLX {Y' : zY} {idx n mc' ms' : Nat} {as st0 : List zV} {Kf : Int64 → zM → Prop} {KX' KX : String → zM → Prop} {K1 : Option zV → zM → Prop} (hTY : zyT Y = []) (L : zLS Y idx Y' n) (hn : as.length = n) (hs : st0 = as.reverse ++ st) (hw : (st.map zcat).sum ≤ 8) (d : decode (zyC Y) pc = .ok (.invokestatic idx, 3)) (hf : c + mc' ≤ mc ∧ k + ms' ≤ ms) (h : zCalLX l G Y' mc' ms' as M Kf KX') (kx : ∀ (X : String) (M1 : zM), KX' X M1 → KX X M1) (kk : ∀ (x : Int64) (M1 : zM), Kf x M1 → zAt l G Y (zEM G Y mc ms (K1, some KX)) (pc + 3) lv (vl x :: st) M1 (c + mc') (k + ms')) : zAt l G Y (zEM G Y mc ms (K1, some KX)) pc lv st0 M c k :=
  Z_callSX hTY L hn hs hw d hf h kx (fun r M1 hr => by obtain ⟨x, rfl, hx⟩ := hr; exact kk x M1 hx)
theorem Z_callVDX {Y' : zY} {idx n s0 i0 ci N mc' ms' : Nat} {Cn : String} {T : u_T} {as st0 : List zV} {Kf : UInt64 → zM → Prop} {KX' KX : String → zM → Prop} {K1 : Option zV → zM → Prop} (hTY : zyT Y = []) (L : zLV Y idx Y' n Cn) (hk : zkd s0 = some (.inl ci)) (hc : vwCl[ci]? = some (Cn, T, N)) (hn : as.length = n) (hs : st0 = as.reverse ++ vr s0 i0 :: st) (hw : (st.map zcat).sum ≤ 8) (d : decode (zyC Y) pc = .ok (.invokevirtual idx, 3)) (hf : c + mc' ≤ mc ∧ k + ms' ≤ ms) (h : zCalDX l G Y' mc' ms' (vr s0 i0 :: as) M Kf KX') (kx : ∀ (X : String) (M1 : zM), KX' X M1 → KX X M1) (kk : ∀ (x : UInt64) (M1 : zM), Kf x M1 → zAt l G Y (zEM G Y mc ms (K1, some KX)) (pc + 3) lv (vd x :: st) M1 (c + mc') (k + ms')) : zAt l G Y (zEM G Y mc ms (K1, some KX)) pc lv st0 M c k :=
  Z_callVX hTY L hk hc hn hs hw d hf h kx (fun r M1 hr => by obtain ⟨x, rfl, hx⟩ := hr; exact kk x M1 hx)
theorem Z_callSDX {Y' : zY} {idx n mc' ms' : Nat} {as st0 : List zV} {Kf : UInt64 → zM → Prop} {KX' KX : String → zM → Prop} {K1 : Option zV → zM → Prop} (hTY : zyT Y = []) (L : zLS Y idx Y' n) (hn : as.length = n) (hs : st0 = as.reverse ++ st) (hw : (st.map zcat).sum ≤ 8) (d : decode (zyC Y) pc = .ok (.invokestatic idx, 3)) (hf : c + mc' ≤ mc ∧ k + ms' ≤ ms) (h : zCalDX l G Y' mc' ms' as M Kf KX') (kx : ∀ (X : String) (M1 : zM), KX' X M1 → KX X M1) (kk : ∀ (x : UInt64) (M1 : zM), Kf x M1 → zAt l G Y (zEM G Y mc ms (K1, some KX)) (pc + 3) lv (vd x :: st) M1 (c + mc') (k + ms')) : zAt l G Y (zEM G Y mc ms (K1, some KX)) pc lv st0 M c k :=
  Z_callSX hTY L hn hs hw d hf h kx (fun r M1 hr => by obtain ⟨x, rfl, hx⟩ := hr; exact kk x M1 hx)
theorem Z_callVFX {Y' : zY} {idx n s0 i0 ci N mc' ms' : Nat} {Cn : String} {T : u_T} {as st0 : List zV} {Kf : UInt32 → zM → Prop} {KX' KX : String → zM → Prop} {K1 : Option zV → zM → Prop} (hTY : zyT Y = []) (L : zLV Y idx Y' n Cn) (hk : zkd s0 = some (.inl ci)) (hc : vwCl[ci]? = some (Cn, T, N)) (hn : as.length = n) (hs : st0 = as.reverse ++ vr s0 i0 :: st) (hw : (st.map zcat).sum ≤ 8) (d : decode (zyC Y) pc = .ok (.invokevirtual idx, 3)) (hf : c + mc' ≤ mc ∧ k + ms' ≤ ms) (h : zCalFX l G Y' mc' ms' (vr s0 i0 :: as) M Kf KX') (kx : ∀ (X : String) (M1 : zM), KX' X M1 → KX X M1) (kk : ∀ (x : UInt32) (M1 : zM), Kf x M1 → zAt l G Y (zEM G Y mc ms (K1, some KX)) (pc + 3) lv (vfl x :: st) M1 (c + mc') (k + ms')) : zAt l G Y (zEM G Y mc ms (K1, some KX)) pc lv st0 M c k :=
  Z_callVX hTY L hk hc hn hs hw d hf h kx (fun r M1 hr => by obtain ⟨x, rfl, hx⟩ := hr; exact kk x M1 hx)
theorem Z_callSFX {Y' : zY} {idx n mc' ms' : Nat} {as st0 : List zV} {Kf : UInt32 → zM → Prop} {KX' KX : String → zM → Prop} {K1 : Option zV → zM → Prop} (hTY : zyT Y = []) (L : zLS Y idx Y' n) (hn : as.length = n) (hs : st0 = as.reverse ++ st) (hw : (st.map zcat).sum ≤ 8) (d : decode (zyC Y) pc = .ok (.invokestatic idx, 3)) (hf : c + mc' ≤ mc ∧ k + ms' ≤ ms) (h : zCalFX l G Y' mc' ms' as M Kf KX') (kx : ∀ (X : String) (M1 : zM), KX' X M1 → KX X M1) (kk : ∀ (x : UInt32) (M1 : zM), Kf x M1 → zAt l G Y (zEM G Y mc ms (K1, some KX)) (pc + 3) lv (vfl x :: st) M1 (c + mc') (k + ms')) : zAt l G Y (zEM G Y mc ms (K1, some KX)) pc lv st0 M c k :=
  Z_callSX hTY L hn hs hw d hf h kx (fun r M1 hr => by obtain ⟨x, rfl, hx⟩ := hr; exact kk x M1 hx)
theorem Z_callVAX {Y' : zY} {idx n s0 i0 ci N mc' ms' : Nat} {Cn : String} {T : u_T} {as st0 : List zV} {Kf : Nat → zM → Prop} {KX' KX : String → zM → Prop} {K1 : Option zV → zM → Prop} (hTY : zyT Y = []) (L : zLV Y idx Y' n Cn) (hk : zkd s0 = some (.inl ci)) (hc : vwCl[ci]? = some (Cn, T, N)) (hn : as.length = n) (hs : st0 = as.reverse ++ vr s0 i0 :: st) (hw : (st.map zcat).sum ≤ 8) (d : decode (zyC Y) pc = .ok (.invokevirtual idx, 3)) (hf : c + mc' ≤ mc ∧ k + ms' ≤ ms) (h : zCalAX l G Y' mc' ms' (vr s0 i0 :: as) M Kf KX') (kx : ∀ (X : String) (M1 : zM), KX' X M1 → KX X M1) (kk : ∀ (x : Nat) (M1 : zM), Kf x M1 → zAt l G Y (zEM G Y mc ms (K1, some KX)) (pc + 3) lv (va x :: st) M1 (c + mc') (k + ms')) : zAt l G Y (zEM G Y mc ms (K1, some KX)) pc lv st0 M c k :=
  Z_callVX hTY L hk hc hn hs hw d hf h kx (fun r M1 hr => by obtain ⟨x, rfl, hx⟩ := hr; exact kk x M1 hx)
theorem Z_callSAX {Y' : zY} {idx n mc' ms' : Nat} {as st0 : List zV} {Kf : Nat → zM → Prop} {KX' KX : String → zM → Prop} {K1 : Option zV → zM → Prop} (hTY : zyT Y = []) (L : zLS Y idx Y' n) (hn : as.length = n) (hs : st0 = as.reverse ++ st) (hw : (st.map zcat).sum ≤ 8) (d : decode (zyC Y) pc = .ok (.invokestatic idx, 3)) (hf : c + mc' ≤ mc ∧ k + ms' ≤ ms) (h : zCalAX l G Y' mc' ms' as M Kf KX') (kx : ∀ (X : String) (M1 : zM), KX' X M1 → KX X M1) (kk : ∀ (x : Nat) (M1 : zM), Kf x M1 → zAt l G Y (zEM G Y mc ms (K1, some KX)) (pc + 3) lv (va x :: st) M1 (c + mc') (k + ms')) : zAt l G Y (zEM G Y mc ms (K1, some KX)) pc lv st0 M c k :=
  Z_callSX hTY L hn hs hw d hf h kx (fun r M1 hr => by obtain ⟨x, rfl, hx⟩ := hr; exact kk x M1 hx)
theorem Z_callVRX {Y' : zY} {idx n s0 i0 ci N mc' ms' : Nat} {Cn : String} {T : u_T} {as st0 : List zV} {Kf : zI → zM → Prop} {KX' KX : String → zM → Prop} {K1 : Option zV → zM → Prop} (hTY : zyT Y = []) (L : zLV Y idx Y' n Cn) (hk : zkd s0 = some (.inl ci)) (hc : vwCl[ci]? = some (Cn, T, N)) (hn : as.length = n) (hs : st0 = as.reverse ++ vr s0 i0 :: st) (hw : (st.map zcat).sum ≤ 8) (d : decode (zyC Y) pc = .ok (.invokevirtual idx, 3)) (hf : c + mc' ≤ mc ∧ k + ms' ≤ ms) (h : zCalRX l G Y' mc' ms' (vr s0 i0 :: as) M Kf KX') (kx : ∀ (X : String) (M1 : zM), KX' X M1 → KX X M1) (kk : ∀ (x : zI) (M1 : zM), Kf x M1 → zAt l G Y (zEM G Y mc ms (K1, some KX)) (pc + 3) lv (Sum.inr x :: st) M1 (c + mc') (k + ms')) : zAt l G Y (zEM G Y mc ms (K1, some KX)) pc lv st0 M c k :=
  Z_callVX hTY L hk hc hn hs hw d hf h kx (fun r M1 hr => by obtain ⟨x, rfl, hx⟩ := hr; exact kk x M1 hx)
theorem Z_callSRX {Y' : zY} {idx n mc' ms' : Nat} {as st0 : List zV} {Kf : zI → zM → Prop} {KX' KX : String → zM → Prop} {K1 : Option zV → zM → Prop} (hTY : zyT Y = []) (L : zLS Y idx Y' n) (hn : as.length = n) (hs : st0 = as.reverse ++ st) (hw : (st.map zcat).sum ≤ 8) (d : decode (zyC Y) pc = .ok (.invokestatic idx, 3)) (hf : c + mc' ≤ mc ∧ k + ms' ≤ ms) (h : zCalRX l G Y' mc' ms' as M Kf KX') (kx : ∀ (X : String) (M1 : zM), KX' X M1 → KX X M1) (kk : ∀ (x : zI) (M1 : zM), Kf x M1 → zAt l G Y (zEM G Y mc ms (K1, some KX)) (pc + 3) lv (Sum.inr x :: st) M1 (c + mc') (k + ms')) : zAt l G Y (zEM G Y mc ms (K1, some KX)) pc lv st0 M c k :=
  Z_callSX hTY L hn hs hw d hf h kx (fun r M1 hr => by obtain ⟨x, rfl, hx⟩ := hr; exact kk x M1 hx)
theorem Z_callVVX {Y' : zY} {idx n s0 i0 ci N mc' ms' : Nat} {Cn : String} {T : u_T} {as st0 : List zV} {Kf : zM → Prop} {KX' KX : String → zM → Prop} {K1 : Option zV → zM → Prop} (hTY : zyT Y = []) (L : zLV Y idx Y' n Cn) (hk : zkd s0 = some (.inl ci)) (hc : vwCl[ci]? = some (Cn, T, N)) (hn : as.length = n) (hs : st0 = as.reverse ++ vr s0 i0 :: st) (hw : (st.map zcat).sum ≤ 8) (d : decode (zyC Y) pc = .ok (.invokevirtual idx, 3)) (hf : c + mc' ≤ mc ∧ k + ms' ≤ ms) (h : zCalVX l G Y' mc' ms' (vr s0 i0 :: as) M Kf KX') (kx : ∀ (X : String) (M1 : zM), KX' X M1 → KX X M1) (kk : ∀ (M1 : zM), Kf M1 → zAt l G Y (zEM G Y mc ms (K1, some KX)) (pc + 3) lv (st) M1 (c + mc') (k + ms')) : zAt l G Y (zEM G Y mc ms (K1, some KX)) pc lv st0 M c k :=
  Z_callVX hTY L hk hc hn hs hw d hf h kx (fun r M1 hr => by obtain ⟨rfl, hx⟩ := hr; exact kk M1 hx)
theorem Z_callSVX {Y' : zY} {idx n mc' ms' : Nat} {as st0 : List zV} {Kf : zM → Prop} {KX' KX : String → zM → Prop} {K1 : Option zV → zM → Prop} (hTY : zyT Y = []) (L : zLS Y idx Y' n) (hn : as.length = n) (hs : st0 = as.reverse ++ st) (hw : (st.map zcat).sum ≤ 8) (d : decode (zyC Y) pc = .ok (.invokestatic idx, 3)) (hf : c + mc' ≤ mc ∧ k + ms' ≤ ms) (h : zCalVX l G Y' mc' ms' as M Kf KX') (kx : ∀ (X : String) (M1 : zM), KX' X M1 → KX X M1) (kk : ∀ (M1 : zM), Kf M1 → zAt l G Y (zEM G Y mc ms (K1, some KX)) (pc + 3) lv (st) M1 (c + mc') (k + ms')) : zAt l G Y (zEM G Y mc ms (K1, some KX)) pc lv st0 M c k :=
  Z_callSX hTY L hn hs hw d hf h kx (fun r M1 hr => by obtain ⟨rfl, hx⟩ := hr; exact kk M1 hx)
end ZE
