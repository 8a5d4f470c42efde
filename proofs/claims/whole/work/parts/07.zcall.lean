/-! Z: the end of a method, a method's entry, calls -/
theorem zplain_ok {Y : zY} {args : Array Value} {s : State} (h : ∀ w ∈ zws Y, w.before args s = true) : ∀ w ∈ zAll, w.before args s = true := fun w hw => h w (List.mem_cons_of_mem _ hw)
/-- A METHOD from its entry: what holds at pc 0 gives the call -/
theorem zCal_of {l : Launch} {G : zG} {Y : zY} {mc ms : Nat} {av : List zV} {M : zM} {K : Option zV → zM → Prop} {lv : List (Nat × zV)} (hy : plainName (zyN Y).cls = true)
    (hlen : (lg_sl (av.map (tr G))).length ≤ zyL Y) (hlv : lv_args 0 (av.map (tr G)) = lv.map (trq G)) (hok : (∀ v ∈ av, zok v) → ∀ q ∈ lv, zok q.2) (h : zAt l G Y mc ms K 0 lv [] M 0 0) : zCal l G Y mc ms av M K := by
  intro hav
  refine Met.ofW (cc := zyC Y) (maxL := zyL Y) (ret := zyR Y) hy rfl ?_
  intro p e s m args below meth c s₁ B hml hv
  obtain ⟨rfl, hKn, hR⟩ := hv
  have hts := atoms_spec (ws := zws Y) B.pre
  have hl := lv_entry (av.map (tr G)) (n := zyL Y) hlen
  rw [lg_entry_eq]
  refine h p e s m _ below meth c s.heap [] _ ⟨B.exec, B.bytes, B.returns, hml, findClass_of_methodNamed B.named, zplain_ok hts, B.notSynchronized, hKn⟩ (hok hav) (fun v hv => by cases hv) hR (fun q hq => by cases hq) ?_
  rw [← hlv]
  exact hl
section ZE
variable {l : Launch} {G : zG} {Y : zY} {mc ms : Nat} {K : Option zV → zM → Prop} {pc : Nat} {lv : List (Nat × zV)} {st : List zV} {M : zM} {c k : Nat}
theorem Z_iret {x : Int32} {ty : FieldType} (hr : zyR Y = some ty) (hn : narrow ty (.int x) = .int x) (d : decode (zyC Y) pc = .ok (.ireturn, 1)) (hc : c ≤ mc) (hk : k ≤ ms) (h : K (some (vi x)) M) : zAt l G Y mc ms K pc lv [vi x] M c k := by
  intro p e s m args below meth cd H locs ls C hlv hst hR hlo hl
  refine W.widen hc hk ?_
  exact W.zret C.1 C.2.1 (C.2.2.1.trans hr) hn (fun t ht hW => ⟨some (vi x), M, rfl, fun v hv => by cases hv; trivial, h, by rw [ht]; exact hR⟩) hlo d C.2.2.2.2.2.2.1
theorem Z_lret {x : Int64} (hr : zyR Y = some .long) (d : decode (zyC Y) pc = .ok (.lreturn, 1)) (hc : c ≤ mc) (hk : k ≤ ms) (h : K (some (vl x)) M) : zAt l G Y mc ms K pc lv [vl x] M c k := by
  intro p e s m args below meth cd H locs ls C hlv hst hR hlo hl
  refine W.widen hc hk ?_
  exact W.lret C.1 C.2.1 (C.2.2.1.trans hr) (fun t ht hW => ⟨some (vl x), M, rfl, fun v hv => by cases hv; trivial, h, by rw [ht]; exact hR⟩) hlo d C.2.2.2.2.2.2.1
theorem Z_dret {x : UInt64} (hr : zyR Y = some .double) (d : decode (zyC Y) pc = .ok (.dreturn, 1)) (hc : c ≤ mc) (hk : k ≤ ms) (h : K (some (vd x)) M) : zAt l G Y mc ms K pc lv [vd x] M c k := by
  intro p e s m args below meth cd H locs ls C hlv hst hR hlo hl
  refine W.widen hc hk ?_
  exact W.dret C.1 C.2.1 (C.2.2.1.trans hr) (fun t ht hW => ⟨some (vd x), M, rfl, fun v hv => by cases hv; trivial, h, by rw [ht]; exact hR⟩) hlo d C.2.2.2.2.2.2.1
theorem Z_fret {x : UInt32} (hr : zyR Y = some .float) (d : decode (zyC Y) pc = .ok (.freturn, 1)) (hc : c ≤ mc) (hk : k ≤ ms) (h : K (some (vfl x)) M) : zAt l G Y mc ms K pc lv [vfl x] M c k := by
  intro p e s m args below meth cd H locs ls C hlv hst hR hlo hl
  refine W.widen hc hk ?_
  exact W.fret C.1 C.2.1 (C.2.2.1.trans hr) (fun t ht hW => ⟨some (vfl x), M, rfl, fun v hv => by cases hv; trivial, h, by rw [ht]; exact hR⟩) hlo d C.2.2.2.2.2.2.1
theorem Z_vret (hr : zyR Y = none) (d : decode (zyC Y) pc = .ok (.return_, 1)) (hc : c ≤ mc) (hk : k ≤ ms) (h : K none M) : zAt l G Y mc ms K pc lv [] M c k := by
  intro p e s m args below meth cd H locs ls C hlv hst hR hlo hl
  refine W.widen hc hk ?_
  exact W.vret C.1 C.2.1 (C.2.2.1.trans hr) (fun t ht hW => ⟨none, M, rfl, (fun v hv => by cases hv), h, by rw [ht]; exact hR⟩) hlo d C.2.2.2.2.2.2.1
theorem Z_aret {v : zV} {ty : FieldType} (hr : zyR Y = some ty) (hty : (∃ n, ty = .object n) ∨ ∃ t, ty = .array t) (hv : (∃ q, v = .inr q) ∨ ∃ a, v = va a) (d : decode (zyC Y) pc = .ok (.areturn, 1)) (hc : c ≤ mc) (hk : k ≤ ms) (h : K (some v) M) : zAt l G Y mc ms K pc lv [v] M c k := by
  intro p e s m args below meth cd H locs ls C hlv hst hR hlo hl
  refine W.widen hc hk ?_
  refine W.aret (v := tr G v) C.1 C.2.1 (C.2.2.1.trans hr) hty (Or.inr ?_) (fun t ht hW => ⟨some v, M, rfl, fun u hu => by cases hu; exact zkh hst, h, by rw [ht]; exact hR⟩) hlo d C.2.2.2.2.2.2.1
  rcases hv with ⟨q, rfl⟩ | ⟨a, rfl⟩
  · exact ⟨_, rfl⟩
  · exact ⟨_, rfl⟩
theorem zgood {Y' : zY} {ws : List Cond} (h : ∀ w ∈ ws, w ∈ zAll) (hc : Cond.code (zyN Y') (zyC Y') (zyL Y') (zyR Y') ∈ zAll) : GoodIn zAll (ws ++ zws Y') := by
  intro w hw
  have hm : w ∈ zAll := by
    rcases List.mem_append.mp hw with h1 | h1
    · exact h w h1
    · rcases List.mem_cons.mp h1 with h2 | h2
      · rw [h2]; exact hc
      · exact h2
  exact ⟨hm, good_of_word (List.mem_filter.mp hm).2⟩
theorem zPre_blind {G : zG} {av : List Value} {M : zM} : FrameBlind (va_Pc av (zPre G M)) := fun a U g mk q => by
  obtain ⟨q0, q1, q2⟩ := q
  exact ⟨q0, zKn.moved (u := U) (U := U.calling g mk a) (Vm.Alike.refl U.vm) q1, q2⟩
/-- what a call row has in hand of the callee's tables' words -/
def zLV (Y : zY) (idx : Nat) (Y' : zY) (n : Nat) (C : String) : Prop := Cond.methodLink (zyO Y) idx (zyN Y') ∈ zAll ∧ Cond.instanceMethod (zyN Y') ∈ zAll ∧ Cond.selects C (zyN Y') (zyN Y') ∈ zAll ∧ Cond.initialized C ∈ zAll ∧ Cond.code (zyN Y') (zyC Y') (zyL Y') (zyR Y') ∈ zAll ∧
  ((zyN Y').cls = C ∧ (zyN Y').cls ≠ "java/lang/invoke/MethodHandle" ∧ (zyN Y').cls ≠ "java/lang/invoke/VarHandle" ∧ (parseMethodDescriptor (zyN Y').desc).map (fun d => d.parameters.length) = some n) ∧ zyd Y' + 1 ≤ zyd Y ∧ 8 + (zyL Y' + 11) + 60 * zyd Y' ≤ 60 * zyd Y
def zLS (Y : zY) (idx : Nat) (Y' : zY) (n : Nat) : Prop := Cond.methodLink (zyO Y) idx (zyN Y') ∈ zAll ∧ Cond.static (zyN Y') ∈ zAll ∧ Cond.initialized (zyN Y').cls ∈ zAll ∧ Cond.code (zyN Y') (zyC Y') (zyL Y') (zyR Y') ∈ zAll ∧
  ((zyN Y').cls ≠ "java/lang/invoke/MethodHandle" ∧ (zyN Y').cls ≠ "java/lang/invoke/VarHandle" ∧ (parseMethodDescriptor (zyN Y').desc).map (fun d => d.parameters.length) = some n) ∧ zyd Y' + 1 ≤ zyd Y ∧ 8 + (zyL Y' + 11) + 60 * zyd Y' ≤ 60 * zyd Y
theorem zLV.cw {Y Y' : zY} {idx n mc ms mc' ms' : Nat} {C : String} {s : State} {args : Array Value} (h : zLV Y idx Y' n C) (hts : ∀ w ∈ zAll, w.before args s = true) :
    CallW (zRoom (zyd Y) mc ms) s args (zyO Y) C idx (zyN Y') (zyC Y') (zyL Y') (zyR Y') (zws Y') (zRoom (zyd Y') mc' ms') mc' ms' n := by
  obtain ⟨h1, h2, h3, h4, h5, h6, h7, h8⟩ := h
  refine cwV (Ts := zAll) n hts ?_ rfl rfl rfl h6 ⟨h7, h8⟩
  refine zgood (ws := [.methodLink (zyO Y) idx (zyN Y'), .instanceMethod (zyN Y'), .selects C (zyN Y') (zyN Y'), .initialized C]) (fun w hw => ?_) h5
  simp only [List.mem_cons, List.not_mem_nil, or_false] at hw
  rcases hw with rfl | rfl | rfl | rfl <;> assumption
theorem zLS.cw {Y Y' : zY} {idx n mc ms mc' ms' : Nat} {s : State} {args : Array Value} (h : zLS Y idx Y' n) (hts : ∀ w ∈ zAll, w.before args s = true) :
    CallB (zRoom (zyd Y) mc ms) s args (zyO Y) idx (zyN Y') (zyC Y') (zyL Y') (zyR Y') (zws Y') (zRoom (zyd Y') mc' ms') mc' ms' n ∧ (Cond.static (zyN Y')).before args s = true := by
  obtain ⟨h1, h2, h3, h4, h5, h6, h7⟩ := h
  refine va_cwS (Ts := zAll) n hts ?_ rfl rfl rfl h5 ⟨h6, h7⟩
  refine zgood (ws := [.methodLink (zyO Y) idx (zyN Y'), .static (zyN Y'), .initialized (zyN Y').cls]) (fun w hw => ?_) h4
  simp only [List.mem_cons, List.not_mem_nil, or_false] at hw
  rcases hw with rfl | rfl | rfl <;> assumption
theorem zcats (G : zG) (st : List zV) : ((st.map (tr G)).map fun v => v.category) = st.map zcat := by
  rw [List.map_map]
  apply List.map_congr_left
  intro v _
  exact zcat_tr G v
/-- behind a call -/
theorem zgo {p : Program} {e : Env} {s : State} {m : MethodId} {args : Array Value} {below : List Frame} {meth : Method} {cd : Code} {H : Heap} {locs : List Loc} {ls : Array Slot} {st0 : List Value} {mc' ms' : Nat} {a : Array Value} {Kf : Option zV → zM → Prop}
    (hr : va_Run p l e (zRoom (zyd Y) mc ms) s m args below meth cd H locs c k mc' ms' (F0 m pc ls st0) (st.map (tr G)) (zPost G Kf a) (zfr G)) (C : zCtx G Y p s m args meth cd) (hlv : ∀ q ∈ lv, zok q.2) (hst : ∀ v ∈ st, zok v) (hlo : ∀ q ∈ locs, zfr G q.base) (hl : lv_has ls (zyL Y) (lv.map (trq G)))
    (kk : ∀ (r : Option zV) (M1 : zM), Kf r M1 → zAt l G Y mc ms K (pc + 3) lv (r.toList ++ st) M1 (c + mc') (k + ms')) : W p l e (zRoom (zyd Y) mc ms) s m args below meth cd H locs c k (MQ below (zPost G K) args s mc ms (zfr G)) (F0 m pc ls st0) := by
  intro T hT X
  obtain ⟨v, st₀, t, T', L, h0, X', hL, e1, e2, ⟨r, M1, hv, hok, hK, hR⟩, go⟩ := hr T hT X
  have hv' : v = r.map (tr G) := Outcome.returned.inj hv
  subst hv'
  obtain ⟨t2, a1, b1⟩ := kk r M1 hK p e s m args below meth cd T'.heap (locs ++ L) ls C hlv (fun u hu => by
      rcases List.mem_append.mp hu with h1 | h1
      · exact hok u (by cases r <;> simp_all)
      · exact hst u h1) (by rw [e1]; exact hR) (fun q hq => by
      rcases List.mem_append.mp hq with h1 | h1
      · exact hlo q h1
      · exact hL q h1) hl T' rfl X'
  refine ⟨t2, go t2 ?_, b1⟩
  have e3 : (r.toList ++ st).map (tr G) = (r.map (tr G)).toList ++ st.map (tr G) := by
    cases r <;> simp
  rw [e3] at a1
  exact a1
theorem zrecv {p : Program} {s : State} {m : MethodId} {args : Array Value} {meth : Method} {cd : Code} {H : Heap} {s0 i0 ci N : Nat} {Cn : String} {T : u_T} (C : zCtx G Y p s m args meth cd) (hR : zRep G M H) (hi : i0 < zcnt s0) (hk : zkd s0 = some (.inl ci)) (hc : vwCl[ci]? = some (Cn, T, N)) : ∃ cellB : Cell, H[ga G s0 i0]? = some cellB ∧ cellB.vm.isStatics = false ∧ s.vm.findClass Cn = some cellB.cls := by
  have hh := zrow hR hi
  unfold zhold at hh
  rw [hk] at hh
  obtain ⟨r, h1, cell, q1, q2, q3, q4⟩ := hh
  exact ⟨cell, q1, by rw [q3]; rfl, by rw [q2]; exact (C.2.2.2.2.2.2.2.1 ci _ hc).2.1⟩
theorem Z_callV {Y' : zY} {idx n s0 i0 ci N mc' ms' : Nat} {Cn : String} {T : u_T} {as st0 : List zV} {Kf : Option zV → zM → Prop} (L : zLV Y idx Y' n Cn) (hk : zkd s0 = some (.inl ci)) (hc : vwCl[ci]? = some (Cn, T, N)) (hn : as.length = n) (hs : st0 = as.reverse ++ vr s0 i0 :: st) (hw : (st.map zcat).sum ≤ 8)
    (d : decode (zyC Y) pc = .ok (.invokevirtual idx, 3)) (hf : c + mc' ≤ mc ∧ k + ms' ≤ ms) (h : zCal l G Y' mc' ms' (vr s0 i0 :: as) M Kf) (kk : ∀ (r : Option zV) (M1 : zM), Kf r M1 → zAt l G Y mc ms K (pc + 3) lv (r.toList ++ st) M1 (c + mc') (k + ms')) : zAt l G Y mc ms K pc lv st0 M c k := by
  intro p e s m args below meth cd H locs ls C hlv hst hR hlo hl
  subst hs
  have hav : ∀ v ∈ vr s0 i0 :: as, zok v := fun v hv => hst v (by
    rcases List.mem_cons.mp hv with h1 | h1
    · rw [h1]; simp
    · simp [h1])
  have hi : i0 < zcnt s0 := hav (vr s0 i0) List.mem_cons_self
  refine zgo (va_runV (As := as.map (tr G)) ⟨C.1, C.2.1, C.2.2.2.1, C.2.2.2.2.1, C.2.2.2.2.2.1⟩ (h hav) (L.cw C.2.2.2.2.2.1) ⟨zPre_blind, zrecv C hR hi hk hc, fun U hU hW => ⟨rfl, zKn.moved hW.alike C.2.2.2.2.2.2.2, by rw [hU]; exact hR⟩⟩ rfl (by rw [List.length_map]; exact hn) hl.1 (by simp) (by rw [zcats]; show 2 * 0 + _ ≤ 8; omega) d hf) C hlv (fun v hv => hst v (by simp [hv])) hlo hl kk
theorem Z_callS {Y' : zY} {idx n mc' ms' : Nat} {as st0 : List zV} {Kf : Option zV → zM → Prop} (L : zLS Y idx Y' n) (hn : as.length = n) (hs : st0 = as.reverse ++ st) (hw : (st.map zcat).sum ≤ 8)
    (d : decode (zyC Y) pc = .ok (.invokestatic idx, 3)) (hf : c + mc' ≤ mc ∧ k + ms' ≤ ms) (h : zCal l G Y' mc' ms' as M Kf) (kk : ∀ (r : Option zV) (M1 : zM), Kf r M1 → zAt l G Y mc ms K (pc + 3) lv (r.toList ++ st) M1 (c + mc') (k + ms')) : zAt l G Y mc ms K pc lv st0 M c k := by
  intro p e s m args below meth cd H locs ls C hlv hst hR hlo hl
  subst hs
  have hav : ∀ v ∈ as, zok v := fun v hv => hst v (by simp [hv])
  refine zgo (va_runS (As := as.map (tr G)) ⟨C.1, C.2.1, C.2.2.2.1, C.2.2.2.2.1, C.2.2.2.2.2.1⟩ (h hav) (L.cw C.2.2.2.2.2.1) ⟨zPre_blind, fun U hU hW => ⟨rfl, zKn.moved hW.alike C.2.2.2.2.2.2.2, by rw [hU]; exact hR⟩⟩ rfl (by rw [List.length_map]; exact hn) hl.1 (by simp) (by rw [zcats]; show 2 * 0 + _ ≤ 8; omega) d hf) C hlv (fun v hv => hst v (by simp [hv])) hlo hl kk
/-! calls by what they answer -/
def zCalI (l : Launch) (G : zG) (Y : zY) (mc ms : Nat) (av : List zV) (M : zM) (K : Int32 → zM → Prop) : Prop := zCal l G Y mc ms av M (fun r M1 => ∃ x, r = some (vi x) ∧ K x M1)
def zCalL (l : Launch) (G : zG) (Y : zY) (mc ms : Nat) (av : List zV) (M : zM) (K : Int64 → zM → Prop) : Prop := zCal l G Y mc ms av M (fun r M1 => ∃ x, r = some (vl x) ∧ K x M1)
def zCalD (l : Launch) (G : zG) (Y : zY) (mc ms : Nat) (av : List zV) (M : zM) (K : UInt64 → zM → Prop) : Prop := zCal l G Y mc ms av M (fun r M1 => ∃ x, r = some (vd x) ∧ K x M1)
def zCalF (l : Launch) (G : zG) (Y : zY) (mc ms : Nat) (av : List zV) (M : zM) (K : UInt32 → zM → Prop) : Prop := zCal l G Y mc ms av M (fun r M1 => ∃ x, r = some (vfl x) ∧ K x M1)
def zCalV (l : Launch) (G : zG) (Y : zY) (mc ms : Nat) (av : List zV) (M : zM) (K : zM → Prop) : Prop := zCal l G Y mc ms av M (fun r M1 => r = none ∧ K M1)
def zCalA (l : Launch) (G : zG) (Y : zY) (mc ms : Nat) (av : List zV) (M : zM) (K : Nat → zM → Prop) : Prop := zCal l G Y mc ms av M (fun r M1 => ∃ a, r = some (va a) ∧ K a M1)
def zCalR (l : Launch) (G : zG) (Y : zY) (mc ms : Nat) (av : List zV) (M : zM) (K : zI → zM → Prop) : Prop := zCal l G Y mc ms av M (fun r M1 => ∃ q : zI, r = some (Sum.inr q) ∧ K q M1)
theorem Z_callVI {Y' : zY} {idx n s0 i0 ci N mc' ms' : Nat} {Cn : String} {T : u_T} {as st0 : List zV} {Kf : Int32 → zM → Prop} (L : zLV Y idx Y' n Cn) (hk : zkd s0 = some (.inl ci)) (hc : vwCl[ci]? = some (Cn, T, N)) (hn : as.length = n) (hs : st0 = as.reverse ++ vr s0 i0 :: st) (hw : (st.map zcat).sum ≤ 8)
    (d : decode (zyC Y) pc = .ok (.invokevirtual idx, 3)) (hf : c + mc' ≤ mc ∧ k + ms' ≤ ms) (h : zCalI l G Y' mc' ms' (vr s0 i0 :: as) M Kf) (kk : ∀ (x : Int32) (M1 : zM), Kf x M1 → zAt l G Y mc ms K (pc + 3) lv (vi x :: st) M1 (c + mc') (k + ms')) : zAt l G Y mc ms K pc lv st0 M c k :=
  Z_callV L hk hc hn hs hw d hf h (fun r M1 hr => by obtain ⟨x, rfl, hx⟩ := hr; exact kk x M1 hx)
theorem Z_callSI {Y' : zY} {idx n mc' ms' : Nat} {as st0 : List zV} {Kf : Int32 → zM → Prop} (L : zLS Y idx Y' n) (hn : as.length = n) (hs : st0 = as.reverse ++ st) (hw : (st.map zcat).sum ≤ 8)
    (d : decode (zyC Y) pc = .ok (.invokestatic idx, 3)) (hf : c + mc' ≤ mc ∧ k + ms' ≤ ms) (h : zCalI l G Y' mc' ms' as M Kf) (kk : ∀ (x : Int32) (M1 : zM), Kf x M1 → zAt l G Y mc ms K (pc + 3) lv (vi x :: st) M1 (c + mc') (k + ms')) : zAt l G Y mc ms K pc lv st0 M c k :=
  Z_callS L hn hs hw d hf h (fun r M1 hr => by obtain ⟨x, rfl, hx⟩ := hr; exact kk x M1 hx)
theorem Z_callVL {Y' : zY} {idx n s0 i0 ci N mc' ms' : Nat} {Cn : String} {T : u_T} {as st0 : List zV} {Kf : Int64 → zM → Prop} (L : zLV Y idx Y' n Cn) (hk : zkd s0 = some (.inl ci)) (hc : vwCl[ci]? = some (Cn, T, N)) (hn : as.length = n) (hs : st0 = as.reverse ++ vr s0 i0 :: st) (hw : (st.map zcat).sum ≤ 8)
    (d : decode (zyC Y) pc = .ok (.invokevirtual idx, 3)) (hf : c + mc' ≤ mc ∧ k + ms' ≤ ms) (h : zCalL l G Y' mc' ms' (vr s0 i0 :: as) M Kf) (kk : ∀ (x : Int64) (M1 : zM), Kf x M1 → zAt l G Y mc ms K (pc + 3) lv (vl x :: st) M1 (c + mc') (k + ms')) : zAt l G Y mc ms K pc lv st0 M c k :=
  Z_callV L hk hc hn hs hw d hf h (fun r M1 hr => by obtain ⟨x, rfl, hx⟩ := hr; exact kk x M1 hx)
theorem Z_callSL {Y' : zY} {idx n mc' ms' : Nat} {as st0 : List zV} {Kf : Int64 → zM → Prop} (L : zLS Y idx Y' n) (hn : as.length = n) (hs : st0 = as.reverse ++ st) (hw : (st.map zcat).sum ≤ 8)
    (d : decode (zyC Y) pc = .ok (.invokestatic idx, 3)) (hf : c + mc' ≤ mc ∧ k + ms' ≤ ms) (h : zCalL l G Y' mc' ms' as M Kf) (kk : ∀ (x : Int64) (M1 : zM), Kf x M1 → zAt l G Y mc ms K (pc + 3) lv (vl x :: st) M1 (c + mc') (k + ms')) : zAt l G Y mc ms K pc lv st0 M c k :=
  Z_callS L hn hs hw d hf h (fun r M1 hr => by obtain ⟨x, rfl, hx⟩ := hr; exact kk x M1 hx)
theorem Z_callVD {Y' : zY} {idx n s0 i0 ci N mc' ms' : Nat} {Cn : String} {T : u_T} {as st0 : List zV} {Kf : UInt64 → zM → Prop} (L : zLV Y idx Y' n Cn) (hk : zkd s0 = some (.inl ci)) (hc : vwCl[ci]? = some (Cn, T, N)) (hn : as.length = n) (hs : st0 = as.reverse ++ vr s0 i0 :: st) (hw : (st.map zcat).sum ≤ 8)
    (d : decode (zyC Y) pc = .ok (.invokevirtual idx, 3)) (hf : c + mc' ≤ mc ∧ k + ms' ≤ ms) (h : zCalD l G Y' mc' ms' (vr s0 i0 :: as) M Kf) (kk : ∀ (x : UInt64) (M1 : zM), Kf x M1 → zAt l G Y mc ms K (pc + 3) lv (vd x :: st) M1 (c + mc') (k + ms')) : zAt l G Y mc ms K pc lv st0 M c k :=
  Z_callV L hk hc hn hs hw d hf h (fun r M1 hr => by obtain ⟨x, rfl, hx⟩ := hr; exact kk x M1 hx)
theorem Z_callSD {Y' : zY} {idx n mc' ms' : Nat} {as st0 : List zV} {Kf : UInt64 → zM → Prop} (L : zLS Y idx Y' n) (hn : as.length = n) (hs : st0 = as.reverse ++ st) (hw : (st.map zcat).sum ≤ 8)
    (d : decode (zyC Y) pc = .ok (.invokestatic idx, 3)) (hf : c + mc' ≤ mc ∧ k + ms' ≤ ms) (h : zCalD l G Y' mc' ms' as M Kf) (kk : ∀ (x : UInt64) (M1 : zM), Kf x M1 → zAt l G Y mc ms K (pc + 3) lv (vd x :: st) M1 (c + mc') (k + ms')) : zAt l G Y mc ms K pc lv st0 M c k :=
  Z_callS L hn hs hw d hf h (fun r M1 hr => by obtain ⟨x, rfl, hx⟩ := hr; exact kk x M1 hx)
theorem Z_callVF {Y' : zY} {idx n s0 i0 ci N mc' ms' : Nat} {Cn : String} {T : u_T} {as st0 : List zV} {Kf : UInt32 → zM → Prop} (L : zLV Y idx Y' n Cn) (hk : zkd s0 = some (.inl ci)) (hc : vwCl[ci]? = some (Cn, T, N)) (hn : as.length = n) (hs : st0 = as.reverse ++ vr s0 i0 :: st) (hw : (st.map zcat).sum ≤ 8)
    (d : decode (zyC Y) pc = .ok (.invokevirtual idx, 3)) (hf : c + mc' ≤ mc ∧ k + ms' ≤ ms) (h : zCalF l G Y' mc' ms' (vr s0 i0 :: as) M Kf) (kk : ∀ (x : UInt32) (M1 : zM), Kf x M1 → zAt l G Y mc ms K (pc + 3) lv (vfl x :: st) M1 (c + mc') (k + ms')) : zAt l G Y mc ms K pc lv st0 M c k :=
  Z_callV L hk hc hn hs hw d hf h (fun r M1 hr => by obtain ⟨x, rfl, hx⟩ := hr; exact kk x M1 hx)
theorem Z_callSF {Y' : zY} {idx n mc' ms' : Nat} {as st0 : List zV} {Kf : UInt32 → zM → Prop} (L : zLS Y idx Y' n) (hn : as.length = n) (hs : st0 = as.reverse ++ st) (hw : (st.map zcat).sum ≤ 8)
    (d : decode (zyC Y) pc = .ok (.invokestatic idx, 3)) (hf : c + mc' ≤ mc ∧ k + ms' ≤ ms) (h : zCalF l G Y' mc' ms' as M Kf) (kk : ∀ (x : UInt32) (M1 : zM), Kf x M1 → zAt l G Y mc ms K (pc + 3) lv (vfl x :: st) M1 (c + mc') (k + ms')) : zAt l G Y mc ms K pc lv st0 M c k :=
  Z_callS L hn hs hw d hf h (fun r M1 hr => by obtain ⟨x, rfl, hx⟩ := hr; exact kk x M1 hx)
theorem Z_callVA {Y' : zY} {idx n s0 i0 ci N mc' ms' : Nat} {Cn : String} {T : u_T} {as st0 : List zV} {Kf : Nat → zM → Prop} (L : zLV Y idx Y' n Cn) (hk : zkd s0 = some (.inl ci)) (hc : vwCl[ci]? = some (Cn, T, N)) (hn : as.length = n) (hs : st0 = as.reverse ++ vr s0 i0 :: st) (hw : (st.map zcat).sum ≤ 8)
    (d : decode (zyC Y) pc = .ok (.invokevirtual idx, 3)) (hf : c + mc' ≤ mc ∧ k + ms' ≤ ms) (h : zCalA l G Y' mc' ms' (vr s0 i0 :: as) M Kf) (kk : ∀ (x : Nat) (M1 : zM), Kf x M1 → zAt l G Y mc ms K (pc + 3) lv (va x :: st) M1 (c + mc') (k + ms')) : zAt l G Y mc ms K pc lv st0 M c k :=
  Z_callV L hk hc hn hs hw d hf h (fun r M1 hr => by obtain ⟨x, rfl, hx⟩ := hr; exact kk x M1 hx)
theorem Z_callSA {Y' : zY} {idx n mc' ms' : Nat} {as st0 : List zV} {Kf : Nat → zM → Prop} (L : zLS Y idx Y' n) (hn : as.length = n) (hs : st0 = as.reverse ++ st) (hw : (st.map zcat).sum ≤ 8)
    (d : decode (zyC Y) pc = .ok (.invokestatic idx, 3)) (hf : c + mc' ≤ mc ∧ k + ms' ≤ ms) (h : zCalA l G Y' mc' ms' as M Kf) (kk : ∀ (x : Nat) (M1 : zM), Kf x M1 → zAt l G Y mc ms K (pc + 3) lv (va x :: st) M1 (c + mc') (k + ms')) : zAt l G Y mc ms K pc lv st0 M c k :=
  Z_callS L hn hs hw d hf h (fun r M1 hr => by obtain ⟨x, rfl, hx⟩ := hr; exact kk x M1 hx)
theorem Z_callVV {Y' : zY} {idx n s0 i0 ci N mc' ms' : Nat} {Cn : String} {T : u_T} {as st0 : List zV} {Kf : zM → Prop} (L : zLV Y idx Y' n Cn) (hk : zkd s0 = some (.inl ci)) (hc : vwCl[ci]? = some (Cn, T, N)) (hn : as.length = n) (hs : st0 = as.reverse ++ vr s0 i0 :: st) (hw : (st.map zcat).sum ≤ 8)
    (d : decode (zyC Y) pc = .ok (.invokevirtual idx, 3)) (hf : c + mc' ≤ mc ∧ k + ms' ≤ ms) (h : zCalV l G Y' mc' ms' (vr s0 i0 :: as) M Kf) (kk : ∀  (M1 : zM), Kf  M1 → zAt l G Y mc ms K (pc + 3) lv (st) M1 (c + mc') (k + ms')) : zAt l G Y mc ms K pc lv st0 M c k :=
  Z_callV L hk hc hn hs hw d hf h (fun r M1 hr => by obtain ⟨rfl, hx⟩ := hr; exact kk M1 hx)
theorem Z_callSV {Y' : zY} {idx n mc' ms' : Nat} {as st0 : List zV} {Kf : zM → Prop} (L : zLS Y idx Y' n) (hn : as.length = n) (hs : st0 = as.reverse ++ st) (hw : (st.map zcat).sum ≤ 8)
    (d : decode (zyC Y) pc = .ok (.invokestatic idx, 3)) (hf : c + mc' ≤ mc ∧ k + ms' ≤ ms) (h : zCalV l G Y' mc' ms' as M Kf) (kk : ∀  (M1 : zM), Kf  M1 → zAt l G Y mc ms K (pc + 3) lv (st) M1 (c + mc') (k + ms')) : zAt l G Y mc ms K pc lv st0 M c k :=
  Z_callS L hn hs hw d hf h (fun r M1 hr => by obtain ⟨rfl, hx⟩ := hr; exact kk M1 hx)
theorem zCal.mono {Y : zY} {mc ms : Nat} {av : List zV} {M : zM} {K K' : Option zV → zM → Prop} (h : zCal l G Y mc ms av M K) (hk : ∀ r M1, K r M1 → K' r M1) : zCal l G Y mc ms av M K' := by
  intro hav p e a1 a2 a3 s m args below a4 a5 a6 a7
  obtain ⟨n, o, b1, b2, b3, ⟨r, M1, c1, c2, c3, c4⟩, b5⟩ := h hav p e a1 a2 a3 s m args below a4 a5 a6 a7
  exact ⟨n, o, b1, b2, b3, ⟨r, M1, c1, c2, hk r M1 c3, c4⟩, b5⟩
end ZE
