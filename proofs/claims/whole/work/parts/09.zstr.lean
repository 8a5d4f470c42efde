/-! Z: calls of a text's and the builder's own methods -/
section ZT
variable {l : Launch} {G : zG} {Y : zY} {E : zE} {pc : Nat} {lv : List (Nat × zV)} {st : List zV} {M : zM} {c k : Nat}
theorem zrecvT {p : Program} {s : State} {m : MethodId} {args : Array Value} {meth : Method} {cd : Code} {H : Heap} {a : Nat} {t : List Nat} (C : zCtx G Y p s m args meth cd) (hR : zRep G M H) (ht : zmT M a = some t) : ∃ cellB : Cell, H[a]? = some cellB ∧ cellB.vm.isStatics = false ∧ s.vm.findClass RJ0 = some cellB.cls := by
  obtain ⟨v, -, h2, -⟩ := hR.2.2.2.2.1
  obtain ⟨v2, ⟨⟨cell, q1, q2, q3, q4, -⟩, -⟩, -⟩ := h2 a t ht
  exact ⟨cell, q1, q3, by rw [q4]; exact ((zctK C).1 0 _ rfl).2.1⟩
theorem zrecvB {p : Program} {s : State} {m : MethodId} {args : Array Value} {meth : Method} {cd : Code} {H : Heap} (C : zCtx G Y p s m args meth cd) (hR : zRep G M H) : ∃ cellB : Cell, H[ga G 14 0]? = some cellB ∧ cellB.vm.isStatics = false ∧ s.vm.findClass RJ4 = some cellB.cls := by
  obtain ⟨v, ⟨ml, f, ⟨cell, q1, q2, q3, -⟩, -⟩, -⟩ := hR.2.2.2.2.1
  exact ⟨cell, q1, by rw [q3]; rfl, by rw [q2]; exact ((zctK C).1 1 _ rfl).2.1⟩
theorem Z_callT {a0 : Nat} {Y' : zY} {idx n mc' ms' : Nat} {as st0 : List zV} {Kf : Option zV → zM → Prop} (hE : zRm Y E.1) (L : zLV Y idx Y' n RJ0) (hT : ∃ t, zmT M a0 = some t) (hn : as.length = n) (hs : st0 = as.reverse ++ va a0 :: st) (hw : (st.map zcat).sum ≤ 8) (d : decode (zyC Y) pc = .ok (.invokevirtual idx, 3)) (hf : c + mc' ≤ E.1.cells ∧ k + ms' ≤ E.1.slots) (h : zCal l G Y' mc' ms' (va a0 :: as) M (Kf, none)) (kk : ∀ (r : Option zV) (M1 : zM), Kf r M1 → zAt l G Y E (pc + 3) lv (r.toList ++ st) M1 (c + mc') (k + ms')) : zAt l G Y E pc lv st0 M c k := by
  intro p e s m args below meth cd H locs ls C hlv hst hR hlo hl
  subst hs
  obtain ⟨t, ht⟩ := hT
  have hav : ∀ v ∈ va a0 :: as, zok v := fun v hv => hst v (by
    rcases List.mem_cons.mp hv with h1 | h1
    · rw [h1]; simp
    · simp [h1])
  refine zgo (mc' := mc') (ms' := ms') (va_runV (As := as.map (tr G)) ⟨C.1, C.2.1, C.2.2.2.1, C.2.2.2.2.1, C.2.2.2.2.2.1⟩ (h hav) (L.cwR hE C.2.2.2.2.2.1) ⟨zPre_blind, zrecvT C hR ht, fun U hU hW => ⟨rfl, zPre_at C hR hU hW⟩⟩ rfl (by rw [List.length_map]; exact hn) hl.1 (by simp) (by rw [zcats]; show 2 * 0 + _ ≤ 8; omega) d hf) C hlv (fun v hv => hst v (by simp [hv])) hlo hl kk
theorem Z_callTI {a0 : Nat} {Y' : zY} {idx n mc' ms' : Nat} {as st0 : List zV} {Kf : Int32 → zM → Prop} (hE : zRm Y E.1) (L : zLV Y idx Y' n RJ0) (hT : ∃ t, zmT M a0 = some t) (hn : as.length = n) (hs : st0 = as.reverse ++ va a0 :: st) (hw : (st.map zcat).sum ≤ 8) (d : decode (zyC Y) pc = .ok (.invokevirtual idx, 3)) (hf : c + mc' ≤ E.1.cells ∧ k + ms' ≤ E.1.slots) (h : zCalI l G Y' mc' ms' (va a0 :: as) M Kf) (kk : ∀ (x : Int32) (M1 : zM), Kf x M1 → zAt l G Y E (pc + 3) lv (vi x :: st) M1 (c + mc') (k + ms')) : zAt l G Y E pc lv st0 M c k :=
  Z_callT hE L hT hn hs hw d hf h (fun r M1 hr => by obtain ⟨x, rfl, hx⟩ := hr; exact kk x M1 hx)
theorem Z_callTV {a0 : Nat} {Y' : zY} {idx n mc' ms' : Nat} {as st0 : List zV} {Kf : zM → Prop} (hE : zRm Y E.1) (L : zLV Y idx Y' n RJ0) (hT : ∃ t, zmT M a0 = some t) (hn : as.length = n) (hs : st0 = as.reverse ++ va a0 :: st) (hw : (st.map zcat).sum ≤ 8) (d : decode (zyC Y) pc = .ok (.invokevirtual idx, 3)) (hf : c + mc' ≤ E.1.cells ∧ k + ms' ≤ E.1.slots) (h : zCalV l G Y' mc' ms' (va a0 :: as) M Kf) (kk : ∀ (M1 : zM), Kf M1 → zAt l G Y E (pc + 3) lv (st) M1 (c + mc') (k + ms')) : zAt l G Y E pc lv st0 M c k :=
  Z_callT hE L hT hn hs hw d hf h (fun r M1 hr => by obtain ⟨rfl, hx⟩ := hr; exact kk M1 hx)
theorem Z_callTR {a0 : Nat} {Y' : zY} {idx n mc' ms' : Nat} {as st0 : List zV} {Kf : zI → zM → Prop} (hE : zRm Y E.1) (L : zLV Y idx Y' n RJ0) (hT : ∃ t, zmT M a0 = some t) (hn : as.length = n) (hs : st0 = as.reverse ++ va a0 :: st) (hw : (st.map zcat).sum ≤ 8) (d : decode (zyC Y) pc = .ok (.invokevirtual idx, 3)) (hf : c + mc' ≤ E.1.cells ∧ k + ms' ≤ E.1.slots) (h : zCalR l G Y' mc' ms' (va a0 :: as) M Kf) (kk : ∀ (x : zI) (M1 : zM), Kf x M1 → zAt l G Y E (pc + 3) lv (Sum.inr x :: st) M1 (c + mc') (k + ms')) : zAt l G Y E pc lv st0 M c k :=
  Z_callT hE L hT hn hs hw d hf h (fun r M1 hr => by obtain ⟨x, rfl, hx⟩ := hr; exact kk x M1 hx)
theorem Z_callB {Y' : zY} {idx n mc' ms' : Nat} {as st0 : List zV} {Kf : Option zV → zM → Prop} (hE : zRm Y E.1) (L : zLV Y idx Y' n RJ4) (hn : as.length = n) (hs : st0 = as.reverse ++ vr 14 0 :: st) (hw : (st.map zcat).sum ≤ 8) (d : decode (zyC Y) pc = .ok (.invokevirtual idx, 3)) (hf : c + mc' ≤ E.1.cells ∧ k + ms' ≤ E.1.slots) (h : zCal l G Y' mc' ms' (vr 14 0 :: as) M (Kf, none)) (kk : ∀ (r : Option zV) (M1 : zM), Kf r M1 → zAt l G Y E (pc + 3) lv (r.toList ++ st) M1 (c + mc') (k + ms')) : zAt l G Y E pc lv st0 M c k := by
  intro p e s m args below meth cd H locs ls C hlv hst hR hlo hl
  subst hs
  have hav : ∀ v ∈ vr 14 0 :: as, zok v := fun v hv => hst v (by
    rcases List.mem_cons.mp hv with h1 | h1
    · rw [h1]; simp
    · simp [h1])
  refine zgo (mc' := mc') (ms' := ms') (va_runV (As := as.map (tr G)) ⟨C.1, C.2.1, C.2.2.2.1, C.2.2.2.2.1, C.2.2.2.2.2.1⟩ (h hav) (L.cwR hE C.2.2.2.2.2.1) ⟨zPre_blind, zrecvB C hR, fun U hU hW => ⟨rfl, zPre_at C hR hU hW⟩⟩ rfl (by rw [List.length_map]; exact hn) hl.1 (by simp) (by rw [zcats]; show 2 * 0 + _ ≤ 8; omega) d hf) C hlv (fun v hv => hst v (by simp [hv])) hlo hl kk
theorem Z_callBI {Y' : zY} {idx n mc' ms' : Nat} {as st0 : List zV} {Kf : Int32 → zM → Prop} (hE : zRm Y E.1) (L : zLV Y idx Y' n RJ4) (hn : as.length = n) (hs : st0 = as.reverse ++ vr 14 0 :: st) (hw : (st.map zcat).sum ≤ 8) (d : decode (zyC Y) pc = .ok (.invokevirtual idx, 3)) (hf : c + mc' ≤ E.1.cells ∧ k + ms' ≤ E.1.slots) (h : zCalI l G Y' mc' ms' (vr 14 0 :: as) M Kf) (kk : ∀ (x : Int32) (M1 : zM), Kf x M1 → zAt l G Y E (pc + 3) lv (vi x :: st) M1 (c + mc') (k + ms')) : zAt l G Y E pc lv st0 M c k :=
  Z_callB hE L hn hs hw d hf h (fun r M1 hr => by obtain ⟨x, rfl, hx⟩ := hr; exact kk x M1 hx)
theorem Z_callBV {Y' : zY} {idx n mc' ms' : Nat} {as st0 : List zV} {Kf : zM → Prop} (hE : zRm Y E.1) (L : zLV Y idx Y' n RJ4) (hn : as.length = n) (hs : st0 = as.reverse ++ vr 14 0 :: st) (hw : (st.map zcat).sum ≤ 8) (d : decode (zyC Y) pc = .ok (.invokevirtual idx, 3)) (hf : c + mc' ≤ E.1.cells ∧ k + ms' ≤ E.1.slots) (h : zCalV l G Y' mc' ms' (vr 14 0 :: as) M Kf) (kk : ∀ (M1 : zM), Kf M1 → zAt l G Y E (pc + 3) lv (st) M1 (c + mc') (k + ms')) : zAt l G Y E pc lv st0 M c k :=
  Z_callB hE L hn hs hw d hf h (fun r M1 hr => by obtain ⟨rfl, hx⟩ := hr; exact kk M1 hx)
theorem Z_callBR {Y' : zY} {idx n mc' ms' : Nat} {as st0 : List zV} {Kf : zI → zM → Prop} (hE : zRm Y E.1) (L : zLV Y idx Y' n RJ4) (hn : as.length = n) (hs : st0 = as.reverse ++ vr 14 0 :: st) (hw : (st.map zcat).sum ≤ 8) (d : decode (zyC Y) pc = .ok (.invokevirtual idx, 3)) (hf : c + mc' ≤ E.1.cells ∧ k + ms' ≤ E.1.slots) (h : zCalR l G Y' mc' ms' (vr 14 0 :: as) M Kf) (kk : ∀ (x : zI) (M1 : zM), Kf x M1 → zAt l G Y E (pc + 3) lv (Sum.inr x :: st) M1 (c + mc') (k + ms')) : zAt l G Y E pc lv st0 M c k :=
  Z_callB hE L hn hs hw d hf h (fun r M1 hr => by obtain ⟨x, rfl, hx⟩ := hr; exact kk x M1 hx)
end ZT
/-! Z: a throw -/
theorem zkeptQ {H H1 : Heap} (hq : ∀ q : Nat, q < H.size → H1[q]? = H[q]?) {a : Nat} {x : Cell} (h : H[a]? = some x) : H1[a]? = some x := (hq a (Array.getElem?_eq_some_iff.mp h).1).trans h
/-- new cells behind the old ones change nothing -/
theorem zRep.grow {G : zG} {M : zM} {H H1 : Heap} (hR : zRep G M H) (hz : H.size ≤ H1.size) (hq : ∀ q : Nat, q < H.size → H1[q]? = H[q]?) : zRep G M H1 := by
  obtain ⟨hG, r1, r2, r3, ⟨v, ⟨ml, f, ⟨cl, b1, b1'⟩, b2, b3⟩, r5, r6, r7⟩, r8⟩ := hR
  refine ⟨hG, fun q h => (hq q (Nat.lt_of_lt_of_le h r2)).trans (r1 q h), Nat.le_trans r2 hz, fun s i h => ?_, ⟨v, ⟨ml, f, ⟨cl, zkeptQ hq b1, b1'⟩, zkeptQ hq b2, b3⟩, ?_, ?_, r7⟩, r8⟩
  · have h0 := r3 s i h
    unfold zhold at h0 ⊢
    split
    · next hk =>
      rw [hk] at h0
      exact fun q => Nat.lt_of_lt_of_le (h0 q) hz
    · next ci hk =>
      rw [hk] at h0
      obtain ⟨r, h1, cell, h2, h3⟩ := h0
      exact ⟨r, h1, cell, zkeptQ hq h2, h3⟩
    · next t n hk =>
      rw [hk] at h0
      exact zkeptQ hq h0
  · intro a t ht
    obtain ⟨v2, ⟨⟨c1, d1, d1'⟩, ⟨c2, d2, d2'⟩, d3⟩, f1⟩ := r5 a t ht
    exact ⟨v2, ⟨⟨c1, zkeptQ hq d1, d1'⟩, ⟨c2, zkeptQ hq d2, d2'⟩, d3⟩, f1⟩
  · intro q n g hc
    obtain ⟨d1, d2⟩ := r6 q n g hc
    exact ⟨zkeptQ hq d1, d2⟩
theorem Z_throwW {l : Launch} {G : zG} {Y : zY} {mc ms : Nat} {K1 : Option zV → zM → Prop} {KX : String → zM → Prop} {pc : Nat} {lv : List (Nat × zV)} {st : List zV} {M : zM} {c k : Nat} {cls text : String} {names : List String} {ik is ic : Nat} (hl : l.stackTraces = false) (hTY : zyT Y = [])
    (hcls : Bundle.fit cls = true) (hnames : ∀ n ∈ names, Bundle.fit n = true) (hk : Cond.classLink (zyO Y) ik cls ∈ zAll) (hini : Cond.initialized cls ∈ zAll) (hstr : (zyO Y, is, text) ∈ zLits) (hat : ∀ w ∈ vx_atS (zyO Y) ic cls names, w ∈ zAll ∨ w ∈ zFace)
    (d0 : decode (zyC Y) pc = .ok (.new ik, 3)) (d3 : decode (zyC Y) (pc + 3) = .ok (.dup, 1)) (d4 : decode (zyC Y) (pc + 4) = .ok (.ldc_w is, 3)) (d7 : decode (zyC Y) (pc + 7) = .ok (.invokespecial ic, 3)) (d10 : decode (zyC Y) (pc + 10) = .ok (.athrow, 1))
    (hfr : names.length + 3 < zyd Y) (hlo2 : (st.map zcat).sum + (13 * (names.length + 1) + 43) ≤ 60 * zyd Y) (hc : c + 1 ≤ mc) (hs : k + 6 ≤ ms) (h : KX cls M) : zAt l G Y (zEM G Y mc ms (K1, some KX)) pc lv st M c k := by
  intro p e s m args below meth cd H locs ls C hlv hst hR hlo hls
  have hts := C.2.2.2.2.2.1
  obtain ⟨g1, g2, g3⟩ := C.2.2.2.2.2.2.2.2.1
  intro T hT X
  have hgrow : s.heap.size ≤ H.size := by rw [← hT]; exact (vx_frame X.same).1
  have hgood : ∀ w ∈ zAll, vx_ot w = true := fun w hw => by
    unfold vx_ot
    rw [(List.mem_filter.mp hw).2]
    simp
  refine vx_throwSW (A := fun q => gz G ≤ q) (Qc := zPost G K1) (XC := zPostX G KX) (free := zfr G) (mc := mc) (ms := ms) (rest := st.map (tr G)) C.1 C.2.1 hl C.2.2.2.2.1 hcls hnames (hts _ hk) (hts _ hini) (C.2.2.2.2.2.2.2.1.2.1 _ hstr) (fun w hw => (hat w hw).elim (hts w) (fun h9 => g1.2.2 w h9 _)) (fun w hw => ?_) g1.1 g1.2.1
    ⟨hgrow, fun q h1 h2 => by rw [hR.2.1 q (Nat.not_le.mp h2), g2 q (Nat.not_le.mp h2)], fun q hq => (hlo q hq).1⟩ (hls.1.trans C.2.2.2.1.symm) d0 d3 d4 d7 d10 (fun x hx => by rw [C.2.2.2.2.2.2.2.2.2, hTY] at hx; cases hx) hfr (by rw [zcats]; exact hlo2) hc hs C.2.2.2.2.2.2.1
    (fun t _ h1 h2 => ⟨M, h, hR.grow h1 h2⟩) hlo hc hs T hT X
  rcases List.mem_cons.mp hw with h1 | h1
  · rw [h1]; exact hgood _ hk
  · rcases List.mem_cons.mp h1 with h2 | h2
    · rw [h2]; exact hgood _ hini
    · exact (hat w h2).elim (hgood w) (fun h9 => by unfold vx_ot; rw [(zFace_ok w h9).2]; rfl)
