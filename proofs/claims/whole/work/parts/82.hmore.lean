/-! H: more rows -/
section HM
variable {l : Launch} {G : zG} {Y : zY} {E : zE} {pc : Nat} {lv : List (Nat × Value)} {st : List Value} {H : Heap} {c k : Nat}
theorem H_getV {idx a ci j : Nat} {fs : List Value} {v : Value} (F : hFL (zyO Y) idx ci j) (hv : hO G H a ci (vp_V fs)) (hj : fs[j]? = some v) (d : decode (zyC Y) pc = .ok (.getfield idx, 3)) (h : hAt l G Y E (pc + 3) lv (v :: st) H c k) : hAt l G Y E pc lv (.ref a :: st) H c k := by
  refine H_getO F hv d ?_
  rw [show vp_V fs j = v by unfold vp_V; rw [List.getD_eq_getElem?_getD, hj]; rfl]
  exact h
theorem H_putV {idx a ci j : Nat} {fin : Bool} {ty : FieldType} {v : Value} {fs fs2 : List Value} (F : hFP (zyO Y) idx ci j fin ty) (hf : fin = true → (zyN Y).name = "<init>") (hv : hO G H a ci (vp_V fs)) (hs : fs.set j v = fs2) (hj : j < fs.length) (hn : narrow ty v = v) (hfit : fits ty v = true) (ha : zfr G a) (d : decode (zyC Y) pc = .ok (.putfield idx, 3))
    (h : ∀ H1 : Heap, H1.size = H.size → (∀ q, q ≠ a → H1[q]? = H[q]?) → hO G H1 a ci (vp_V fs2) → hAt l G Y E (pc + 3) lv st H1 c k) : hAt l G Y E pc lv (v :: .ref a :: st) H c k := by
  refine H_put F hf hv hn hfit ha d fun H1 z o h1 => h H1 z o (h1.to fun q => ?_)
  rw [vp_updV_set hj, hs]
theorem H_null (d : decode (zyC Y) pc = .ok (.aconst_null, 1)) (h : hAt l G Y E (pc + 1) lv (.null :: st) H c k) : hAt l G Y E pc lv st H c k := by
  intro p e s m args below meth cd locs ls C hN hR hlo hl
  exact lv_null C.1 C.2.1 d (h p e s m args below meth cd locs ls C hN hR hlo hl)
theorem H_ifnonnull {a : Nat} {off : Int} {tgt : Nat} (d : decode (zyC Y) pc = .ok (.ifnonnull off, 3)) (ht : (pc : Int) + off = (tgt : Int)) (h : hAt l G Y E tgt lv st H c k) : hAt l G Y E pc lv (.ref a :: st) H c k := by
  intro p e s m args below meth cd locs ls C hN hR hlo hl
  exact lv_ifnonnull C.1 C.2.1 d ht (h p e s m args below meth cd locs ls C hN hR hlo hl)
theorem H_ldcS {idx : Nat} {tx : String} (hq : (zyO Y, idx, tx) ∈ zLits) (d : decode (zyC Y) pc = .ok (.ldc idx, 2)) (h : hAt l G Y E (pc + 2) lv (.ref (gl G (zyO Y) idx) :: st) H c k) : hAt l G Y E pc lv st H c k := by
  intro p e s m args below meth cd locs ls C hN hR hlo hl
  exact va_ldcS C.1 C.2.1 C.2.2.2.2.1 (C.2.2.2.2.2.2.2.1.2.1 _ hq) d (h p e s m args below meth cd locs ls C hN hR hlo hl)
theorem H_mmax {idx : Nat} {x y : Int32} (w1 : Cond.methodLink (zyO Y) idx Lib.Math.max.name ∈ zAll) (w2 : Cond.static Lib.Math.max.name ∈ zAll) (w3 : Cond.initialized "java/lang/Math" ∈ zAll) (w4 : Cond.code Lib.Math.max.name Lib.Math.max.code 2 (some .int) ∈ zAll) (hE : zRm Y E.1) (hd : 1 ≤ zyd Y) (hw : (st.map fun v => v.category).sum + 13 ≤ 60 * zyd Y) (hc : c ≤ E.1.cells) (hk : k ≤ E.1.slots)
    (d : decode (zyC Y) pc = .ok (.invokestatic idx, 3)) (h : hAt l G Y E (pc + 3) lv (.int (if x < y then y else x) :: st) H c k) : hAt l G Y E pc lv (.int y :: .int x :: st) H c k := by
  intro p e s m args below meth cd locs ls C hN hR hlo hl
  have hts := C.2.2.2.2.2.1
  exact va_mmax C.1 C.2.1 (C.2.2.2.1.trans hl.1.symm) C.2.2.2.2.1 (hts _ w1) (hts _ w2) (hts _ w3) (hts _ w4) (Nat.le_trans hd hE.1) (Nat.le_trans hw hE.2) hc hk d (h p e s m args below meth cd locs ls C hN hR hlo hl)
theorem H_mmin {idx : Nat} {x y : Int32} (w1 : Cond.methodLink (zyO Y) idx Lib.Math.min.name ∈ zAll) (w2 : Cond.static Lib.Math.min.name ∈ zAll) (w3 : Cond.initialized "java/lang/Math" ∈ zAll) (w4 : Cond.code Lib.Math.min.name Lib.Math.min.code 2 (some .int) ∈ zAll) (hE : zRm Y E.1) (hd : 1 ≤ zyd Y) (hw : (st.map fun v => v.category).sum + 13 ≤ 60 * zyd Y) (hc : c ≤ E.1.cells) (hk : k ≤ E.1.slots)
    (d : decode (zyC Y) pc = .ok (.invokestatic idx, 3)) (h : hAt l G Y E (pc + 3) lv (.int (if y < x then y else x) :: st) H c k) : hAt l G Y E pc lv (.int y :: .int x :: st) H c k := by
  intro p e s m args below meth cd locs ls C hN hR hlo hl
  have hts := C.2.2.2.2.2.1
  exact va_mmin C.1 C.2.1 (C.2.2.2.1.trans hl.1.symm) C.2.2.2.2.1 (hts _ w1) (hts _ w2) (hts _ w3) (hts _ w4) (Nat.le_trans hd hE.1) (Nat.le_trans hw hE.2) hc hk d (h p e s m args below meth cd locs ls C hN hR hlo hl)
/-- bytes of a row into an array of ours -/
theorem H_copyB {idx s0 s1 n0 n1 : Nat} {f g : Nat → Int32} {sp dp n : Int32} (w1 : Cond.methodLink (zyO Y) idx arraycopyName ∈ zAll) (w2 : Cond.native arraycopyName ∈ zAll) (w3 : Cond.static arraycopyName ∈ zAll) (w4 : Cond.initialized "java/lang/System" ∈ zAll) (hs0 : hB G H s0 n0 f) (hs1 : hA G H s1 4 n1 (.inl g)) (h1 : zfr G s1) (hf : ∀ j, j < n0 → fits .byte (.int (f j)) = true) (hb : zcp sp dp n n0 n1) (hE : zRm Y E.1) (hd : 1 ≤ zyd Y) (hw : (st.map fun v => v.category).sum + (nativeFrameWords "java/lang/System" "arraycopy" 5 + 11) ≤ 60 * zyd Y)
    (d : decode (zyC Y) pc = .ok (.invokestatic idx, 3)) (h : ∀ H1 : Heap, H1.size = H.size → (∀ q, q ≠ s1 → H1[q]? = H[q]?) → hA G H1 s1 4 n1 (.inl (va_cpy f g sp.toNatClampNeg dp.toNatClampNeg n.toNatClampNeg)) → hAt l G Y E (pc + 3) lv st H1 c k) : hAt l G Y E pc lv (.int n :: .int dp :: .ref s1 :: .int sp :: .ref s0 :: st) H c k := by
  intro p e s m args below meth cd locs ls C hN hR hlo hl
  obtain ⟨b1, b2, b3, b4, b5⟩ := hb
  have hts := C.2.2.2.2.2.1
  obtain ⟨cs, q1, q2, q3, q4, q5, q6⟩ := hs0
  obtain ⟨k0, comp0, hk0, hkk0⟩ := C.2.2.2.2.2.2.2.1.2.2.1 _ q4
  intro T hT X
  obtain ⟨-, k1, hk1, cm1, hkk1⟩ := (zarrT C (t := 4) (by decide)) n1 (fun j => .int (g j))
  obtain ⟨vm', X', step⟩ := X.arraycopy C.1 C.2.2.2.2.1 (hts _ w1) (hts _ w2) (hts _ w3) (hts _ w4) (src := s0) (dst := s1) (cs := cs) (cd := vp_cell (gA G 4) (n1, .inl g)) (srcPos := sp) (destPos := dp) (n := n) (by rw [hT]; exact q1) (by rw [hT]; exact hs1)
    (fun _ h => by rw [h] at q3; cases q3) (fun _ h => by cases h) q2 (fun h => by cases h) hk0 hk1 hkk0 hkk1 (by simp [zty, refKind]) b1 b2 b3
    (by rw [znn b1, znn b3, q5]; omega)
    (by rw [znn b2, znn b3]; show ¬ _ > ((arrV (gA G 4) n1 (fun j => .int (g j))).slots.size : Int); rw [arrV_size]; omega)
    (fun vm₁ _ i hi => by
      have e : cs.slots.getD (sp.toNatClampNeg + i) .null = .int (f (sp.toNatClampNeg + i)) := by
        rw [Array.getD_eq_getD_getElem?, q6 _ (by omega)]
        rfl
      refine ⟨?_, ?_⟩
      · rw [e]
        exact hf _ (by omega)
      · rw [e]
        exact trivial)
    (g := F0 m pc ls (.int n :: .int dp :: .ref s1 :: .int sp :: .ref s0 :: st)) rfl (by rw [C.2.2.2.1]; exact hl.1) (rest := st) rfl (by rw [C.2.1]; exact d) (Nat.le_trans hd hE.1) (by refine Nat.le_trans ?_ hE.2; show 2 * 0 + _ + _ ≤ 60 * zyd Y; omega)
  have e1 : copied cs (vp_cell (gA G 4) (n1, .inl g)) sp dp n = vp_cell (gA G 4) (n1, .inl (va_cpy f g sp.toNatClampNeg dp.toNatClampNeg n.toNatClampNeg)) := va_copiedX (fun z => .int z) cs (gA G 4) f g q6 b4
  rw [e1] at X' step
  have hlt : s1 < H.size := (Array.getElem?_eq_some_iff.mp hs1).1
  have hheap : ((T.setVm vm').setCell s1 (vp_cell (gA G 4) (n1, .inl (va_cpy f g sp.toNatClampNeg dp.toNatClampNeg n.toNatClampNeg)))).heap = H.setIfInBounds s1 (vp_cell (gA G 4) (n1, .inl (va_cpy f g sp.toNatClampNeg dp.toNatClampNeg n.toNatClampNeg))) := by rw [← hT]; rfl
  have o1 : ∀ q, q ≠ s1 → (H.setIfInBounds s1 (vp_cell (gA G 4) (n1, .inl (va_cpy f g sp.toNatClampNeg dp.toNatClampNeg n.toNatClampNeg))))[q]? = H[q]? := fun q hq => by simp [Array.getElem?_setIfInBounds, Ne.symm hq]
  obtain ⟨t, a1, b1⟩ := h _ (by simp) o1 (by simp [hA, Array.getElem?_setIfInBounds, hlt]) p e s m args below meth cd _ ls C hN (hR.put h1.1 (by simp) o1) (fun q hq => by
    rcases List.mem_append.mp hq with h | h
    · exact hlo q h
    · obtain ⟨z, -, hz⟩ := List.mem_map.mp h
      rw [← hz]
      exact h1) hl _ hheap X'
  exact ⟨t, step t a1, b1⟩
end HM
theorem hA.b {G : zG} {H : Heap} {v n : Nat} {f : Nat → Int32} (h : hA G H v 4 n (.inl f)) (hg : gy G (gA G 4)) : hB G H v n f :=
  ⟨_, h, (fun z => by cases z), rfl, hg, arrV_size _ _ _, fun j hj => arrV_read _ _ hj⟩
theorem hB.kept {G : zG} {H H1 : Heap} {v n : Nat} {f : Nat → Int32} (h : hB G H v n f) (e : H1[v]? = H[v]?) : hB G H1 v n f := by
  obtain ⟨cell, q1, q2⟩ := h
  exact ⟨cell, e.trans q1, q2⟩
theorem hB.lt {G : zG} {H : Heap} {v n : Nat} {f : Nat → Int32} (h : hB G H v n f) : v < H.size := by
  obtain ⟨cell, q1, -⟩ := h
  exact (Array.getElem?_eq_some_iff.mp q1).1
/-- a text's object -/
def hStr (G : zG) (H : Heap) (a v : Nat) : Prop := hF G H a 0 0 (.ref v) ∧ hF G H a 0 1 (.int 0) ∧ hRc G H a 0
theorem zStr_h {G : zG} {a v : Nat} {t : List Nat} {H : Heap} (h : zStrAt G a v t H) : hStr G H a v ∧ hB G H v t.length (fun j => sb_b (t.getD j 0)) := by
  obtain ⟨⟨c1, a1, a2, a3, a4, a5, a6⟩, ⟨c2, b1, b2, b3, b4, b5, b6⟩, -⟩ := h
  exact ⟨⟨⟨c1, a1, a2, a4, a5⟩, ⟨c1, a1, a2, a4, a6⟩, ⟨c1, a1, a3, a4⟩⟩, ⟨c2, b1, b2, b3, b4, b5, b6⟩⟩
