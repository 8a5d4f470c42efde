/-! THE START, PUT TOGETHER -/
section
variable {s : State} {b z : Nat} {D : va_G} {Ak : Nat → ClassId} {n : Nat} {xs : Nat → Int32} {T0 : Nat → Option (List Nat)}
theorem T1_rep {H H8 H9 : Heap} (hb : b < z) (hz : z = s.heap.size) (hD : ∀ (c : Nat) (r : vw_C), vwCl[c]? = some r → u_Kn s r.1 r.2.1 r.2.2 (D.1 c) (D.2 c)) (hX : va_X b n xs s s.heap) (hS : ∀ q ∈ zLits, ∃ v : Nat, lSt D s (gT s q.1 q.2.1) v (zch q.2.2)) (t1 : ∀ (a : Nat) (t : List Nat), T0 a = some t → ∃ q ∈ zLits, gT s q.1 q.2.1 = a ∧ zch q.2.2 = t) (t2 : ∀ q ∈ zLits, T0 (gT s q.1 q.2.1) = some (zch q.2.2)) (s8 : H8.size = z + 1) (s9 : H9.size = z + 251)
    (h8 : X8w (lGz D Ak z b (fun q => s.heap[q]?) (gT s) (lY s) n xs) H8 z H) (h9 : X9w (lGz D Ak z b (fun q => s.heap[q]?) (gT s) (lY s) n xs) H9 (z + 250) H) (hsz : z + 267 ≤ H.size) (hB : ∀ q, q < z → H[q]? = s.heap[q]?) : zRep (lGz D Ak z b (fun q => s.heap[q]?) (gT s) (lY s) n xs) (m00 (gT s "EarlyDrops$Flow" 9) T0) H := by
  refine ⟨lG_ok rfl (fun _ _ => rfl) hb, hB, (by show z ≤ H.size; omega), zs_hold s8 s9 h8 h9 hsz, ⟨z + 1 + 248, ?_, ?_, (fun q n f h => by cases h), fun n f h => by cases h⟩, t2⟩
  · have h1 := h8.sb
    have h2 := h8.sa
    rw [s8] at h1 h2
    obtain ⟨r, e, h3⟩ := h1
    have hr : ((RJ4, TJ4, 4) : vw_C) = r := Option.some.inj e
    subst hr
    refine ⟨0, fun _ => 0, h3, h2, (by show 0 ≤ 16; omega), (by show 16 ≤ 65536; omega), sb_fit0, fun j hj => absurd hj (by show ¬ j < 0; omega), ?_, (by show z ≤ z + 1 + 248; omega)⟩
    rw [show z + 1 + 248 = z + 249 by omega]
    exact lG_249 (fun _ _ => rfl) hb
  · intro a t ht
    obtain ⟨q, hq, rfl, rfl⟩ := t1 a t ht
    obtain ⟨v, hv⟩ := hS q hq
    have hne := hv.ne (hD 0 _ rfl) hX
    obtain ⟨⟨c1, a1, a2⟩, c2, b1, b2⟩ := hv
    have la : gT s q.1 q.2.1 < z := by rw [hz]; exact (Array.getElem?_eq_some_iff.mp a1).1
    have lv : v < z := by rw [hz]; exact (Array.getElem?_eq_some_iff.mp b1).1
    exact ⟨v, ⟨⟨c1, (hB _ la).trans a1, a2⟩, ⟨c2, (hB _ lv).trans b1, b2⟩, (zLits_sm q hq).1, (zLits_sm q hq).2⟩, lG_free (fun _ _ => rfl) la hne.1, lG_free (fun _ _ => rfl) lv hne.2, fun h => h.elim (fun e => by omega) (fun ⟨n, f, e⟩ => by cases e), fun h => h.elim (fun e => by omega) (fun ⟨n, f, e⟩ => by cases e)⟩
end
/-- the law's run from its entry, down to the end that is named -/
theorem law_run {l : Launch} {p : Program} {e : Env} {s : State} {m : MethodId} {below : List Frame} {meth : Method} {c : Code} {b L : Nat} {xs : Nat → Int32} {E2 : List Frame → State → Array Value → State → Prop} (hl : l.stackTraces = false) (hts : ∀ w ∈ lw_tbl, w.before #[Value.ref b] s = true) (hf : ∀ c ∈ fl9, c.before #[Value.ref b] s = true) (hX : va_X b L xs s s.heap) (hbl : b < s.heap.size) (hL : L ≤ 3072) (hx : p.tables.exec = Jvm.exec) (hcode : c.code = cL_law) (hret : meth.sig.returnType = some .boolean) (hml : c.maxLocals = 10) (hown : s.vm.findClass "EarlyDropsLaw" = some m.cls) (hlk : meth.locks = false) (htab : c.exceptionTable.toList = []) (hname : meth.name = "law")
    (hend : ∀ G : zG, gz G = s.heap.size → ∀ (lv : List (Nat × zV)) (M : lW) (c k : Nat), c ≤ 601024 → k ≤ 7293034 → lAt l G YL_law (room_1, E2) 2342 lv [vi 1] M c k) : W p l e room_1 s m ([Value.ref b] : List Value).toArray below meth c s.heap [] 0 0 (E2 below s ([Value.ref b] : List Value).toArray) (entryFrame m ([Value.ref b] : List Value).toArray 10) := by
  have hz : ∀ w ∈ zAll, w.before #[Value.ref b] s = true := fun w hw => hts w (List.mem_filter.mp hw).1
  obtain ⟨D, hD⟩ := T1_D hz
  obtain ⟨Ak, hAk, hA4⟩ := T1_A hts hz
  have hT := T1_T hts hf (hD 0 _ rfl)
  obtain ⟨T0, t1, t2⟩ := T1_T0 (T := gT s) (fun q hq => (hT q hq).2)
  obtain ⟨⟨k1, k2, k3, k4, k5, k6⟩, k7⟩ := T1_tb (L := L) (xs := xs) rfl hts hf hX hbl hD hAk hA4 (fun q hq => (hT q hq).1)
  have hE : zRm Y_L_law ((room_1, E2) : zE).1 := ⟨zle rfl, zle rfl⟩
  have hstart := l_start (l := l) (E := (room_1, E2)) (D := D) (Ak := Ak) (z := s.heap.size) (b := b) (B := fun q => s.heap[q]?) (T := gT s) (y := lY s) (n := L) (xs := xs) (H := s.heap) (w := (m00 (gT s "EarlyDrops$Flow" 9) T0, 0, 0)) hE ⟨rfl, rfl⟩ hbl rfl (fun q _ => rfl)
    (fun H6 H8 H9 s8 s9 x8 x9 sz hB f5 f6 => ⟨T1_rep hbl rfl hD hX (fun q hq => (hT q hq).2) t1 t2 s8 s9 x8 x9 sz hB, ⟨fun _ => 0, rfl, f5⟩, fun _ => 0, rfl, f6⟩)
    (l_loop hE ⟨rfl, rfl⟩ hl hL (hend _ rfl) 513 0 _ 267 14181 rfl (by rw [Nat.mul_zero]; exact m00_inv) (by omega) (by omega))
  rw [lg_entry_eq]
  exact hstart p e s m _ below meth c [] _ ⟨hx, hcode, hret, hml, hown, hz, hlk, ⟨k1, k2, k3, k4, k5, k6⟩, ⟨k7, fun q _ => rfl, Nat.le_refl _⟩, htab⟩ hname ⟨fun q _ => rfl, Nat.le_refl _, hbl, hbl⟩ (fun q hq => absurd hq List.not_mem_nil) (lv_entry [Value.ref b] (n := 10) (zle rfl))
