abbrev Y_L_law : zY := (yL_law, cL_law, 10, (some .boolean), 60, [])
theorem zw_142 : Cond.methodLink RL 104 yX8_init ∈ zAll := zin 142 (by decide +kernel) (by decide +kernel)
theorem zw_144 : Cond.code yX8_init cX8_init 2 none ∈ zAll := zin 144 (by decide +kernel) (by decide +kernel)
theorem zw_143 : Cond.instanceMethod yX8_init ∈ zAll := zin 143 (by decide +kernel) (by decide +kernel)
theorem hci_L_law_X8_init_104 : hLI Y_L_law 104 Y_X8_init 0 := ⟨zw_142, zw_143, zw_111, zw_144, rfl, rfl, by decide +kernel, by decide, by decide⟩
theorem zw_1586 : Cond.methodLink RL 107 yX9_init ∈ zAll := zin 1586 (by decide +kernel) (by decide +kernel)
theorem zw_1588 : Cond.code yX9_init cX9_init 1 none ∈ zAll := zin 1588 (by decide +kernel) (by decide +kernel)
theorem zw_1587 : Cond.instanceMethod yX9_init ∈ zAll := zin 1587 (by decide +kernel) (by decide +kernel)
theorem hci_L_law_X9_init_107 : hLI Y_L_law 107 Y_X9_init 0 := ⟨zw_1586, zw_1587, zw_124, zw_1588, rfl, rfl, by decide +kernel, by decide, by decide⟩
theorem zw_140 : Cond.classLink RL 8 RX8 ∈ zAll := zin 140 (by decide +kernel) (by decide +kernel)
theorem zw_1584 : Cond.classLink RL 105 RX9 ∈ zAll := zin 1584 (by decide +kernel) (by decide +kernel)
section
variable {l : Launch} {E : zE} {D : va_G} {Ak : Nat → ClassId} {z b : Nat} {B : Nat → Option Cell} {T : String → Nat → Nat} {y : ClassId → Prop} {n : Nat} {xs : Nat → Int32}
/-- the same world, before the objects are: all places stand for the script's -/
abbrev lG0 (D : va_G) (Ak : Nat → ClassId) (z b : Nat) (B : Nat → Option Cell) (T : String → Nat → Nat) (y : ClassId → Prop) (n : Nat) (xs : Nat → Int32) : zG := (D, Ak, (fun _ _ => b), z, B, T, y, n, xs)
theorem l_ctx {p : Program} {s : State} {m : MethodId} {args : Array Value} {meth : Method} {cd : Code} {Y : zY} (C : zCtx (lG0 D Ak z b B T y n xs) Y p s m args meth cd) : zCtx (lGz D Ak z b B T y n xs) Y p s m args meth cd := by
  obtain ⟨c1, c2, c3, c4, c5, c6, c7, ⟨k1, k2, k3, k4, k5, k6⟩, c9, c10⟩ := C
  exact ⟨c1, c2, c3, c4, c5, c6, c7, ⟨k1, k2, k3, k4, k5, k6⟩, c9, c10⟩
theorem l_bridge {w : lW} {H : Heap} {c k : Nat} (h : lAt l (lGz D Ak z b B T y n xs) YL_law E 28 (lLV 0) [] w c k) (hR : lRep (lGz D Ak z b B T y n xs) w H) : hAt l (lG0 D Ak z b B T y n xs) Y_L_law E 28 [(5, Value.int 0), (4, Value.ref (z + 266)), (3, Value.ref (z + 265)), (2, Value.ref (z + 250)), (1, Value.ref z), (0, Value.ref b)] [] H c k := by
  intro p e s m args below meth cd locs ls C hN hB hlo hl
  refine h p e s m args below meth cd H locs ls (l_ctx C) (List.forall_mem_cons.mpr ⟨trivial, List.forall_mem_cons.mpr ⟨by show 0 < 1; omega, List.forall_mem_cons.mpr ⟨by show 0 < 1; omega, List.forall_mem_cons.mpr ⟨by show 0 < 1; omega, List.forall_mem_cons.mpr ⟨by show 0 < 1; omega, List.forall_mem_cons.mpr ⟨by show 0 < 1; omega, fun _ h => absurd h List.not_mem_nil⟩⟩⟩⟩⟩⟩) (fun v hv => absurd hv List.not_mem_nil) hR (fun q hq => (hlo q hq).1) ⟨hl.1, hl.2.1, ?_⟩
  have h5 := hl.2.2 (5, Value.int 0) (by simp)
  have h4 := hl.2.2 (4, Value.ref (z + 266)) (by simp)
  have h3 := hl.2.2 (3, Value.ref (z + 265)) (by simp)
  have h2 := hl.2.2 (2, Value.ref (z + 250)) (by simp)
  have h1 := hl.2.2 (1, Value.ref z) (by simp)
  have h0 := hl.2.2 (0, Value.ref b) (by simp)
  exact List.forall_mem_cons.mpr ⟨h5, List.forall_mem_cons.mpr ⟨h0, List.forall_mem_cons.mpr ⟨h1, List.forall_mem_cons.mpr ⟨h2, List.forall_mem_cons.mpr ⟨h3, List.forall_mem_cons.mpr ⟨h4, fun _ h => absurd h List.not_mem_nil⟩⟩⟩⟩⟩⟩
theorem rtr_re {H : Heap} {a : Nat} (h : Rtr (lG0 D Ak z b B T y n xs) H a) : Rtr (lGz D Ak z b B T y n xs) H a := Rtr.mk h.ob h.arr h.qo h.qa h.dO h.da h.fl
theorem X8w.re {H H1 : Heap} {a : Nat} (h : X8w (lG0 D Ak z b B T y n xs) H a H1) : X8w (lGz D Ak z b B T y n xs) H a H1 :=
  X8w.mk h.ob h.rd h.byt h.su (rtr_re h.r0) (rtr_re h.r1) h.sc h.s1 h.s2 h.s3 h.s4 h.s5 (rtr_re h.r2) h.pa h.pl (fun j hj => rtr_re (h.pr j hj)) h.sv (rtr_re h.q0) (rtr_re h.q1) h.isv h.sb h.sa
theorem X9w.re {H H1 : Heap} {a : Nat} (h : X9w (lG0 D Ak z b B T y n xs) H a H1) : X9w (lGz D Ak z b B T y n xs) H a H1 :=
  X9w.mk h.ob h.w0 h.f1 h.f2 h.f3 h.f4 h.f5 h.f6 h.f7 h.f8 h.f9 h.f10 h.f11 h.f12 h.f13
theorem l_start {H : Heap} {w : lW} (hE : zRm Y_L_law E.1) (hcap : E.1.cells = 601024 ∧ E.1.slots = 7293034) (hb : b < z) (hH : H.size = z) (hB : ∀ q, q < z → H[q]? = B q)
    (hrep : ∀ H6 H8 H9 : Heap, H8.size = z + 1 → H9.size = z + 251 → X8w (lGz D Ak z b B T y n xs) H8 z H6 → X9w (lGz D Ak z b B T y n xs) H9 (z + 250) H6 → z + 267 ≤ H6.size → (∀ q, q < z → H6[q]? = B q) → hA (lGz D Ak z b B T y n xs) H6 (z + 265) 1 1 (.inr (.inl (fun _ => 0))) → hA (lGz D Ak z b B T y n xs) H6 (z + 266) 5 1 (.inr (.inr (.inr (.inl (fun _ => 0))))) → lRep (lGz D Ak z b B T y n xs) w H6)
    (hk : lAt l (lGz D Ak z b B T y n xs) YL_law E 28 (lLV 0) [] w 267 14181) : hAt l (lG0 D Ak z b B T y n xs) Y_L_law E 0 [(0, Value.ref b)] [] H 0 0 := by
  have hfr : ∀ q, z ≤ q → zfr (lG0 D Ak z b B T y n xs) q := fun q hq => ⟨hq, fun e => by have e2 : q = b := e; omega, fun e => by have e2 : q = b := e; omega⟩
  have hsz : ∀ H1 : Heap, z ≤ H1.size → gz (lG0 D Ak z b B T y n xs) ≤ H1.size ∧ ga (lG0 D Ak z b B T y n xs) 50 0 < H1.size ∧ ga (lG0 D Ak z b B T y n xs) 51 0 < H1.size := fun H1 h => ⟨h, (by show b < H1.size; omega), (by show b < H1.size; omega)⟩
  refine H_new (ci := 12) (N := 9) (V := vp_V [Value.null, Value.null, Value.null, Value.null, Value.null, Value.null, Value.null, Value.null, Value.null]) tyX8 rfl zws_X8 tyX8_ok zw_140 zw_141 zw_111 (fun j hj => by have h4 : j = 0 ∨ j = 1 ∨ j = 2 ∨ j = 3 ∨ j = 4 ∨ j = 5 ∨ j = 6 ∨ j = 7 ∨ j = 8 := (by omega); rcases h4 with e | e | e | e | e | e | e | e | e <;> subst e <;> rfl) (by rw [hcap.1]; omega) (by rw [hcap.2]; omega) dL_law_0 (fun H1 z1 o1 e8 => ?_)
  refine H_dup rfl dL_law_3 ?_
  refine H_callI (as := []) (st := [Value.ref H.size]) (mc' := 249) (ms' := 6686) hE hci_L_law_X8_init_104 rfl rfl (zle rfl) dL_law_4 ⟨by rw [hcap.1]; omega, by rw [hcap.2]; omega⟩ (ct_X8 e8 (hfr _ (by omega)) (hsz _ (by omega))) (fun r2 H2 q2 => ?_)
  obtain ⟨rfl, z2, o2, x8⟩ := q2
  refine H_astore_n (lv2 := [(1, Value.ref H.size), (0, Value.ref b)]) dL_law_7 rfl (by decide) rfl ?_
  refine H_new (ci := 13) (N := 30) (V := vp_V [Value.null, Value.null, Value.null, Value.null, Value.null, Value.null, Value.int 0, Value.int 0, Value.int 0, Value.null, Value.int 0, Value.int 0, Value.int 0, Value.int 0, Value.int 0, Value.int 0, Value.int 0, Value.int 0, Value.int 0, Value.null, Value.null, Value.null, Value.null, Value.null, Value.null, Value.int 0, Value.int 0, Value.int 0, Value.null, Value.int 0]) tyX9 rfl zws_X9 tyX9_ok zw_1584 zw_1585 zw_124 (fun j hj => by have h4 : j = 0 ∨ j = 1 ∨ j = 2 ∨ j = 3 ∨ j = 4 ∨ j = 5 ∨ j = 6 ∨ j = 7 ∨ j = 8 ∨ j = 9 ∨ j = 10 ∨ j = 11 ∨ j = 12 ∨ j = 13 ∨ j = 14 ∨ j = 15 ∨ j = 16 ∨ j = 17 ∨ j = 18 ∨ j = 19 ∨ j = 20 ∨ j = 21 ∨ j = 22 ∨ j = 23 ∨ j = 24 ∨ j = 25 ∨ j = 26 ∨ j = 27 ∨ j = 28 ∨ j = 29 := (by omega); rcases h4 with e | e | e | e | e | e | e | e | e | e | e | e | e | e | e | e | e | e | e | e | e | e | e | e | e | e | e | e | e | e <;> subst e <;> rfl) (by rw [hcap.1]; omega) (by rw [hcap.2]; omega) dL_law_8 (fun H3 z3 o3 e9 => ?_)
  refine H_dup rfl dL_law_11 ?_
  refine H_callI (as := []) (st := [Value.ref H2.size]) (mc' := 14) (ms' := 7454) hE hci_L_law_X9_init_107 rfl rfl (zle rfl) dL_law_12 ⟨by rw [hcap.1]; omega, by rw [hcap.2]; omega⟩ (ct_X9 e9 (hfr _ (by omega)) (hsz _ (by omega))) (fun r4 H4 q4 => ?_)
  obtain ⟨rfl, z4, o4, x9⟩ := q4
  refine H_astore_n (lv2 := [(2, Value.ref H2.size), (1, Value.ref H.size), (0, Value.ref b)]) dL_law_15 rfl (by decide) rfl ?_
  refine H_iconst (v := 1) rfl dL_law_16 ?_
  refine H_newa (at_ := .long) (t := 1) (n := 1) (z := .inr (.inl (fun _ => 0))) (by decide) rfl zw_293 rfl (fun _ => rfl) (by decide) (by rw [hcap.1]; omega) (by rw [hcap.2]; omega) dL_law_17 (fun H5 z5 o5 f5 => ?_)
  refine H_astore_n (lv2 := [(3, Value.ref H4.size), (2, Value.ref H2.size), (1, Value.ref H.size), (0, Value.ref b)]) dL_law_19 rfl (by decide) rfl ?_
  refine H_iconst (v := 1) rfl dL_law_20 ?_
  refine H_newa (at_ := .double) (t := 5) (n := 1) (z := .inr (.inr (.inr (.inl (fun _ => 0))))) (by decide) rfl zw_2233 rfl (fun _ => rfl) (by decide) (by rw [hcap.1]; omega) (by rw [hcap.2]; omega) dL_law_21 (fun H6 z6 o6 f6 => ?_)
  refine H_astore (lv2 := [(4, Value.ref H5.size), (3, Value.ref H4.size), (2, Value.ref H2.size), (1, Value.ref H.size), (0, Value.ref b)]) dL_law_23 (by decide) rfl ?_
  refine H_iconst (v := 0) rfl dL_law_25 ?_
  refine H_istore (lv2 := [(5, Value.int 0), (4, Value.ref H5.size), (3, Value.ref H4.size), (2, Value.ref H2.size), (1, Value.ref H.size), (0, Value.ref b)]) dL_law_26 (by decide) rfl ?_
  have y1 : H1.size = z + 1 := by omega
  have y2 : H2.size = z + 250 := by omega
  have y3 : H3.size = z + 251 := by omega
  have y4 : H4.size = z + 265 := by omega
  have y5 : H5.size = z + 266 := by omega
  rw [y5, y4, y2, hH]
  rw [hH] at x8
  rw [y2] at x9
  rw [y4] at f5
  rw [y5] at f6
  refine l_bridge hk (hrep H6 H1 H3 y1 y3 ((x8.kept (by omega) fun q hq => ?_).re) ((x9.kept (by omega) fun q hq => ?_).re) (by omega) (fun q hq => ?_) ((o6 _ (by omega)).trans f5) f6)
  · exact (o6 q (by omega)).trans ((o5 q (by omega)).trans ((o4 q (by omega) (by omega)).trans (o3 q (by omega))))
  · exact (o6 q (by omega)).trans (o5 q (by omega))
  · exact (o6 q (by omega)).trans ((o5 q (by omega)).trans ((o4 q (by omega) (by omega)).trans ((o3 q (by omega)).trans ((o2 q (by omega) (by omega)).trans ((o1 q (by omega)).trans (hB q hq))))))
end
