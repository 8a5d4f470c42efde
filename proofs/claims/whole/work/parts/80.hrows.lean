/-! H: A WALK OVER A PLAIN HEAP. For the JDK's own methods and the constructors: values are the machine's, the heap is named at every step. -/
def hBase (G : zG) (H : Heap) : Prop := (∀ q : Nat, q < gz G → H[q]? = gb G q) ∧ gz G ≤ H.size ∧ ga G 50 0 < H.size ∧ ga G 51 0 < H.size
theorem hBase.fr {G : zG} {H : Heap} (h : hBase G H) : zfr G H.size := ⟨h.2.1, fun e => by have e2 : H.size = ga G 50 0 := e; have := h.2.2.1; omega, fun e => by have e2 : H.size = ga G 51 0 := e; have := h.2.2.2; omega⟩
theorem hBase.of {G : zG} {M : zM} {H : Heap} (h : zRep G M H) : hBase G H := ⟨h.2.1, h.2.2.1, h.2.2.2.1 50 0 (by decide) (.inl rfl), h.2.2.2.1 51 0 (by decide) (.inr rfl)⟩
abbrev hK : Type := Option Value → Heap → Prop
def hPost (G : zG) (K : hK) : Array Value → State → Outcome → State → Prop := fun _ _ o t => ∃ r : Option Value, o = .returned r ∧ K r t.heap ∧ hBase G t.heap
abbrev hPre (G : zG) (H : Heap) : State → Prop := fun U => zKn G U U.heap ∧ U.heap = H ∧ hBase G U.heap
/-- A CALL of Y on the heap H with the values av: it comes back with K -/
def hCal (l : Launch) (G : zG) (Y : zY) (mc ms : Nat) (av : List Value) (H : Heap) (K : hK) : Prop := Met l (zyN Y) (zws Y) (zRoom (zyd Y) mc ms) (va_Pc av (hPre G H)) (hPost G K) mc ms (zfr G)
def hEM (G : zG) (Y : zY) (mc ms : Nat) (K : hK) : zE := (zRoom (zyd Y) mc ms, fun below s args => MQ below (hPost G K) args s mc ms (zfr G))
def hAt (l : Launch) (G : zG) (Y : zY) (E : zE) (pc : Nat) (lv : List (Nat × Value)) (st : List Value) (H : Heap) (c k : Nat) : Prop :=
  ∀ (p : Program) (e : Env) (s : State) (m : MethodId) (args : Array Value) (below : List Frame) (meth : Method) (cd : Code) (locs : List Loc) (ls : Array Slot), zCtx G Y p s m args meth cd → meth.name = (zyN Y).name → hBase G H → (∀ q ∈ locs, zfr G q.base) → lv_has ls (zyL Y) lv →
    W p l e E.1 s m args below meth cd H locs c k (E.2 below s args) (F0 m pc ls st)
abbrev hf1 (i : Nat) (lv : List (Nat × Value)) : List (Nat × Value) := lv.filter (fun q => !(q.1 == i) && !(q.1 + 1 == i && q.2.category == 2))
section HR
variable {l : Launch} {G : zG} {Y : zY} {E : zE} {pc : Nat} {lv : List (Nat × Value)} {st : List Value} {H : Heap} {c k : Nat}
theorem H_iconst {n : Int} {v : Int32} (hv : Int32.ofInt n = v) (d : decode (zyC Y) pc = .ok (.iconst n, 1)) (h : hAt l G Y E (pc + 1) lv (.int v :: st) H c k) : hAt l G Y E (pc) lv (st) H c k := by
  intro p e s m args below meth cd locs ls C hN hR hlo hl
  exact lv_iconst C.1 C.2.1 d hv (h p e s m args below meth cd locs ls C hN hR hlo hl)
theorem H_bipush {n : Int} {v : Int32} (hv : (Int8.ofInt n).toInt32 = v) (d : decode (zyC Y) pc = .ok (.bipush n, 2)) (h : hAt l G Y E (pc + 2) lv (.int v :: st) H c k) : hAt l G Y E (pc) lv (st) H c k := by
  intro p e s m args below meth cd locs ls C hN hR hlo hl
  exact lv_bipush C.1 C.2.1 d hv (h p e s m args below meth cd locs ls C hN hR hlo hl)
theorem H_sipush {n : Int} {v : Int32} (hv : (Int16.ofInt n).toInt32 = v) (d : decode (zyC Y) pc = .ok (.sipush n, 3)) (h : hAt l G Y E (pc + 3) lv (.int v :: st) H c k) : hAt l G Y E (pc) lv (st) H c k := by
  intro p e s m args below meth cd locs ls C hN hR hlo hl
  exact lv_sipush C.1 C.2.1 d hv (h p e s m args below meth cd locs ls C hN hR hlo hl)
theorem H_ldc {idx : Nat} {v : Int32} (hw : Cond.constant (zyO Y) idx v ∈ zAll) (d : decode (zyC Y) pc = .ok (.ldc idx, 2)) (h : hAt l G Y E (pc + 2) lv (.int v :: st) H c k) : hAt l G Y E (pc) lv (st) H c k := by
  intro p e s m args below meth cd locs ls C hN hR hlo hl
  exact lv_ldc C.1 C.2.1 C.2.2.2.2.1 (C.2.2.2.2.2.1 _ hw) d (h p e s m args below meth cd locs ls C hN hR hlo hl)
theorem H_ldcw {idx : Nat} {v : Int32} (hw : Cond.constant (zyO Y) idx v ∈ zAll) (d : decode (zyC Y) pc = .ok (.ldc_w idx, 3)) (h : hAt l G Y E (pc + 3) lv (.int v :: st) H c k) : hAt l G Y E (pc) lv (st) H c k := by
  intro p e s m args below meth cd locs ls C hN hR hlo hl
  exact lv_ldcw C.1 C.2.1 C.2.2.2.2.1 (C.2.2.2.2.2.1 _ hw) d (h p e s m args below meth cd locs ls C hN hR hlo hl)
theorem H_iload_n {j : Fin 4} {i : Nat} {x : Int32} (d : decode (zyC Y) pc = .ok (.iload_n j, 1)) (hi : (j : Nat) = i) (q : Nat) (hq : lv[q]? = some (i, Value.int x)) (h : hAt l G Y E (pc + 1) lv (.int x :: st) H c k) : hAt l G Y E (pc) lv (st) H c k := by
  intro p e s m args below meth cd locs ls C hN hR hlo hl
  exact lv_iload_n C.1 C.2.1 d hi (lv_at hl q hq) (h p e s m args below meth cd locs ls C hN hR hlo hl)
theorem H_iload {i : Nat} {x : Int32} (d : decode (zyC Y) pc = .ok (.iload i, 2)) (q : Nat) (hq : lv[q]? = some (i, Value.int x)) (h : hAt l G Y E (pc + 2) lv (.int x :: st) H c k) : hAt l G Y E (pc) lv (st) H c k := by
  intro p e s m args below meth cd locs ls C hN hR hlo hl
  exact lv_iload C.1 C.2.1 d (lv_at hl q hq) (h p e s m args below meth cd locs ls C hN hR hlo hl)
theorem H_istore_n {x : Int32} {j : Fin 4} {i : Nat} {lv2 : List (Nat × Value)} (d : decode (zyC Y) pc = .ok (.istore_n j, 1)) (hi : (j : Nat) = i) (hn : i < zyL Y) (he : (i, Value.int x) :: hf1 i lv = lv2) (h : hAt l G Y E (pc + 1) lv2 (st) H c k) : hAt l G Y E (pc) lv (.int x :: st) H c k := by
  intro p e s m args below meth cd locs ls C hN hR hlo hl
  exact lv_istore_n C.1 C.2.1 d hi hl hn he (fun ls2 hl2 => h p e s m args below meth cd locs ls2 C hN hR hlo hl2)
theorem H_istore {x : Int32} {i : Nat} {lv2 : List (Nat × Value)} (d : decode (zyC Y) pc = .ok (.istore i, 2)) (hn : i < zyL Y) (he : (i, Value.int x) :: hf1 i lv = lv2) (h : hAt l G Y E (pc + 2) lv2 (st) H c k) : hAt l G Y E (pc) lv (.int x :: st) H c k := by
  intro p e s m args below meth cd locs ls C hN hR hlo hl
  exact lv_istore C.1 C.2.1 d hl hn he (fun ls2 hl2 => h p e s m args below meth cd locs ls2 C hN hR hlo hl2)
theorem H_iinc {i : Nat} {n : Int} {x v : Int32} {lv2 : List (Nat × Value)} (d : decode (zyC Y) pc = .ok (.iinc i n, 3)) (q : Nat) (hq : lv[q]? = some (i, Value.int x)) (hv : x + Int32.ofInt n = v) (hn : i < zyL Y) (he : (i, .int v) :: hf1 i lv = lv2) (h : hAt l G Y E (pc + 3) lv2 (st) H c k) : hAt l G Y E (pc) lv (st) H c k := by
  intro p e s m args below meth cd locs ls C hN hR hlo hl
  exact lv_iinc C.1 C.2.1 d hl (k := q) hq hv hn he (fun ls2 hl2 => h p e s m args below meth cd locs ls2 C hN hR hlo hl2)
theorem H_iadd {a b : Int32} (d : decode (zyC Y) pc = .ok (.iadd, 1)) (h : hAt l G Y E (pc + 1) lv (.int (a + b) :: st) H c k) : hAt l G Y E (pc) lv (.int b :: .int a :: st) H c k := by
  intro p e s m args below meth cd locs ls C hN hR hlo hl
  exact lv_iadd C.1 C.2.1 d (h p e s m args below meth cd locs ls C hN hR hlo hl)
theorem H_isub {a b : Int32} (d : decode (zyC Y) pc = .ok (.isub, 1)) (h : hAt l G Y E (pc + 1) lv (.int (a - b) :: st) H c k) : hAt l G Y E (pc) lv (.int b :: .int a :: st) H c k := by
  intro p e s m args below meth cd locs ls C hN hR hlo hl
  exact lv_isub C.1 C.2.1 d (h p e s m args below meth cd locs ls C hN hR hlo hl)
theorem H_imul {a b : Int32} (d : decode (zyC Y) pc = .ok (.imul, 1)) (h : hAt l G Y E (pc + 1) lv (.int (a * b) :: st) H c k) : hAt l G Y E (pc) lv (.int b :: .int a :: st) H c k := by
  intro p e s m args below meth cd locs ls C hN hR hlo hl
  exact lv_imul C.1 C.2.1 d (h p e s m args below meth cd locs ls C hN hR hlo hl)
theorem H_iand {a b : Int32} (d : decode (zyC Y) pc = .ok (.iand, 1)) (h : hAt l G Y E (pc + 1) lv (.int (a &&& b) :: st) H c k) : hAt l G Y E (pc) lv (.int b :: .int a :: st) H c k := by
  intro p e s m args below meth cd locs ls C hN hR hlo hl
  exact lv_iand C.1 C.2.1 d (h p e s m args below meth cd locs ls C hN hR hlo hl)
theorem H_ior {a b : Int32} (d : decode (zyC Y) pc = .ok (.ior, 1)) (h : hAt l G Y E (pc + 1) lv (.int (a ||| b) :: st) H c k) : hAt l G Y E (pc) lv (.int b :: .int a :: st) H c k := by
  intro p e s m args below meth cd locs ls C hN hR hlo hl
  exact lv_ior C.1 C.2.1 d (h p e s m args below meth cd locs ls C hN hR hlo hl)
theorem H_ixor {a b : Int32} (d : decode (zyC Y) pc = .ok (.ixor, 1)) (h : hAt l G Y E (pc + 1) lv (.int (a ^^^ b) :: st) H c k) : hAt l G Y E (pc) lv (.int b :: .int a :: st) H c k := by
  intro p e s m args below meth cd locs ls C hN hR hlo hl
  exact lv_ixor C.1 C.2.1 d (h p e s m args below meth cd locs ls C hN hR hlo hl)
theorem H_ishl {a b : Int32} (d : decode (zyC Y) pc = .ok (.ishl, 1)) (h : hAt l G Y E (pc + 1) lv (.int (a <<< (b &&& 31)) :: st) H c k) : hAt l G Y E (pc) lv (.int b :: .int a :: st) H c k := by
  intro p e s m args below meth cd locs ls C hN hR hlo hl
  exact lv_ishl C.1 C.2.1 d (h p e s m args below meth cd locs ls C hN hR hlo hl)
theorem H_ishr {a b : Int32} (d : decode (zyC Y) pc = .ok (.ishr, 1)) (h : hAt l G Y E (pc + 1) lv (.int (a >>> (b &&& 31)) :: st) H c k) : hAt l G Y E (pc) lv (.int b :: .int a :: st) H c k := by
  intro p e s m args below meth cd locs ls C hN hR hlo hl
  exact lv_ishr C.1 C.2.1 d (h p e s m args below meth cd locs ls C hN hR hlo hl)
theorem H_iushr {a b : Int32} (d : decode (zyC Y) pc = .ok (.iushr, 1)) (h : hAt l G Y E (pc + 1) lv (.int (a.toUInt32 >>> (b.toUInt32 &&& Int32.toUInt32 31)).toInt32 :: st) H c k) : hAt l G Y E (pc) lv (.int b :: .int a :: st) H c k := by
  intro p e s m args below meth cd locs ls C hN hR hlo hl
  exact lv_iushr C.1 C.2.1 d rfl (h p e s m args below meth cd locs ls C hN hR hlo hl)
theorem H_idiv {a b : Int32} (d : decode (zyC Y) pc = .ok (.idiv, 1)) (hne : ¬ b = 0) (h : hAt l G Y E (pc + 1) lv (.int (a / b) :: st) H c k) : hAt l G Y E (pc) lv (.int b :: .int a :: st) H c k := by
  intro p e s m args below meth cd locs ls C hN hR hlo hl
  exact lv_idiv C.1 C.2.1 d hne (h p e s m args below meth cd locs ls C hN hR hlo hl)
theorem H_irem {a b : Int32} (d : decode (zyC Y) pc = .ok (.irem, 1)) (hne : ¬ b = 0) (h : hAt l G Y E (pc + 1) lv (.int (a - a / b * b) :: st) H c k) : hAt l G Y E (pc) lv (.int b :: .int a :: st) H c k := by
  intro p e s m args below meth cd locs ls C hN hR hlo hl
  exact lv_irem C.1 C.2.1 d hne (h p e s m args below meth cd locs ls C hN hR hlo hl)
theorem H_ineg {a : Int32} (d : decode (zyC Y) pc = .ok (.ineg, 1)) (h : hAt l G Y E (pc + 1) lv (.int (-a) :: st) H c k) : hAt l G Y E (pc) lv (.int a :: st) H c k := by
  intro p e s m args below meth cd locs ls C hN hR hlo hl
  exact lv_ineg C.1 C.2.1 d (h p e s m args below meth cd locs ls C hN hR hlo hl)
theorem H_i2b {a : Int32} (d : decode (zyC Y) pc = .ok (.i2b, 1)) (h : hAt l G Y E (pc + 1) lv (.int a.toInt8.toInt32 :: st) H c k) : hAt l G Y E (pc) lv (.int a :: st) H c k := by
  intro p e s m args below meth cd locs ls C hN hR hlo hl
  exact lv_i2b C.1 C.2.1 d rfl (h p e s m args below meth cd locs ls C hN hR hlo hl)
theorem H_i2c {a : Int32} (d : decode (zyC Y) pc = .ok (.i2c, 1)) (h : hAt l G Y E (pc + 1) lv (.int (a.toUInt32 % 65536).toInt32 :: st) H c k) : hAt l G Y E (pc) lv (.int a :: st) H c k := by
  intro p e s m args below meth cd locs ls C hN hR hlo hl
  exact lv_i2c C.1 C.2.1 d rfl (h p e s m args below meth cd locs ls C hN hR hlo hl)
theorem H_dup {v : Value} (hc : v.category = 1) (d : decode (zyC Y) pc = .ok (.dup, 1)) (h : hAt l G Y E (pc + 1) lv (v :: v :: st) H c k) : hAt l G Y E (pc) lv (v :: st) H c k := by
  intro p e s m args below meth cd locs ls C hN hR hlo hl
  exact lv_dup C.1 C.2.1 d hc (h p e s m args below meth cd locs ls C hN hR hlo hl)
theorem H_pop {v : Value} (hc : v.category = 1) (d : decode (zyC Y) pc = .ok (.pop, 1)) (h : hAt l G Y E (pc + 1) lv (st) H c k) : hAt l G Y E (pc) lv (v :: st) H c k := by
  intro p e s m args below meth cd locs ls C hN hR hlo hl
  exact lv_pop C.1 C.2.1 d hc (h p e s m args below meth cd locs ls C hN hR hlo hl)
theorem H_dup_x1 {v u : Value} (hc : v.category = 1) (hu : u.category = 1) (d : decode (zyC Y) pc = .ok (.dup_x1, 1)) (h : hAt l G Y E (pc + 1) lv (v :: u :: v :: st) H c k) : hAt l G Y E (pc) lv (v :: u :: st) H c k := by
  intro p e s m args below meth cd locs ls C hN hR hlo hl
  exact lv_dup_x1 C.1 C.2.1 d hc hu (h p e s m args below meth cd locs ls C hN hR hlo hl)
theorem H_dup2 {v u : Value} (hc : v.category = 1) (hu : u.category = 1) (d : decode (zyC Y) pc = .ok (.dup2, 1)) (h : hAt l G Y E (pc + 1) lv (v :: u :: v :: u :: st) H c k) : hAt l G Y E (pc) lv (v :: u :: st) H c k := by
  intro p e s m args below meth cd locs ls C hN hR hlo hl
  exact lv_dup2_11 C.1 C.2.1 d hc hu (h p e s m args below meth cd locs ls C hN hR hlo hl)
theorem H_if_eq {x : Int32} {off : Int} {tgt : Nat} (d : decode (zyC Y) pc = .ok (.ifCond .eq off, 3)) (ht : (pc : Int) + off = (tgt : Int)) (kt : x = 0 → hAt l G Y E (tgt) lv (st) H c k) (kf : ¬ x = 0 → hAt l G Y E (pc + 3) lv (st) H c k) : hAt l G Y E (pc) lv (.int x :: st) H c k := by
  intro p e s m args below meth cd locs ls C hN hR hlo hl
  exact lv_if_eq C.1 C.2.1 d ht (fun q => kt q p e s m args below meth cd locs ls C hN hR hlo hl) (fun q => kf q p e s m args below meth cd locs ls C hN hR hlo hl)
theorem H_icmp_eq {x y : Int32} {off : Int} {tgt : Nat} (d : decode (zyC Y) pc = .ok (.if_icmp .eq off, 3)) (ht : (pc : Int) + off = (tgt : Int)) (kt : x = y → hAt l G Y E (tgt) lv (st) H c k) (kf : ¬ x = y → hAt l G Y E (pc + 3) lv (st) H c k) : hAt l G Y E (pc) lv (.int y :: .int x :: st) H c k := by
  intro p e s m args below meth cd locs ls C hN hR hlo hl
  exact lv_icmp_eq C.1 C.2.1 d ht (fun q => kt q p e s m args below meth cd locs ls C hN hR hlo hl) (fun q => kf q p e s m args below meth cd locs ls C hN hR hlo hl)
theorem H_if_ne {x : Int32} {off : Int} {tgt : Nat} (d : decode (zyC Y) pc = .ok (.ifCond .ne off, 3)) (ht : (pc : Int) + off = (tgt : Int)) (kt : ¬ x = 0 → hAt l G Y E (tgt) lv (st) H c k) (kf : x = 0 → hAt l G Y E (pc + 3) lv (st) H c k) : hAt l G Y E (pc) lv (.int x :: st) H c k := by
  intro p e s m args below meth cd locs ls C hN hR hlo hl
  exact lv_if_ne C.1 C.2.1 d ht (fun q => kt q p e s m args below meth cd locs ls C hN hR hlo hl) (fun q => kf q p e s m args below meth cd locs ls C hN hR hlo hl)
theorem H_icmp_ne {x y : Int32} {off : Int} {tgt : Nat} (d : decode (zyC Y) pc = .ok (.if_icmp .ne off, 3)) (ht : (pc : Int) + off = (tgt : Int)) (kt : ¬ x = y → hAt l G Y E (tgt) lv (st) H c k) (kf : x = y → hAt l G Y E (pc + 3) lv (st) H c k) : hAt l G Y E (pc) lv (.int y :: .int x :: st) H c k := by
  intro p e s m args below meth cd locs ls C hN hR hlo hl
  exact lv_icmp_ne C.1 C.2.1 d ht (fun q => kt q p e s m args below meth cd locs ls C hN hR hlo hl) (fun q => kf q p e s m args below meth cd locs ls C hN hR hlo hl)
theorem H_if_lt {x : Int32} {off : Int} {tgt : Nat} (d : decode (zyC Y) pc = .ok (.ifCond .lt off, 3)) (ht : (pc : Int) + off = (tgt : Int)) (kt : x < 0 → hAt l G Y E (tgt) lv (st) H c k) (kf : ¬ x < 0 → hAt l G Y E (pc + 3) lv (st) H c k) : hAt l G Y E (pc) lv (.int x :: st) H c k := by
  intro p e s m args below meth cd locs ls C hN hR hlo hl
  exact lv_if_lt C.1 C.2.1 d ht (fun q => kt q p e s m args below meth cd locs ls C hN hR hlo hl) (fun q => kf q p e s m args below meth cd locs ls C hN hR hlo hl)
theorem H_icmp_lt {x y : Int32} {off : Int} {tgt : Nat} (d : decode (zyC Y) pc = .ok (.if_icmp .lt off, 3)) (ht : (pc : Int) + off = (tgt : Int)) (kt : x < y → hAt l G Y E (tgt) lv (st) H c k) (kf : ¬ x < y → hAt l G Y E (pc + 3) lv (st) H c k) : hAt l G Y E (pc) lv (.int y :: .int x :: st) H c k := by
  intro p e s m args below meth cd locs ls C hN hR hlo hl
  exact lv_icmp_lt C.1 C.2.1 d ht (fun q => kt q p e s m args below meth cd locs ls C hN hR hlo hl) (fun q => kf q p e s m args below meth cd locs ls C hN hR hlo hl)
theorem H_if_ge {x : Int32} {off : Int} {tgt : Nat} (d : decode (zyC Y) pc = .ok (.ifCond .ge off, 3)) (ht : (pc : Int) + off = (tgt : Int)) (kt : 0 ≤ x → hAt l G Y E (tgt) lv (st) H c k) (kf : ¬ 0 ≤ x → hAt l G Y E (pc + 3) lv (st) H c k) : hAt l G Y E (pc) lv (.int x :: st) H c k := by
  intro p e s m args below meth cd locs ls C hN hR hlo hl
  exact lv_if_ge C.1 C.2.1 d ht (fun q => kt q p e s m args below meth cd locs ls C hN hR hlo hl) (fun q => kf q p e s m args below meth cd locs ls C hN hR hlo hl)
theorem H_icmp_ge {x y : Int32} {off : Int} {tgt : Nat} (d : decode (zyC Y) pc = .ok (.if_icmp .ge off, 3)) (ht : (pc : Int) + off = (tgt : Int)) (kt : y ≤ x → hAt l G Y E (tgt) lv (st) H c k) (kf : ¬ y ≤ x → hAt l G Y E (pc + 3) lv (st) H c k) : hAt l G Y E (pc) lv (.int y :: .int x :: st) H c k := by
  intro p e s m args below meth cd locs ls C hN hR hlo hl
  exact lv_icmp_ge C.1 C.2.1 d ht (fun q => kt q p e s m args below meth cd locs ls C hN hR hlo hl) (fun q => kf q p e s m args below meth cd locs ls C hN hR hlo hl)
theorem H_if_gt {x : Int32} {off : Int} {tgt : Nat} (d : decode (zyC Y) pc = .ok (.ifCond .gt off, 3)) (ht : (pc : Int) + off = (tgt : Int)) (kt : 0 < x → hAt l G Y E (tgt) lv (st) H c k) (kf : ¬ 0 < x → hAt l G Y E (pc + 3) lv (st) H c k) : hAt l G Y E (pc) lv (.int x :: st) H c k := by
  intro p e s m args below meth cd locs ls C hN hR hlo hl
  exact lv_if_gt C.1 C.2.1 d ht (fun q => kt q p e s m args below meth cd locs ls C hN hR hlo hl) (fun q => kf q p e s m args below meth cd locs ls C hN hR hlo hl)
theorem H_icmp_gt {x y : Int32} {off : Int} {tgt : Nat} (d : decode (zyC Y) pc = .ok (.if_icmp .gt off, 3)) (ht : (pc : Int) + off = (tgt : Int)) (kt : y < x → hAt l G Y E (tgt) lv (st) H c k) (kf : ¬ y < x → hAt l G Y E (pc + 3) lv (st) H c k) : hAt l G Y E (pc) lv (.int y :: .int x :: st) H c k := by
  intro p e s m args below meth cd locs ls C hN hR hlo hl
  exact lv_icmp_gt C.1 C.2.1 d ht (fun q => kt q p e s m args below meth cd locs ls C hN hR hlo hl) (fun q => kf q p e s m args below meth cd locs ls C hN hR hlo hl)
theorem H_if_le {x : Int32} {off : Int} {tgt : Nat} (d : decode (zyC Y) pc = .ok (.ifCond .le off, 3)) (ht : (pc : Int) + off = (tgt : Int)) (kt : x ≤ 0 → hAt l G Y E (tgt) lv (st) H c k) (kf : ¬ x ≤ 0 → hAt l G Y E (pc + 3) lv (st) H c k) : hAt l G Y E (pc) lv (.int x :: st) H c k := by
  intro p e s m args below meth cd locs ls C hN hR hlo hl
  exact lv_if_le C.1 C.2.1 d ht (fun q => kt q p e s m args below meth cd locs ls C hN hR hlo hl) (fun q => kf q p e s m args below meth cd locs ls C hN hR hlo hl)
theorem H_icmp_le {x y : Int32} {off : Int} {tgt : Nat} (d : decode (zyC Y) pc = .ok (.if_icmp .le off, 3)) (ht : (pc : Int) + off = (tgt : Int)) (kt : x ≤ y → hAt l G Y E (tgt) lv (st) H c k) (kf : ¬ x ≤ y → hAt l G Y E (pc + 3) lv (st) H c k) : hAt l G Y E (pc) lv (.int y :: .int x :: st) H c k := by
  intro p e s m args below meth cd locs ls C hN hR hlo hl
  exact lv_icmp_le C.1 C.2.1 d ht (fun q => kt q p e s m args below meth cd locs ls C hN hR hlo hl) (fun q => kf q p e s m args below meth cd locs ls C hN hR hlo hl)
theorem H_goto {off : Int} {tgt : Nat} (d : decode (zyC Y) pc = .ok (.goto off, 3)) (ht : (pc : Int) + off = (tgt : Int)) (h : hAt l G Y E (tgt) lv (st) H c k) : hAt l G Y E (pc) lv (st) H c k := by
  intro p e s m args below meth cd locs ls C hN hR hlo hl
  exact lv_goto C.1 C.2.1 d ht (h p e s m args below meth cd locs ls C hN hR hlo hl)
theorem H_aload_n {a : Nat} {j : Fin 4} {i : Nat} (d : decode (zyC Y) pc = .ok (.aload_n j, 1)) (hi : (j : Nat) = i) (q : Nat) (hq : lv[q]? = some (i, .ref a)) (h : hAt l G Y E (pc + 1) lv (.ref a :: st) H c k) : hAt l G Y E pc lv st H c k := by
  intro p e s m args below meth cd locs ls C hN hR hlo hl
  exact lv_aload_n C.1 C.2.1 d hi (lv_at hl q hq) (h p e s m args below meth cd locs ls C hN hR hlo hl)
theorem H_aload {a : Nat} {i : Nat} (d : decode (zyC Y) pc = .ok (.aload i, 2)) (q : Nat) (hq : lv[q]? = some (i, .ref a)) (h : hAt l G Y E (pc + 2) lv (.ref a :: st) H c k) : hAt l G Y E pc lv st H c k := by
  intro p e s m args below meth cd locs ls C hN hR hlo hl
  exact lv_aload C.1 C.2.1 d (lv_at hl q hq) (h p e s m args below meth cd locs ls C hN hR hlo hl)
theorem H_astore_n {a : Nat} {j : Fin 4} {i : Nat} {lv2 : List (Nat × Value)} (d : decode (zyC Y) pc = .ok (.astore_n j, 1)) (hi : (j : Nat) = i) (hn : i < zyL Y) (he : (i, Value.ref a) :: hf1 i lv = lv2) (h : hAt l G Y E (pc + 1) lv2 st H c k) : hAt l G Y E pc lv (.ref a :: st) H c k := by
  intro p e s m args below meth cd locs ls C hN hR hlo hl
  exact lv_astore_n C.1 C.2.1 d hi hl hn he (fun ls2 hl2 => h p e s m args below meth cd locs ls2 C hN hR hlo hl2)
theorem H_astore {a : Nat} {i : Nat} {lv2 : List (Nat × Value)} (d : decode (zyC Y) pc = .ok (.astore i, 2)) (hn : i < zyL Y) (he : (i, Value.ref a) :: hf1 i lv = lv2) (h : hAt l G Y E (pc + 2) lv2 st H c k) : hAt l G Y E pc lv (.ref a :: st) H c k := by
  intro p e s m args below meth cd locs ls C hN hR hlo hl
  exact lv_astore C.1 C.2.1 d hl hn he (fun ls2 hl2 => h p e s m args below meth cd locs ls2 C hN hR hlo hl2)
end HR
