/-! Z: A SMALL WALK OVER STATIC OBJECTS. An object that stands since the start is (sort, instance); memory is functions; strings are addresses with a text. -/
abbrev zI : Type := Nat × Nat
abbrev zV : Type := Value ⊕ zI
abbrev vi (x : Int32) : zV := Sum.inl (Value.int x)
abbrev vl (x : Int64) : zV := Sum.inl (Value.long x)
abbrev vfl (x : UInt32) : zV := Sum.inl (Value.float x)
abbrev vd (x : UInt64) : zV := Sum.inl (Value.double x)
abbrev va (a : Nat) : zV := Sum.inl (Value.ref a)
abbrev vr (s i : Nat) : zV := Sum.inr (s, i)
/-- ints, longs, doubles by (sort, instance, slot); string addresses in fields; texts by address; the builder's text and capacity; the letters being put together -/
abbrev zM : Type := (Nat → Nat → Nat → Int32) × (Nat → Nat → Nat → Int64) × (Nat → Nat → Nat → UInt64) × (Nat → Nat → Nat → Nat) × (Nat → Option (List Nat)) × (List Nat × Nat) × Option (Nat × Nat × (Nat → Int32))
abbrev zmI (M : zM) : Nat → Nat → Nat → Int32 := M.1
abbrev zmL (M : zM) : Nat → Nat → Nat → Int64 := M.2.1
abbrev zmD (M : zM) : Nat → Nat → Nat → UInt64 := M.2.2.1
abbrev zmN (M : zM) : Nat → Nat → Nat → Nat := M.2.2.2.1
abbrev zmT (M : zM) : Nat → Option (List Nat) := M.2.2.2.2.1
abbrev zmB (M : zM) : List Nat × Nat := M.2.2.2.2.2.1
abbrev zmC (M : zM) : Option (Nat × Nat × (Nat → Int32)) := M.2.2.2.2.2.2
/-- one row of a table of rows replaced -/
def zrw {α : Type} (F : Nat → Nat → Nat → α) (s i : Nat) (f : Nat → α) : Nat → Nat → Nat → α := fun s' i' => if s' = s ∧ i' = i then f else F s' i'
def zup {α : Type} (f : Nat → α) (k : Nat) (v : α) : Nat → α := fun j => if j = k then v else f j
def zsIr (M : zM) (s i : Nat) (f : Nat → Int32) : zM := (zrw M.1 s i f, M.2)
def zsLr (M : zM) (s i : Nat) (f : Nat → Int64) : zM := (M.1, zrw M.2.1 s i f, M.2.2)
def zsDr (M : zM) (s i : Nat) (f : Nat → UInt64) : zM := (M.1, M.2.1, zrw M.2.2.1 s i f, M.2.2.2)
def zsNr (M : zM) (s i : Nat) (f : Nat → Nat) : zM := (M.1, M.2.1, M.2.2.1, zrw M.2.2.2.1 s i f, M.2.2.2.2)
def zsT (M : zM) (t : Nat → Option (List Nat)) : zM := (M.1, M.2.1, M.2.2.1, M.2.2.2.1, t, M.2.2.2.2.2)
def zsB (M : zM) (b : List Nat × Nat) : zM := (M.1, M.2.1, M.2.2.1, M.2.2.2.1, M.2.2.2.2.1, b, M.2.2.2.2.2.2)
def zsC (M : zM) (b : Option (Nat × Nat × (Nat → Int32))) : zM := (M.1, M.2.1, M.2.2.1, M.2.2.2.1, M.2.2.2.2.1, M.2.2.2.2.2.1, b)
abbrev zsI (M : zM) (s i k : Nat) (v : Int32) : zM := zsIr M s i (zup (zmI M s i) k v)
abbrev zsL (M : zM) (s i k : Nat) (v : Int64) : zM := zsLr M s i (zup (zmL M s i) k v)
abbrev zsD (M : zM) (s i k : Nat) (v : UInt64) : zM := zsDr M s i (zup (zmD M s i) k v)
abbrev zsN (M : zM) (s i k : Nat) (v : Nat) : zM := zsNr M s i (zup (zmN M s i) k v)
theorem zmI_sI (M : zM) (s i : Nat) (f : Nat → Int32) (s' i' : Nat) : (zsIr M s i f).1 s' i' = if s' = s ∧ i' = i then f else M.1 s' i' := rfl
theorem zmR_sI (M : zM) (s i : Nat) (f : Nat → Int32) : (zsIr M s i f).2 = M.2 := rfl
theorem zmI_sL (M : zM) (s i : Nat) (f : Nat → Int64) : (zsLr M s i f).1 = M.1 := rfl
theorem zmL_sL (M : zM) (s i : Nat) (f : Nat → Int64) (s' i' : Nat) : (zsLr M s i f).2.1 s' i' = if s' = s ∧ i' = i then f else M.2.1 s' i' := rfl
theorem zmR_sL (M : zM) (s i : Nat) (f : Nat → Int64) : (zsLr M s i f).2.2 = M.2.2 := rfl
theorem zmI_sN (M : zM) (s i : Nat) (f : Nat → Nat) : (zsNr M s i f).1 = M.1 := rfl
theorem zmL_sN (M : zM) (s i : Nat) (f : Nat → Nat) : (zsNr M s i f).2.1 = M.2.1 := rfl
theorem zmD_sN (M : zM) (s i : Nat) (f : Nat → Nat) : (zsNr M s i f).2.2.1 = M.2.2.1 := rfl
theorem zmN_sN (M : zM) (s i : Nat) (f : Nat → Nat) (s' i' : Nat) : (zsNr M s i f).2.2.2.1 s' i' = if s' = s ∧ i' = i then f else M.2.2.2.1 s' i' := rfl
theorem zmR_sN (M : zM) (s i : Nat) (f : Nat → Nat) : (zsNr M s i f).2.2.2.2 = M.2.2.2.2 := rfl
theorem zup_self {α : Type} (f : Nat → α) (k : Nat) (v : α) : zup f k v k = v := if_pos rfl
theorem zup_ne {α : Type} (f : Nat → α) {k j : Nat} (v : α) (h : j ≠ k) : zup f k v j = f j := if_neg h
theorem zup_at {α : Type} (f : Nat → α) (k : Nat) (v : α) (j : Nat) : zup f k v j = if j = k then v else f j := rfl

/-- how many there are of a sort -/
def zcnt (s : Nat) : Nat := match s with
  | 0 => 1
  | 1 => 1
  | 2 => 1
  | 3 => 1
  | 4 => 1
  | 5 => 1
  | 6 => 1
  | 7 => 1
  | 8 => 1
  | 9 => 1
  | 10 => 1
  | 11 => 1
  | 12 => 1
  | 13 => 1
  | 15 => 13
  | 16 => 13
  | 17 => 78
  | 18 => 78
  | 19 => 13
  | 20 => 13
  | 21 => 13
  | 22 => 13
  | 30 => 1
  | 31 => 1
  | 32 => 1
  | 33 => 1
  | 34 => 1
  | 35 => 1
  | 36 => 1
  | 37 => 1
  | 38 => 1
  | 39 => 1
  | 40 => 1
  | 41 => 1
  | 42 => 1
  | 43 => 1
  | 44 => 1
  | 50 => 1
  | 51 => 1
  | 14 => 1
  | 52 => 1
  | _ => 0
/-- what it is: an object of a class of vwCl; an array of a type, of a length -/
def zkd (s : Nat) : Option (Nat ⊕ (Nat × Nat)) := match s with
  | 0 => some (.inl 12)
  | 1 => some (.inl 8)
  | 2 => some (.inr (0, 500))
  | 3 => some (.inl 11)
  | 4 => some (.inl 10)
  | 5 => some (.inr (0, 60))
  | 6 => some (.inr (0, 60))
  | 7 => some (.inr (0, 60))
  | 8 => some (.inr (0, 60))
  | 9 => some (.inr (0, 2))
  | 10 => some (.inl 6)
  | 11 => some (.inr (7, 8))
  | 12 => some (.inr (7, 2))
  | 13 => some (.inr (2, 2))
  | 15 => some (.inl 9)
  | 16 => some (.inr (6, 6))
  | 17 => some (.inl 5)
  | 18 => some (.inr (1, 8))
  | 19 => some (.inl 7)
  | 20 => some (.inr (0, 120))
  | 21 => some (.inl 4)
  | 22 => some (.inr (0, 192))
  | 30 => some (.inl 13)
  | 31 => some (.inr (0, 484))
  | 32 => some (.inr (0, 484))
  | 33 => some (.inr (0, 484))
  | 34 => some (.inr (0, 3872))
  | 35 => some (.inr (0, 968))
  | 36 => some (.inr (2, 2))
  | 37 => some (.inr (0, 500))
  | 38 => some (.inr (0, 64))
  | 39 => some (.inr (0, 64))
  | 40 => some (.inr (0, 64))
  | 41 => some (.inr (0, 64))
  | 42 => some (.inr (0, 2))
  | 43 => some (.inr (0, 2))
  | 44 => some (.inr (0, 400))
  | _ => none
/-- a field: 0 a number, 1 a fixed object, 2 a text -/
def zfld (s k : Nat) : Nat := match s, k with
  | 0, 0 => 1
  | 0, 1 => 1
  | 0, 2 => 1
  | 0, 3 => 1
  | 0, 4 => 1
  | 0, 5 => 1
  | 0, 6 => 1
  | 0, 7 => 1
  | 0, 8 => 1
  | 1, 0 => 1
  | 3, 0 => 1
  | 3, 1 => 1
  | 4, 0 => 1
  | 4, 1 => 1
  | 4, 2 => 1
  | 4, 3 => 1
  | 4, 4 => 1
  | 4, 5 => 1
  | 4, 6 => 1
  | 10, 0 => 1
  | 15, 13 => 1
  | 15, 14 => 1
  | 15, 15 => 1
  | 17, 0 => 2
  | 17, 10 => 1
  | 19, 0 => 1
  | 21, 0 => 1
  | 30, 0 => 1
  | 30, 1 => 1
  | 30, 2 => 1
  | 30, 3 => 1
  | 30, 4 => 1
  | 30, 5 => 1
  | 30, 9 => 1
  | 30, 19 => 1
  | 30, 20 => 1
  | 30, 21 => 1
  | 30, 22 => 1
  | 30, 23 => 1
  | 30, 24 => 1
  | 30, 28 => 1
  | _, _ => 0
/-- the fixed object in a field, or at a place of an array -/
def zref (s i k : Nat) : zI := match s, k with
  | 0, 0 => (1, 0)
  | 0, 1 => (3, 0)
  | 0, 2 => (4, 0)
  | 0, 3 => (15, 1)
  | 0, 4 => (15, 2)
  | 0, 5 => (10, 0)
  | 0, 6 => (12, 0)
  | 0, 7 => (13, 0)
  | 0, 8 => (14, 0)
  | 1, 0 => (2, 0)
  | 3, 0 => (1, 0)
  | 3, 1 => (15, 0)
  | 4, 0 => (1, 0)
  | 4, 1 => (15, 1)
  | 4, 2 => (5, 0)
  | 4, 3 => (6, 0)
  | 4, 4 => (7, 0)
  | 4, 5 => (8, 0)
  | 4, 6 => (9, 0)
  | 10, 0 => (11, 0)
  | 15, 13 => (16, i)
  | 15, 14 => (19, i)
  | 15, 15 => (21, i)
  | 17, 10 => (18, i)
  | 19, 0 => (20, i)
  | 21, 0 => (22, i)
  | 30, 0 => (31, 0)
  | 30, 1 => (32, 0)
  | 30, 2 => (33, 0)
  | 30, 3 => (34, 0)
  | 30, 4 => (35, 0)
  | 30, 5 => (36, 0)
  | 30, 9 => (37, 0)
  | 30, 19 => (38, 0)
  | 30, 20 => (39, 0)
  | 30, 21 => (40, 0)
  | 30, 22 => (41, 0)
  | 30, 23 => (42, 0)
  | 30, 24 => (43, 0)
  | 30, 28 => (44, 0)
  | 11, k => (15, 3 + k)
  | 12, k => (15, 11 + k)
  | 16, k => (17, 6 * i + k)
  | _, _ => (0, 0)

/-- the tables, the array classes, where each object lies, where the law's cells begin, what lies ahead of them -/
abbrev zG : Type := va_G × (Nat → ClassId) × (Nat → Nat → Nat) × Nat × (Nat → Option Cell) × (String → Nat → Nat) × (ClassId → Prop) × Nat × (Nat → Int32)
abbrev gD (G : zG) : va_G := G.1
abbrev gA (G : zG) : Nat → ClassId := G.2.1
abbrev ga (G : zG) : Nat → Nat → Nat := G.2.2.1
abbrev gz (G : zG) : Nat := G.2.2.2.1
abbrev gb (G : zG) : Nat → Option Cell := G.2.2.2.2.1
/-- where a text of the class file lies; which classes are rows of bytes; the script's length and numbers -/
abbrev gl (G : zG) : String → Nat → Nat := G.2.2.2.2.2.1
abbrev gy (G : zG) : ClassId → Prop := G.2.2.2.2.2.2.1
abbrev gn (G : zG) : Nat := G.2.2.2.2.2.2.2.1
abbrev gs (G : zG) : Nat → Int32 := G.2.2.2.2.2.2.2.2
/-- every object has a place of its own, behind the law's start -/
def zGok (G : zG) : Prop := (∀ s i s' i' : Nat, i < zcnt s → i' < zcnt s' → ga G s i = ga G s' i' → s = s' ∧ i = i') ∧ ∀ s i : Nat, i < zcnt s → s ≠ 52 → gz G ≤ ga G s i
def zty (t : Nat) : FieldType := match t with
  | 0 => .int
  | 1 => .long
  | 2 => .boolean
  | 3 => .char
  | 4 => .byte
  | 5 => .double
  | 6 => .object "EarlyDrops$Flow"
  | _ => .object "EarlyDrops$Router"
def zTys (G : zG) : List (ClassId × FieldType) := (List.range 8).map (fun t => (gA G t, zty t))
theorem zTys_at (G : zG) {t : Nat} (h : t < 8) : (zTys G)[t]? = some (gA G t, zty t) := by
  simp [zTys, List.getElem?_map, List.getElem?_range h]
/-- a field's value -/
def zfv (G : zG) (M : zM) (s i k : Nat) : Value := match zfld s k with
  | 0 => .int (zmI M s i k)
  | 1 => .ref (ga G (zref s i k).1 (zref s i k).2)
  | _ => .ref (zmN M s i k)
def zarr (G : zG) (M : zM) (s i t : Nat) : ((Nat → Int32) ⊕ (Nat → Int64) ⊕ (Nat → UInt32) ⊕ (Nat → UInt64) ⊕ (Nat → Option Nat)) := match t with
  | 1 => .inr (.inl (zmL M s i))
  | 5 => .inr (.inr (.inr (.inl (zmD M s i))))
  | 6 => .inr (.inr (.inr (.inr (fun k => some (ga G (zref s i k).1 (zref s i k).2)))))
  | 7 => .inr (.inr (.inr (.inr (fun k => some (ga G (zref s i k).1 (zref s i k).2)))))
  | _ => .inl (zmI M s i)
/-- what a cell holds -/
def zhold (G : zG) (M : zM) (s i : Nat) (H : Heap) : Prop := match zkd s with
  | none => s = 50 ∨ s = 51 → ga G s i < H.size
  | some (.inl ci) => ∃ r : vw_C, vwCl[ci]? = some r ∧ t_OB (ga G s i) ((gD G).1 ci) r.2.2 ((gD G).2 ci) H (zfv G M s i)
  | some (.inr (t, n)) => H[ga G s i]? = some (vp_cell (gA G t) (n, zarr G M s i t))
theorem zhold.kept {G : zG} {M : zM} {s i : Nat} {H H1 : Heap} (h : zhold G M s i H) (e : H1[ga G s i]? = H[ga G s i]?) : zhold G M s i H1 := by
  unfold zhold at h ⊢
  split
  · next hk =>
    rw [hk] at h
    exact fun q => by
      have e2 := e.trans (Array.getElem?_eq_getElem (h q))
      exact (Array.getElem?_eq_some_iff.mp e2).1
  · next ci hk =>
    rw [hk] at h
    obtain ⟨r, h1, h2⟩ := h
    exact ⟨r, h1, h2.kept e⟩
  · next t n hk =>
    rw [hk] at h
    exact e.trans h
theorem zhold.same {G : zG} {M M' : zM} {s i : Nat} {H : Heap} (h : zhold G M s i H) (e1 : zmI M' s i = zmI M s i) (e2 : zmL M' s i = zmL M s i) (e3 : zmD M' s i = zmD M s i) (e4 : zmN M' s i = zmN M s i) : zhold G M' s i H := by
  have e5 : ∀ k, zfv G M' s i k = zfv G M s i k := fun k => by unfold zfv; rw [e1, e4]
  have e6 : ∀ t, zarr G M' s i t = zarr G M s i t := fun t => by unfold zarr; rw [e1, e2, e3]
  unfold zhold at h ⊢
  split
  · next hk =>
    rw [hk] at h
    exact h
  · next ci hk =>
    rw [hk] at h
    obtain ⟨r, h1, h2⟩ := h
    exact ⟨r, h1, h2.to fun k _ => (e5 k).symm⟩
  · next t n hk =>
    rw [hk] at h
    rw [e6]
    exact h
/-- a text: a String of one byte a letter -/
def zStrAt (G : zG) (a v : Nat) (t : List Nat) (H : Heap) : Prop :=
  (∃ cell : Cell, H[a]? = some cell ∧ cell.vm ≠ .unknown ∧ cell.vm.isStatics = false ∧ cell.cls = (gD G).1 0 ∧ cell.slots[(gD G).2 0 0]? = some (.ref v) ∧ cell.slots[(gD G).2 0 1]? = some (.int 0)) ∧
  (∃ cell : Cell, H[v]? = some cell ∧ cell.vm ≠ .unknown ∧ cell.vm.isStatics = false ∧ gy G cell.cls ∧ cell.slots.size = t.length ∧ ∀ j : Nat, j < t.length → cell.slots[j]? = some (.int (sb_b (t.getD j 0)))) ∧ (∀ c ∈ t, c < 256) ∧ t.length ≤ 65536
/-- an address that no store of the class's own reaches -/
def zfree (G : zG) (q : Nat) : Prop := ∀ s i : Nat, i < zcnt s → q ≠ ga G s i
def zPool (G : zG) (M : zM) (x : Nat → Prop) (H : Heap) : Prop := ∀ (a : Nat) (t : List Nat), zmT M a = some t → ∃ v : Nat, zStrAt G a v t H ∧ zfree G a ∧ zfree G v ∧ ¬ x a ∧ ¬ x v
/-- the builder: its object, its bytes -/
def zSB (G : zG) (M : zM) (v : Nat) (H : Heap) : Prop := ∃ (ml : Int32) (f : Nat → Int32), t_OB (ga G 14 0) ((gD G).1 1) 4 ((gD G).2 1) H (vp_V [.ref v, .int 0, .int ml, .int (nI (zmB M).1.length)]) ∧ H[v]? = some (vp_cell (gA G 4) ((zmB M).2, .inl f)) ∧ (zmB M).1.length ≤ (zmB M).2 ∧ (zmB M).2 ≤ 65536 ∧ sb_Fit f ∧ sb_Lat (fun j => (zmB M).1.getD j 0) (zmB M).1.length f ∧ zfree G v ∧ gz G ≤ v
def zCh (G : zG) (M : zM) (H : Heap) : Prop := ∀ (q n : Nat) (f : Nat → Int32), zmC M = some (q, n, f) → H[q]? = some (vp_cell (gA G 3) (n, .inl f)) ∧ zfree G q ∧ gz G ≤ q
/-- the addresses that are written though they are no object of a sort -/
def zx (M : zM) (v : Nat) : Nat → Prop := fun q => q = v ∨ ∃ (n : Nat) (f : Nat → Int32), zmC M = some (q, n, f)
/-- the texts of the class files that are loaded -/
def zLits : List (String × Nat × String) := [("EarlyDrops$Flow", 9, ""), ("EarlyDrops$Setup", 32, "router"), ("EarlyDrops$Setup", 63, "limits"), ("EarlyDrops$Setup", 74, "top"), ("EarlyDrops$Setup", 79, "weight"), ("EarlyDrops$Setup", 83, "gentle"), ("EarlyDrops$Setup", 87, "seed"), ("EarlyDrops$Setup", 92, "flow"), ("EarlyDrops$Reader", 83, ""), ("EarlyDrops$Setup", 126, "marks"), ("EarlyDrops$Script", 62, "tick"), ("EarlyDrops$Script", 68, "send"), ("EarlyDrops$Script", 70, "limits"), ("EarlyDrops$Script", 72, "top"), ("EarlyDrops$Script", 74, "weight"), ("EarlyDrops$Script", 76, "gentle"), ("EarlyDrops$Script", 78, "stop"), ("EarlyDrops$Script", 80, "start"), ("EarlyDrops$Script", 82, "again"), ("EarlyDrops", 330, "out of range"), ("EarlyDrops", 337, "none such"), ("EarlyDropsModel", 281, "router"), ("EarlyDropsModel", 261, "limits"), ("EarlyDropsModel", 265, "top"), ("EarlyDropsModel", 270, "weight"), ("EarlyDropsModel", 272, "gentle"), ("EarlyDropsModel", 274, "seed"), ("EarlyDropsModel", 276, "flow"), ("EarlyDropsModel", 249, "marks"), ("EarlyDropsModel", 301, "tick"), ("EarlyDropsModel", 303, "send"), ("EarlyDropsModel", 305, "stop"), ("EarlyDropsModel", 307, "start"), ("EarlyDropsModel", 309, "again"), ("java/lang/String", 7, "")]
def zch (s : String) : List Nat := s.toList.map Char.toNat
/-- THE HEAP HOLDS M -/
def zRep (G : zG) (M : zM) (H : Heap) : Prop := zGok G ∧ (∀ q : Nat, q < gz G → H[q]? = gb G q) ∧ gz G ≤ H.size ∧ (∀ s i : Nat, i < zcnt s → zhold G M s i H) ∧ (∃ v : Nat, zSB G M v H ∧ zPool G M (zx M v) H ∧ zCh G M H ∧ ∀ (n : Nat) (f : Nat → Int32), ¬ zmC M = some (v, n, f)) ∧ ∀ q ∈ zLits, zmT M (gl G q.1 q.2.1) = some (zch q.2.2)
/-- a static field that the start fixes, below the law's cells -/
def zZ (G : zG) (C n d : String) (v : Value) (U : State) : Prop := ∃ (cf : ClassId) (kf : Class) (fi : Nat) (f : Field) (a : Nat) (cell : Cell), U.fieldFound? C n d = some (cf, kf, fi, f) ∧ f.isStatic = true ∧ kf.init = .initialized ∧ kf.statics = some a ∧ gb G a = some cell ∧ cell.vm.isStatics = true ∧ cell.slots[f.slot]? = some v ∧ a < gz G
theorem zZ.moved {G : zG} {C n d : String} {v : Value} {u U : State} (hvm : u.vm.Alike U.vm) (h : zZ G C n d v u) : zZ G C n d v U := by
  obtain ⟨cf, kf, fi, f, a, cell, h1, h2, h3, h4, h5⟩ := h
  obtain ⟨k', hi', he⟩ := State.fieldFound?_setVm hvm h1
  exact ⟨cf, k', fi, f, a, cell, hi', h2, by rw [he]; exact h3, by rw [he]; exact h4, h5⟩
/-- a row of a hundred bytes -/
def zTab (G : zG) (t : Nat) (f : Nat → Int32) (U : State) : Prop := (∃ cell : Cell, gb G t = some cell ∧ U.isArrayOf cell .byte ∧ cell.vm ≠ .unknown ∧ 100 ≤ cell.slots.size ∧ ∀ j : Nat, j < 100 → cell.slots[j]? = some (.int (f j))) ∧ t < gz G
theorem zTab.moved {G : zG} {t : Nat} {f : Nat → Int32} {u U : State} (hvm : u.vm.Alike U.vm) (h : zTab G t f u) : zTab G t f U := by
  obtain ⟨⟨cell, h1, h2, h3⟩, h4⟩ := h
  exact ⟨⟨cell, h1, State.isArrayOf_alike hvm h2, h3⟩, h4⟩
def zNests : List (String × Nat × MethodName) := [("EarlyDrops", 9, yX4_init), ("EarlyDrops$Router", 19, yX3_init), ("EarlyDrops$Router", 26, yX0_init), ("EarlyDrops$Router", 31, yX1_init)]
/-- words that warm: private constructors of nest mates; and what no cast takes -/
def zNe (U : State) : Prop := (∀ q ∈ zNests, va_Nw (.methodLinkNest q.1 q.2.1 q.2.2 "EarlyDrops") U) ∧ va_Nc "java/lang/IllegalArgumentException" "java/lang/IndexOutOfBoundsException" U
theorem zNe.warm {u U : State} (hW : u.WarmedH U.vm) (h : zNe u) : zNe U := ⟨fun q hq => va_Nw.warmM hW (h.1 q hq), va_Nc.moved hW.alike h.2⟩
theorem zNe.same {u U : State} (hv : U.vm = u.vm) (h : zNe u) : zNe U := ⟨fun q hq => va_Nw.same rfl hv.symm (h.1 q hq), va_Nc.moved (by rw [hv]; exact Vm.Alike.refl _) h.2⟩
def zSt (G : zG) (U : State) : Prop := zZ G "java/lang/String" "COMPACT_STRINGS" "Z" (.int 1) U ∧ (zZ G "jdk/internal/util/Preconditions" "SIOOBE_FORMATTER" "Ljava/util/function/BiFunction;" .null U ∨ ∃ t : Nat, zZ G "jdk/internal/util/Preconditions" "SIOOBE_FORMATTER" "Ljava/util/function/BiFunction;" (.ref t) U) ∧
  gy G (gA G 4) ∧ (va_AO "EarlyDrops$Flow" U ∧ va_AO "EarlyDrops$Router" U ∧ zNe U) ∧ (∃ t : Nat, zZ G "java/lang/Integer" "DigitOnes" "[B" (.ref t) U ∧ zTab G t (fun j => nI (48 + j % 10)) U) ∧ ∃ t : Nat, zZ G "java/lang/Integer" "DigitTens" "[B" (.ref t) U ∧ zTab G t (fun j => nI (48 + j / 10)) U
theorem zSt.moved {G : zG} {u U : State} (hvm : u.vm.Alike U.vm) (hN : zNe U) (h : zSt G u) : zSt G U := by
  obtain ⟨h1, h2, h0, ⟨o1, o2, -⟩, ⟨t3, h3, h4⟩, t5, h5, h6⟩ := h
  exact ⟨h1.moved hvm, h2.elim (fun h => Or.inl (h.moved hvm)) (fun ⟨t, h⟩ => Or.inr ⟨t, h.moved hvm⟩), h0, ⟨o1.moved hvm, o2.moved hvm, hN⟩, ⟨t3, h3.moved hvm, h4.moved hvm⟩, t5, h5.moved hvm, h6.moved hvm⟩
/-- what the tables of a state must say (they may grow warmer) -/
def zTb (G : zG) (U : State) : Prop := va_K (gD G) vwCl (zTys G) U ∧ (∀ q ∈ zLits, vk_R q.1 q.2.1 q.2.2 (gl G q.1 q.2.1) U) ∧ (∀ c, gy G c → ∃ (k : Class) (comp : ClassId), U.vm.classes[c]? = some k ∧ k.kind = .array comp .byte) ∧
  (∃ scr : Cell, gb G (ga G 52 0) = some scr ∧ U.isArrayOf scr .int ∧ scr.vm ≠ .unknown ∧ scr.slots.size = gn G ∧ ∀ j : Nat, j < gn G → scr.slots[j]? = some (.int (gs G j))) ∧ ga G 52 0 < gz G ∧ zSt G U
/-- words of a throw that lie in the tables and outlive a warming -/
def zFace : List Cond := [.declares { cls := "java/lang/RuntimeException", name := "<init>", desc := "(Ljava/lang/String;)V" }, .declares { cls := "java/lang/Exception", name := "<init>", desc := "(Ljava/lang/String;)V" }, .declares { cls := "java/lang/Throwable", name := "<init>", desc := "(Ljava/lang/String;)V" }, .castable "java/lang/IllegalArgumentException" "java/lang/IllegalArgumentException", .castable "java/lang/IndexOutOfBoundsException" "java/lang/IndexOutOfBoundsException", .privateMethod ⟨"java/lang/AbstractStringBuilder", "ensureCapacityInternal", "(I)V"⟩, .privateMethod ⟨"java/lang/AbstractStringBuilder", "newCapacity", "(I)I"⟩, .privateMethod ⟨"java/lang/AbstractStringBuilder", "putStringAt", "(ILjava/lang/String;)V"⟩, .privateMethod ⟨"java/lang/AbstractStringBuilder", "inflateIfNeededFor", "(Ljava/lang/String;)V"⟩]
theorem zFace_ok : ∀ w ∈ zFace, w.faceAtom = true ∧ w.onTables = true := by decide
theorem zFace_moved {u U : State} (hvm : u.vm.Alike U.vm) (h : ∀ w ∈ zFace, ∀ a, w.before a u = true) : ∀ w ∈ zFace, ∀ a, w.before a U = true := by
  intro w hw a
  obtain ⟨f1, f2⟩ := zFace_ok w hw
  exact va_tabs f2 (u := u.setVm U.vm) (U := U) rfl (Cond.faceAtom_setVm hvm w f1 (h w hw a))
/-- the two statics that a throw reads -/
def zTh (G : zG) (U : State) (H : Heap) : Prop := vx_Zq Bundle.tN "UNASSIGNED_STACK" Bundle.steD (fun q => gz G ≤ q) U H ∧ vx_Zq Bundle.tN "SUPPRESSED_SENTINEL" Bundle.listD (fun q => gz G ≤ q) U H ∧ ∀ w ∈ zFace, ∀ a, w.before a U = true
def zKn (G : zG) (U : State) (H : Heap) : Prop := zTb G U ∧ zTh G U H
theorem zTb.warm {G : zG} {u U : State} (hW : u.WarmedH U.vm) (h : zTb G u) : zTb G U := by
  obtain ⟨h1, h2, h3, ⟨scr, g1, g2, g3⟩, h5, h6⟩ := h
  refine ⟨va_K.moved hW.alike h1, fun q hq => vk_R.warm hW (h2 q hq), fun c hc => ?_, ⟨scr, g1, State.isArrayOf_alike hW.alike g2, g3⟩, h5, h6.moved hW.alike (h6.2.2.2.1.2.2.warm hW)⟩
  obtain ⟨k, comp, h4, h7⟩ := h3 c hc
  obtain ⟨k', hk', he⟩ := hW.alike.2.2 _ _ h4
  exact ⟨k', comp, hk', by rw [he]; exact h7⟩
theorem zTb.same {G : zG} {u U : State} (hv : U.vm = u.vm) (h : zTb G u) : zTb G U := by
  obtain ⟨h1, h2, h3, ⟨scr, g1, g2, g3⟩, h5, h6⟩ := h
  have ha : u.vm.Alike U.vm := by rw [hv]; exact Vm.Alike.refl _
  refine ⟨va_K.moved ha h1, fun q hq => vk_R.same hv (h2 q hq), fun c hc => ?_, ⟨scr, g1, State.isArrayOf_alike ha g2, g3⟩, h5, h6.moved ha (h6.2.2.2.1.2.2.same hv)⟩
  rw [hv]
  exact h3 c hc
theorem zTh.moved {G : zG} {u U : State} {H : Heap} (hvm : u.vm.Alike U.vm) (h : zTh G u H) : zTh G U H := ⟨vx_Zq.moved hvm h.1, vx_Zq.moved hvm h.2.1, zFace_moved hvm h.2.2⟩
theorem zTh.kept {G : zG} {U : State} {H H1 : Heap} (h : zTh G U H) (hb : ∀ q : Nat, q < gz G → H[q]? = gb G q) (hb1 : ∀ q : Nat, q < gz G → H1[q]? = gb G q) : zTh G U H1 := by
  have hq : ∀ a : Nat, a < H.size → ¬ gz G ≤ a → H1[a]? = H[a]? := fun a _ h2 => by
    have h3 : a < gz G := Nat.not_le.mp h2
    rw [hb1 a h3, hb a h3]
  exact ⟨vx_Zq.kept h.1 hq, vx_Zq.kept h.2.1 hq, h.2.2⟩
def zok (v : zV) : Prop := match v with
  | .inl _ => True
  | .inr q => q.2 < zcnt q.1
abbrev tr (G : zG) (v : zV) : Value := match v with
  | .inl x => x
  | .inr q => .ref (ga G q.1 q.2)
abbrev trq (G : zG) (q : Nat × zV) : Nat × Value := (q.1, tr G q.2)
/-- a method: its name, code, locals, answer's type, how deep its calls go -/
abbrev zY : Type := MethodName × ByteArray × Nat × Option FieldType × Nat × List (Nat × Nat × Nat × Nat)
abbrev zyN (Y : zY) : MethodName := Y.1
abbrev zyC (Y : zY) : ByteArray := Y.2.1
abbrev zyL (Y : zY) : Nat := Y.2.2.1
abbrev zyR (Y : zY) : Option FieldType := Y.2.2.2.1
abbrev zyd (Y : zY) : Nat := Y.2.2.2.2.1
abbrev zyT (Y : zY) : List (Nat × Nat × Nat × Nat) := Y.2.2.2.2.2
abbrev zyO (Y : zY) : String := Y.1.cls
def zRoom (d mc ms : Nat) : Room := { frames := d, cells := mc, slots := ms, locals := 60 * d }
/-- the words that every method has -/
def zAll : List Cond := lw_tbl.filter goodWord
abbrev zws (Y : zY) : List Cond := Cond.code (zyN Y) (zyC Y) (zyL Y) (zyR Y) :: zAll
theorem zin {w : Cond} (i : Nat) (h : lw_tbl[i]? = some w) (hg : goodWord w = true) : w ∈ zAll := List.mem_filter.mpr ⟨List.mem_of_getElem? h, hg⟩
/-- what may be written: not the two rows that the law itself holds the answers in -/
abbrev zfr (G : zG) : Addr → Prop := fun q => gz G ≤ q ∧ q ≠ ga G 50 0 ∧ q ≠ ga G 51 0
def zPre (G : zG) (M : zM) : State → Prop := fun U => zKn G U U.heap ∧ zRep G M U.heap
/-- what a method comes to: what it answers; what it throws (where it may) -/
abbrev zK : Type := (Option zV → zM → Prop) × Option (String → zM → Prop)
def zPost (G : zG) (K : Option zV → zM → Prop) : Array Value → State → Outcome → State → Prop := fun _ _ o t => ∃ (r : Option zV) (M' : zM), o = .returned (r.map (tr G)) ∧ (∀ v ∈ r, zok v) ∧ K r M' ∧ zRep G M' t.heap
def zPostX (G : zG) (KX : String → zM → Prop) : String → State → State → Prop := fun E _ t => ∃ M' : zM, KX E M' ∧ zRep G M' t.heap
def zMet (l : Launch) (G : zG) (Y : zY) (mc ms : Nat) (av : List zV) (M : zM) (K : zK) : Prop := match K.2 with
  | none => Met l (zyN Y) (zws Y) (zRoom (zyd Y) mc ms) (va_Pc (av.map (tr G)) (zPre G M)) (zPost G K.1) mc ms (zfr G)
  | some KX => vx_Met l (zyN Y) (zws Y) (zRoom (zyd Y) mc ms) (va_Pc (av.map (tr G)) (zPre G M)) (zPost G K.1) (zPostX G KX) mc ms (zfr G)
/-- A CALL of Y on M with the values av: it comes back with K; it makes at most mc cells of ms slots -/
def zCal (l : Launch) (G : zG) (Y : zY) (mc ms : Nat) (av : List zV) (M : zM) (K : zK) : Prop := (∀ v ∈ av, zok v) → zMet l G Y mc ms av M K
/-- where a walk ends: the room, what must hold then -/
abbrev zE : Type := Room × (List Frame → State → Array Value → State → Prop)
def zEM (G : zG) (Y : zY) (mc ms : Nat) (K : zK) : zE := (zRoom (zyd Y) mc ms, fun below s args => match K.2 with
  | none => MQ below (zPost G K.1) args s mc ms (zfr G)
  | some KX => vx_MQ below (zPost G K.1) (zPostX G KX) args s mc ms (zfr G))
def zCtx (G : zG) (Y : zY) (p : Program) (s : State) (m : MethodId) (args : Array Value) (meth : Method) (c : Code) : Prop :=
  p.tables.exec = Jvm.exec ∧ c.code = zyC Y ∧ meth.sig.returnType = zyR Y ∧ c.maxLocals = zyL Y ∧ s.vm.findClass (zyO Y) = some m.cls ∧ (∀ w ∈ zAll, w.before args s = true) ∧ meth.locks = false ∧ zTb G s ∧ (zTh G s s.heap ∧ (∀ q : Nat, q < gz G → s.heap[q]? = gb G q) ∧ gz G ≤ s.heap.size) ∧ c.exceptionTable.toList = tableOf (zyT Y)
/-- AT pc of Y, with these locals, stack, memory, cells and slots made so far: the walk comes to its end -/
def zAt (l : Launch) (G : zG) (Y : zY) (E : zE) (pc : Nat) (lv : List (Nat × zV)) (st : List zV) (M : zM) (c k : Nat) : Prop :=
  ∀ (p : Program) (e : Env) (s : State) (m : MethodId) (args : Array Value) (below : List Frame) (meth : Method) (cd : Code) (H : Heap) (locs : List Loc) (ls : Array Slot), zCtx G Y p s m args meth cd → (∀ q ∈ lv, zok q.2) → (∀ v ∈ st, zok v) → zRep G M H → (∀ q ∈ locs, zfr G q.base) → lv_has ls (zyL Y) (lv.map (trq G)) →
    W p l e E.1 s m args below meth cd H locs c k (E.2 below s args) (F0 m pc ls (st.map (tr G)))
theorem zk1 {v : zV} {st : List zV} (h : ∀ x ∈ v :: st, zok x) : ∀ x ∈ st, zok x := fun x hx => h x (List.mem_cons_of_mem _ hx)
theorem zkc {v : zV} {st : List zV} (hv : zok v) (h : ∀ x ∈ st, zok x) : ∀ x ∈ v :: st, zok x := fun x hx => (List.mem_cons.mp hx).elim (fun e => e ▸ hv) (h x)
theorem zkh {v : zV} {st : List zV} (h : ∀ x ∈ v :: st, zok x) : zok v := h v List.mem_cons_self
theorem zlv_at {G : zG} {ls : Array Slot} {n : Nat} {lv : List (Nat × zV)} (h : lv_has ls n (lv.map (trq G))) {i k : Nat} {v : zV} (hq : lv[k]? = some (i, v)) : ls[i]? = some (.val (tr G v)) :=
  lv_at h k (by rw [List.getElem?_map, hq]; rfl)
theorem zlv_ok {lv : List (Nat × zV)} (h : ∀ q ∈ lv, zok q.2) {i k : Nat} {v : zV} (hq : lv[k]? = some (i, v)) : zok v := h (i, v) (List.mem_of_getElem? hq)
def zcat (v : zV) : Nat := match v with
  | .inl x => x.category
  | .inr _ => 1
theorem zcat_tr (G : zG) (v : zV) : (tr G v).category = zcat v := by
  cases v with
  | inl x => rfl
  | inr q => rfl
abbrev zf1 (i : Nat) (lv : List (Nat × zV)) : List (Nat × zV) := lv.filter (fun q => !(q.1 == i) && !(q.1 + 1 == i && zcat q.2 == 2))
abbrev zf2 (i : Nat) (lv : List (Nat × zV)) : List (Nat × zV) := lv.filter (fun q => !(q.1 == i) && (!(q.1 == i + 1) && !(q.1 + 1 == i && zcat q.2 == 2)))
theorem zf1_map (G : zG) (i : Nat) (lv : List (Nat × zV)) : (lv.map (trq G)).filter (fun q => !(q.1 == i) && !(q.1 + 1 == i && q.2.category == 2)) = (zf1 i lv).map (trq G) := by
  rw [List.filter_map]
  congr 1
  apply List.filter_congr
  intro q _
  simp only [Function.comp, trq, zcat_tr]
theorem zf2_map (G : zG) (i : Nat) (lv : List (Nat × zV)) : (lv.map (trq G)).filter (fun q => !(q.1 == i) && (!(q.1 == i + 1) && !(q.1 + 1 == i && q.2.category == 2))) = (zf2 i lv).map (trq G) := by
  rw [List.filter_map]
  congr 1
  apply List.filter_congr
  intro q _
  simp only [Function.comp, trq, zcat_tr]
theorem zlv_put {lv lv' : List (Nat × zV)} {i : Nat} {v : zV} {f : Nat × zV → Bool} (h : ∀ q ∈ lv, zok q.2) (hv : zok v) (e : (i, v) :: lv.filter f = lv') : ∀ q ∈ lv', zok q.2 := by
  subst e
  intro q hq
  rcases List.mem_cons.mp hq with e | e
  · rw [e]; exact hv
  · exact h q (List.mem_filter.mp e).1

