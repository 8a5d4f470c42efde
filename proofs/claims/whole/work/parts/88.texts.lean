/-! TEXTS AND THE BUILDER, of the memory: what the JDK's methods make of it -/
section
variable {l : Launch} {G : zG} {M : zM} {A : Nat}
theorem zpool_at {H : Heap} (hR : zRep G M H) {a : Nat} {t : List Nat} (ht : zmT M a = some t) : ∃ v : Nat, zStrAt G a v t H := by
  obtain ⟨v, -, h2, -⟩ := hR.2.2.2.2.1
  obtain ⟨v2, h3, -⟩ := h2 a t ht
  exact ⟨v2, h3⟩
theorem C_len {a : Nat} {t : List Nat} {Kf : Int32 → zM → Prop} (ht : zmT M a = some t) (h : Kf (nI t.length) M) : zCalI l G Y_J0_length_8abf5 0 0 [va a] M Kf := by
  refine zCal_h fun H hR => ?_
  obtain ⟨v, hS⟩ := zpool_at hR ht
  obtain ⟨q1, q2⟩ := zStr_h hS
  exact hJ_length q1 q2 ⟨some (vi (nI t.length)), M, rfl, (fun v hv => by cases hv; trivial), ⟨_, rfl, h⟩, hR⟩
theorem C_chr {a i : Nat} {t : List Nat} {p : Int32} {Kf : Int32 → zM → Prop} (ht : zmT M a = some t) (hp : p.toInt = i) (hi : i < t.length) (h : t.getD i 0 < 256 → Kf (nI (t.getD i 0)) M) : zCalI l G Y_J0_charAt_5068e 0 0 [va a, vi p] M Kf := by
  refine zCal_h fun H hR => ?_
  obtain ⟨v, hS⟩ := zpool_at hR ht
  obtain ⟨q1, q2⟩ := zStr_h hS
  have hl : t.length ≤ 65536 := hS.2.2.2
  have hm : t.getD i 0 ∈ t := by rw [List.getD_eq_getElem?_getD, List.getElem?_eq_getElem hi]; exact List.getElem_mem hi
  have hc : t.getD i 0 < 256 := hS.2.2.1 _ hm
  obtain ⟨b1, b2, -⟩ := sb_byte _ hc
  have e1 : p.toNatClampNeg = i := ti_at hp
  have e2 : ((sb_b (t.getD p.toNatClampNeg 0) &&& 255).toUInt32 % 65536).toInt32 = nI (t.getD i 0) := by rw [e1, b1, b2]
  refine hJ_charAt (x := p) q1 q2 (fun z => ?_) ?_ (ti_in (by omega)) ?_ ?_
  · rw [ti_lt, ti_0] at z
    omega
  · rw [ti_lt, ti_nI (by omega)]
    omega
  · show narrow .char (.int ((sb_b (t.getD p.toNatClampNeg 0) &&& 255).toUInt32 % 65536).toInt32) = .int ((sb_b (t.getD p.toNatClampNeg 0) &&& 255).toUInt32 % 65536).toInt32
    rw [e2]
    exact (pk_charN (by omega)).1
  · refine ⟨some (vi (nI (t.getD i 0))), M, ?_, (fun v hv => by cases hv; trivial), ⟨_, rfl, h hc⟩, hR⟩
    show some (Value.int ((sb_b (t.getD p.toNatClampNeg 0) &&& 255).toUInt32 % 65536).toInt32) = _
    rw [e2]
    rfl
/-- the builder in the heap -/
theorem zSB_h {H : Heap} {v : Nat} (hG : zGok G) (h : zSB G M v H) : ∃ (ml : Int32) (f : Nat → Int32), hSB G H (ga G 14 0) v ml (zmB M).1.length (zmB M).2 f ∧ sb_Lat (fun j => (zmB M).1.getD j 0) (zmB M).1.length f := by
  obtain ⟨ml, f, h1, h2, h3, h4, h5, h6, h7, h8⟩ := h
  exact ⟨ml, f, ⟨⟨_, rfl, h1⟩, h2, ⟨hG.2 14 0 (by decide) (by decide), fun e => absurd (hG.1 14 0 50 0 (by decide) (by decide) e).1 (by decide), fun e => absurd (hG.1 14 0 51 0 (by decide) (by decide) e).1 (by decide)⟩, ⟨h8, h7 50 0 (by decide), h7 51 0 (by decide)⟩, fun e => h7 14 0 (by decide) e.symm, h3, h4, h5⟩, h6⟩
theorem C_blen {Kf : Int32 → zM → Prop} (h : Kf (nI (zmB M).1.length) M) : zCalI l G Y_J4_length_8abf5 0 0 [vr 14 0] M Kf := by
  refine zCal_h fun H hR => ?_
  obtain ⟨v, h1, -⟩ := hR.2.2.2.2.1
  obtain ⟨ml, f, s1, -⟩ := zSB_h hR.1 h1
  exact hJ_lengthB s1 ⟨some (vi _), M, rfl, (fun v hv => by cases hv; trivial), ⟨_, rfl, h⟩, hR⟩
theorem C_bchr {i : Nat} {p : Int32} {Kf : Int32 → zM → Prop} (hp : p.toInt = i) (hi : i < (zmB M).1.length) (h : Kf (nI ((zmB M).1.getD i 0)) M) : zCalI l G Y_J4_charAt_5068e 0 0 [vr 14 0, vi p] M Kf := by
  refine zCal_h fun H hR => ?_
  obtain ⟨v, h1, -⟩ := hR.2.2.2.2.1
  obtain ⟨ml, f, s1, s2⟩ := zSB_h hR.1 h1
  obtain rfl := nI_ofT hp
  obtain ⟨c1, c2⟩ := s2 i hi
  have c1 : (zmB M).1.getD i 0 < 256 := c1
  obtain ⟨b1, b2, -⟩ := sb_byte _ c1
  exact hJ_charAtB (c := (zmB M).1.getD i 0) s1 hi ⟨(pk_charN (by omega)).1, by rw [c2, b1, b2]⟩ ⟨some (vi _), M, rfl, (fun v hv => by cases hv; trivial), ⟨_, rfl, h⟩, hR⟩
theorem zcnt_big (s : Nat) (h : 53 ≤ s) : zcnt s = 0 := by
  unfold zcnt
  split <;> first | omega | rfl
theorem zsorts : ∀ s, s < 53 → 0 < zcnt s → s = 14 ∨ s = 52 ∨ (s = 50 ∨ s = 51) ∨ (zkd s).isSome = true := by decide
/-- every object lies on the heap -/
theorem zRep.lt {H : Heap} (hR : zRep G M H) (h52 : ga G 52 0 < gz G) (s i : Nat) (hi : i < zcnt s) : ga G s i < H.size := by
  have hs : s < 53 := Nat.not_le.mp fun h => by rw [zcnt_big s h] at hi; omega
  rcases zsorts s hs (by omega) with e | e | e5 | e
  · subst e
    have hi0 : i = 0 := by
      have : i < 1 := hi
      omega
    obtain ⟨v, ⟨ml, f, ⟨cl, b1, -⟩, -⟩, -⟩ := hR.2.2.2.2.1
    rw [hi0]
    exact (Array.getElem?_eq_some_iff.mp b1).1
  · subst e
    have hi0 : i = 0 := by
      have : i < 1 := hi
      omega
    rw [hi0]
    exact Nat.lt_of_lt_of_le h52 hR.2.2.1
  · have h0 := hR.2.2.2.1 s i hi
    have hk : zkd s = none := by rcases e5 with e | e <;> (rw [e]; rfl)
    unfold zhold at h0
    rw [hk] at h0
    exact h0 e5
  · have h0 := hR.2.2.2.1 s i hi
    unfold zhold at h0
    split at h0
    · next hk =>
      rw [hk] at e
      cases e
    · next ci hk =>
      obtain ⟨r, h1, cell, h2, h3⟩ := h0
      exact (Array.getElem?_eq_some_iff.mp h2).1
    · next t n hk => exact (Array.getElem?_eq_some_iff.mp h0).1
/-- the builder's object and bytes have changed -/
theorem zRep.sb {H H1 : Heap} {v v' m' : Nat} {ml' : Int32} {t' : List Nat} {f' : Nat → Int32} (hR : zRep G M H) (h52 : ga G 52 0 < gz G) (r4 : zSB G M v H) (r5 : zPool G M (zx M v) H) (r6 : zCh G M H) (r7 : ∀ (n : Nat) (f : Nat → Int32), ¬ zmC M = some (v, n, f))
    (z : H.size ≤ H1.size) (o : ∀ q, q < H.size → q ≠ ga G 14 0 → q ≠ v → H1[q]? = H[q]?) (hv : v' = v ∨ H.size ≤ v') (s : hSB G H1 (ga G 14 0) v' ml' t'.length m' f') (L : sb_Lat (fun j => t'.getD j 0) t'.length f') : zRep G (zsB M (t', m')) H1 := by
  have lt := hR.lt h52
  obtain ⟨hG, r1, r2, r3, -, r8⟩ := hR
  obtain ⟨ml, f, b1, b2, b3, b4, b5, b6, b7, b8⟩ := r4
  have hbz := hG.2 14 0 (by decide) (by decide)
  have vfree : zfree G v' := by
    rcases hv with e | e
    · rw [e]; exact b7
    · intro s i hi e2
      have := lt s i hi
      omega
  refine ⟨hG, fun q hq => (o q (by omega) (by omega) (by omega)).trans (r1 q hq), by omega, fun s0 i hi => ?_, ⟨v', ?_, ?_, ?_, ?_⟩, r8⟩
  · by_cases h14 : s0 = 14
    · subst h14
      exact fun e => absurd e (by decide)
    · exact ((r3 s0 i hi).same (M' := zsB M (t', m')) rfl rfl rfl rfl).kept (o _ (lt s0 i hi) (fun e => h14 (hG.1 s0 i 14 0 hi (by decide) e).1) (fun e => b7 s0 i hi e.symm))
  · obtain ⟨⟨r, hr, hob⟩, s2, s3, s4, s5, s6, s7, s8⟩ := s
    have er : r = (RJ4, TJ4, 4) := Option.some.inj (hr.symm.trans rfl)
    subst er
    exact ⟨ml', f', hob, s2, s6, s7, s8, L, vfree, s4.1⟩
  · intro a t ht
    obtain ⟨v2, ⟨⟨c1, d1, d1'⟩, ⟨c2, d2, d2'⟩, d3⟩, fa, fv, na, nv⟩ := r5 a t ht
    have la := (Array.getElem?_eq_some_iff.mp d1).1
    have lv := (Array.getElem?_eq_some_iff.mp d2).1
    have ka := o a la (fun e => fa 14 0 (by decide) e) (fun e => na (Or.inl e))
    have kv := o v2 lv (fun e => fv 14 0 (by decide) e) (fun e => nv (Or.inl e))
    have nx : ∀ q, q < H.size → ¬ zx M v q → ¬ zx (zsB M (t', m')) v' q := fun q hq h1 h2 => by
      rcases h2 with h3 | h3
      · rcases hv with e | e
        · exact h1 (Or.inl (h3.trans e))
        · omega
      · exact h1 (Or.inr h3)
    exact ⟨v2, ⟨⟨c1, ka.trans d1, d1'⟩, ⟨c2, kv.trans d2, d2'⟩, d3⟩, fa, fv, nx a la na, nx v2 lv nv⟩
  · intro q n g hq
    obtain ⟨d1, d2, d3⟩ := r6 q n g hq
    exact ⟨(o q (Array.getElem?_eq_some_iff.mp d1).1 (fun e => d2 14 0 (by decide) e) (fun e => r7 n g (by rw [← e]; exact hq))).trans d1, d2, d3⟩
  · intro n g hq
    rcases hv with e | e
    · rw [e] at hq
      exact r7 n g hq
    · have := (Array.getElem?_eq_some_iff.mp (r6 v' n g hq).1).1
      omega
theorem zok14 : zok (vr 14 0) := show (0 : Nat) < 1 by decide
/-- a call of the other kind, with what the tables say -/
theorem zCal_h2 {Y : zY} {mc ms : Nat} {av : List zV} {Kf : Option zV → zM → Prop} (h : ∀ H : Heap, zRep G M H → ga G 52 0 < gz G → hCal l G Y mc ms (av.map (tr G)) H (fun r H' => ∃ (rz : Option zV) (M' : zM), r = rz.map (tr G) ∧ (∀ v ∈ rz, zok v) ∧ Kf rz M' ∧ zRep G M' H')) : zCal l G Y mc ms av M (Kf, none) := by
  intro hav
  show Met _ _ _ _ _ _ _ _ _
  intro p e ha hc hk s m args below hf happ hP hK
  obtain ⟨q0, q1, q2⟩ := hP
  have h0 := h s.heap q2 q1.1.2.2.2.2.1 p e ha hc hk s m args below hf happ ⟨q0, q1, rfl, hBase.of q2⟩ hK
  obtain ⟨n, o, h1, h2, h3, ⟨h4, h5⟩⟩ := h0
  obtain ⟨r, e1, ⟨rz, M', e2, e3, e4, e5⟩, -⟩ := h4
  exact ⟨n, o, h1, h2, h3, ⟨rz, M', by rw [e1, e2], e3, e4, e5⟩, h5⟩
theorem lat_app {t : List Nat} {f : Nat → Int32} {s : List Nat} {f' : Nat → Int32} (h : sb_Lat (fun j => t.getD j 0) t.length f) (h1 : ∀ j, j < t.length → f' j = f j) (h2 : ∀ i, i < s.length → s.getD i 0 < 256 ∧ f' (t.length + i) = sb_b (s.getD i 0)) : sb_Lat (fun j => (t ++ s).getD j 0) (t ++ s).length f' := by
  intro j hj
  rw [List.length_append] at hj
  show (t ++ s).getD j 0 < 256 ∧ f' j = sb_b ((t ++ s).getD j 0)
  by_cases c : j < t.length
  · have e : (t ++ s).getD j 0 = t.getD j 0 := by rw [List.getD_eq_getElem?_getD, List.getD_eq_getElem?_getD, List.getElem?_append_left c]
    rw [e, h1 j c]
    exact h j c
  · have e : (t ++ s).getD j 0 = s.getD (j - t.length) 0 := by rw [List.getD_eq_getElem?_getD, List.getD_eq_getElem?_getD, List.getElem?_append_right (by omega)]
    have h3 := h2 (j - t.length) (by omega)
    rw [show t.length + (j - t.length) = j by omega] at h3
    rw [e]
    exact h3
theorem C_bset {Kf : zM → Prop} (h : Kf (zsB M ([], (zmB M).2))) : zCalV l G Y_J4_setLength_d00df 0 0 [vr 14 0, vi 0] M Kf := by
  refine zCal_h2 fun H hR h52 => ?_
  obtain ⟨v, h1, h2, h3, h4⟩ := hR.2.2.2.2.1
  obtain ⟨ml, f, s1, s2⟩ := zSB_h hR.1 h1
  refine hJ_setLength s1 fun H1 ml' e1 e2 e3 => ⟨none, _, rfl, (fun v hv => by cases hv), ⟨rfl, h⟩, ?_⟩
  exact hR.sb h52 h1 h2 h3 h4 (Nat.le_of_eq e1.symm) (fun q q1 q2 q3 => e2 q q2) (Or.inl rfl) e3 (fun j hj => absurd hj (by simp))
theorem C_bapC {mc ms c : Nat} {p : Int32} {Kf : zI → zM → Prop} (hp : p.toInt = c) (hc : c < 256) (hr : sb_Room ((zmB M).1.length + 1) (zmB M).2 mc ms) (h : Kf (14, 0) (zsB M ((zmB M).1 ++ [c], sb_cap ((zmB M).1.length + 1) (zmB M).2))) : zCalR l G Y_J4_append_cf468 mc ms [vr 14 0, vi p] M Kf := by
  obtain rfl := nI_ofT hp
  refine zCal_h2 fun H hR h52 => ?_
  obtain ⟨v, h1, h2, h3, h4⟩ := hR.2.2.2.2.1
  obtain ⟨ml, f, s1, s2⟩ := zSB_h hR.1 h1
  refine hJ_appendC s1 hc hr fun H1 v' f' e1 e2 e3 e4 e5 e6 => ⟨some (vr 14 0), _, rfl, (fun v hv => by cases hv; exact zok14), ⟨_, rfl, h⟩, ?_⟩
  refine hR.sb h52 h1 h2 h3 h4 e1 e2 e3 (by rw [List.length_append]; exact e4) (lat_app s2 e5 fun i hi => ?_)
  have hi0 : i = 0 := by
    have : i < 1 := hi
    omega
  subst hi0
  exact ⟨hc, e6⟩
/-- the digits of a number -/
def decL (x : Nat) : List Nat := (List.range (sb_dg x)).map (sb_dec x)
theorem decL_len (x : Nat) : (decL x).length = sb_dg x := by simp [decL]
theorem decL_at {x i : Nat} (h : i < sb_dg x) : (decL x).getD i 0 = sb_dec x i := by
  unfold decL
  rw [List.getD_eq_getElem?_getD, List.getElem?_map, List.getElem?_range h]
  rfl
theorem C_bapI {mc ms x : Nat} {p : Int32} {Kf : zI → zM → Prop} (hp : p.toInt = x) (hr : sb_Room ((zmB M).1.length + sb_dg x) (zmB M).2 mc ms) (h : Kf (14, 0) (zsB M ((zmB M).1 ++ decL x, sb_cap ((zmB M).1.length + sb_dg x) (zmB M).2))) : zCalR l G Y_J4_append_bf812 mc ms [vr 14 0, vi p] M Kf := by
  have hx : x < 2 ^ 31 := by have := ti_rng p; omega
  obtain rfl := nI_ofT hp
  refine zCal_h2 fun H hR h52 => ?_
  obtain ⟨v, h1, h2, h3, h4⟩ := hR.2.2.2.2.1
  obtain ⟨ml, f, s1, s2⟩ := zSB_h hR.1 h1
  refine hJ_appendI s1 hx hr fun H1 v' f' e1 e2 e3 e4 e5 e6 => ⟨some (vr 14 0), _, rfl, (fun v hv => by cases hv; exact zok14), ⟨_, rfl, h⟩, ?_⟩
  refine hR.sb h52 h1 h2 h3 h4 e1 e2 e3 (by rw [List.length_append, decL_len]; exact e4) (lat_app s2 e5 fun i hi => ?_)
  rw [decL_len] at hi
  rw [decL_at hi]
  exact ⟨by unfold sb_dec; omega, e6 i hi⟩
theorem C_bapS {mc ms a : Nat} {t : List Nat} {Kf : zI → zM → Prop} (ht : zmT M a = some t) (hr : sb_Room ((zmB M).1.length + t.length) (zmB M).2 mc ms) (h : Kf (14, 0) (zsB M ((zmB M).1 ++ t, sb_cap ((zmB M).1.length + t.length) (zmB M).2))) : zCalR l G Y_J4_append_15ec4 mc ms [vr 14 0, va a] M Kf := by
  refine zCal_h2 fun H hR h52 => ?_
  obtain ⟨v, h1, h2, h3, h4⟩ := hR.2.2.2.2.1
  obtain ⟨ml, f, s1, s2⟩ := zSB_h hR.1 h1
  obtain ⟨v2, hS, fa, fv, -⟩ := h2 a t ht
  obtain ⟨q1, q2⟩ := zStr_h hS
  refine hJ_appendS s1 q1 q2 (fun j => sb_fitB _) (fa 14 0 (by decide)) (fv 14 0 (by decide)) hS.2.2.2 hr fun H1 v' f' e1 e2 e3 e4 e5 e6 => ⟨some (vr 14 0), _, rfl, (fun v hv => by cases hv; exact zok14), ⟨_, rfl, h⟩, ?_⟩
  refine hR.sb h52 h1 h2 h3 h4 e1 e2 e3 (by rw [List.length_append]; exact e4) (lat_app s2 e5 fun i hi => ⟨?_, e6 i hi⟩)
  refine hS.2.2.1 _ ?_
  rw [List.getD_eq_getElem?_getD, List.getElem?_eq_getElem hi]
  exact List.getElem_mem hi
end
