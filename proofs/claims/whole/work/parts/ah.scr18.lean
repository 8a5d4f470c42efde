/-! SCRIPTS: all rows done, the class -/
section
variable {l : Launch} {G : zG} {M M0 Mz M' : zM} {A : Nat} {w w' : Nat → Int32} {n told L k a : Nat} {sk r : List Nat} {st : Nat → List Nat} {o f z : Nat → Int32}
/-- what doing a script may change -/
def xFr (M M' : zM) : Prop := (∀ s i, ¬ inR 1 s i → ¬ s = 8 → M'.1 s i = M.1 s i) ∧ (∀ s i, ¬ inR 1 s i → M'.2.1 s i = M.2.1 s i) ∧ M'.2.2.1 = M.2.2.1 ∧ (∀ s i, ¬ inR 1 s i → M'.2.2.2.1 s i = M.2.2.2.1 s i) ∧ M'.2.2.2.2 = M.2.2.2.2
theorem xFr.refl (M : zM) : xFr M M := ⟨fun _ _ _ _ => rfl, fun _ _ _ => rfl, rfl, fun _ _ _ => rfl, rfl⟩
theorem xFr.zz (h : xFr M0 M) (g : zFr 1 M M') : xFr M0 M' :=
  ⟨fun s i a b => (g.1 s i a).trans (h.1 s i a b), fun s i a => (g.2.1 s i a).trans (h.2.1 s i a), g.2.2.1.trans h.2.2.1, fun s i a => (g.2.2.2.1 s i a).trans (h.2.2.2.1 s i a), g.2.2.2.2.trans h.2.2.2.2⟩
theorem xFr.v {g : Nat → Int32} (h : xFr M0 M) : xFr M0 (zsIr M 8 0 g) :=
  ⟨fun s i a b => (zsIo _ _ _ _ _ _ (by omega)).trans (h.1 s i a b), h.2.1, h.2.2.1, h.2.2.2.1, h.2.2.2.2⟩
theorem C_perf {R : Nat × (Nat → Int32)} {Kf : Int32 → zM → Prop} (hJ : YJ n told L [] st o f z) (hY : YR told L [] o f z M0) (hA : A ≤ 299000000)
    (hK : ∀ M' A', xFr M0 M' → Rel M' 1 R.2 true → OK R.2 n A' (9 * (R.2 7).toInt.toNat) 9999 → A' ≤ A + 108000 → R.1 ≤ 40 → Kf (nI R.1) M') :
    ∀ (d k : Nat) (ls : List Nat) (dn : Nat) (w : Nat → Int32) (M : zM) (y : Nat), k ≤ L → ph z L k (st k) ls < d → y + d ≤ 100000 → rnd (zmI M 8 0) (st k) ls → (∀ l, l ∈ ls → 1 ≤ l ∧ l ≤ 20) → Rel M 1 w true → OK w n (A + 2700 * dn) (9 * (w 7).toInt.toNat) 9999 → dn ≤ 40 → xFr M0 M → q_run L o f z d k ls dn w = R →
      zAt l G Y_X6_perform (zEI G Y_X6_perform Kf) 6 [(0, vr 4 0), (1, vi (nI dn)), (2, vi (nI k)), (3, vi (nI y))] [] M 0 0 := by
  have hcn := hJ.cnt
  have htl := hJ.tol
  have hL : L ≤ 60 := by
    have : ([] : List Nat).length = 0 := rfl
    omega
  intro d
  induction d with
  | zero => intro k ls dn w M y _ h; exact absurd h (Nat.not_lt_zero _)
  | succ d ih =>
    intro k ls dn w M y hkL hph hyd hrn hls hR hO hdn hx hq
    have hn := hO.nf
    have e4 : zmI M 4 0 7 = nI L := by
      show M.1 4 0 7 = _
      rw [hx.1 4 0 (by unfold inR; omega) (by omega)]
      exact hY.len
    have erow : ∀ j, j < L → zmI M 5 0 j = o j ∧ zmI M 6 0 j = f j ∧ zmI M 7 0 j = z j := fun j hj => by
      have q := hY.row j hj
      refine ⟨?_, ?_, ?_⟩
      · show M.1 5 0 j = _
        rw [hx.1 5 0 (by unfold inR; omega) (by omega)]; exact q.1
      · show M.1 6 0 j = _
        rw [hx.1 6 0 (by unfold inR; omega) (by omega)]; exact q.2.1
      · show M.1 7 0 j = _
        rw [hx.1 7 0 (by unfold inR; omega) (by omega)]; exact q.2.2
    have dnI : (nI dn).toInt = dn := ti_nI (by omega)
    have kI : (nI k).toInt = k := ti_nI (by omega)
    have yI : (nI y).toInt = y := ti_nI (by omega)
    have hlen := hrn.len
    have stop : L ≤ k ∨ 40 ≤ dn → Kf (nI dn) M := fun g => by
      have e : (dn, w) = R := by rw [← hq]; exact (if_pos g).symm
      have := hK M (A + 2700 * dn) hx (by rw [← e]; exact hR) (by rw [← e]; exact hO) (by omega) (by rw [← e]; exact hdn)
      rw [← e] at this
      exact this
    refine zb_X6_perform_6 ⟨fun g => ?_, fun _ => ⟨fun g => ?_, fun _ => ⟨fun g => ?_, fun g => ⟨fun g2 => ?_, fun g2 => ⟨?_, ?_⟩⟩⟩⟩⟩
    · rw [ti_le, yI, show (1000000 : Int32).toInt = 1000000 from rfl] at g
      omega
    · rw [ti_lt, kI, ti_0] at g
      omega
    · rw [e4, ti_le, kI, ti_nI (by omega)] at g
      exact stop (.inl (by omega))
    · rw [ti_le, dnI, show (40 : Int32).toInt = 40 from rfl] at g2
      exact stop (.inr (by omega))
    · rw [e4, ti_le, kI, ti_nI (by omega)] at g
      exact ti_in (by omega)
    rw [e4, ti_le, kI, ti_nI (by omega)] at g
    rw [ti_le, dnI, show (40 : Int32).toInt = 40 from rfl] at g2
    have hk : k < L := by omega
    have hd40 : dn < 40 := by omega
    obtain ⟨r5, r6, r7⟩ := erow k hk
    rw [ti_at kI, r5]
    have ik : vp_in (nI k) 60 := ti_in (by omega)
    -- one step on
    have nx : ∀ (k' : Nat) (ls' : List Nat) (dn' : Nat) (w' : Nat → Int32) (M' : zM) (v : Int32), v = nI k' → k' ≤ L → ph z L k' (st k') ls' + 1 ≤ ph z L k (st k) ls → rnd (zmI M' 8 0) (st k') ls' → (∀ l, l ∈ ls' → 1 ≤ l ∧ l ≤ 20) → Rel M' 1 w' true → OK w' n (A + 2700 * dn') (9 * (w' 7).toInt.toNat) 9999 → dn' ≤ 40 → xFr M0 M' → q_run L o f z d k' ls' dn' w' = R → zAt l G Y_X6_perform (zEI G Y_X6_perform Kf) 77 [(0, vr 4 0), (1, vi (nI dn')), (2, vi v), (3, vi (nI y))] [] M' 0 0 := fun k' ls' dn' w' M' v e a1 a2 a3 a4 a5 a6 a7 a8 a9 => by
      subst e
      refine zb_X6_perform_77 ?_
      rw [show nI y + 1 = nI (y + 1) from nI_ofT (ti_inc yI (by omega))]
      exact ih k' ls' dn' w' M' (y + 1) a1 (by omega) (by omega) a3 a4 a5 a6 a7 a8 a9
    have rel8 : ∀ g : Nat → Int32, Rel (zsIr M 8 0 g) 1 w true := fun g => hR.kept (by omega) (fun s i hi => zsIo _ _ _ _ _ _ (by unfold inR at hi; omega)) (fun _ _ _ => rfl) (fun _ _ _ => rfl) (fun _ _ q => q)
    have qs : ∀ {X : Nat × (Nat → Int32)}, (if o k = 8 then (if f k = 0 then q_run L o f z d (cz z k + 1) ls dn w else q_run L o f z d (k + 1) ((f k).toInt.toNat :: ls) dn w) else if o k = 9 then (if 1 < ls.headD 0 then q_run L o f z d ((f k).toInt.toNat + 1) ((ls.headD 0 - 1) :: ls.tail) dn w else q_run L o f z d (k + 1) ls.tail dn w) else match q_do w (o k) (f k) (z k) with
      | some w' => q_run L o f z d (k + 1) ls (dn + 1) w'
      | none => (dn, w)) = X → R = X := fun {X} e => by
      rw [← hq, ← e]
      exact if_neg (by omega)
    -- a bracket's rows
    have l52 : o k = 8 ∨ o k = 9 → zAt l G Y_X6_perform (zEI G Y_X6_perform Kf) 52 [(0, vr 4 0), (1, vi (nI dn)), (2, vi (nI k)), (3, vi (nI y))] [] M 0 0 := fun h89 => by
      refine zb_X6_perform_52 (zm_X6_rowBehind ⟨ik, ?_⟩)
      rw [ti_at kI, r5, r6]
      refine ⟨fun n8 => ⟨ik, ?_⟩, fun h8 => ⟨ik, ik, ik, ?_⟩⟩
      · have h9 : o k = 9 := h89.resolve_left n8
        obtain ⟨a, r, s1, s2, s3, s4, s5, s6, s7⟩ := hJ.shut hk h9
        rw [s1] at hrn hlen hph
        cases ls with
        | nil => exact False.elim hrn
        | cons l ls =>
          obtain ⟨rn1, rn2⟩ := hrn
          have hl := hls l List.mem_cons_self
          have aI : (nI a).toInt = a := ti_nI (by omega)
          rw [s2]
          have ia : vp_in (nI a) 60 := ti_in (by omega)
          have fa : (f k).toInt.toNat = a := by rw [s2, aI]; rfl
          have ecz : cz z a = k := cz_of s4 (by omega)
          have e1 : nI l - 1 = nI (l - 1) := nI_ofT (by rw [ti_sub (by rw [ti_nI (by omega), ti_1]; omega), ti_nI (by omega), ti_1]; omega)
          refine ⟨fun q => ?_, fun _ => ⟨fun _ => ⟨ia, ia, ia, ?_⟩, fun q => ?_⟩⟩
          · rw [ti_lt, aI, ti_0] at q
            omega
          · rw [ti_at aI, rn1, e1, zmU, zup_self]
            have rn3 : ∀ v : Int32, rnd (zmI (zsI M 8 0 a v) 8 0) r ls := fun v => by
              rw [zmU]
              exact rn2.up s7
            refine ⟨fun q => ?_, fun q => ?_⟩
            · rw [ti_le, ti_nI (by omega), ti_0] at q
              have e := qs (X := q_run L o f z d (k + 1) ls dn w) (by
                rw [if_neg n8, if_pos h9, if_neg (show ¬ 1 < (l :: ls).headD 0 from by show ¬ 1 < l; omega)]
                rfl)
              refine nx (k + 1) ls dn w _ _ (nI_ofT (ti_inc kI (by omega))) (by omega) ?_ (by rw [s3]; exact rn3 _) (fun x hx => hls x (List.mem_cons_of_mem _ hx)) (rel8 _) hO hdn hx.v e.symm
              rw [s3, s1]
              have := ph_end (z := z) (L := L) (a := a) (r := r) (ls := ls) (l := l)
              rw [ecz] at this
              exact this
            · rw [ti_le, ti_nI (by omega), ti_0] at q
              have e := qs (X := q_run L o f z d (a + 1) ((l - 1) :: ls) dn w) (by
                rw [if_neg n8, if_pos h9, if_pos (show 1 < (l :: ls).headD 0 from by show 1 < l; omega), fa]
                rfl)
              refine nx (a + 1) ((l - 1) :: ls) dn w _ _ (nI_ofT (ti_inc aI (by omega))) (by omega) ?_ ?_ (fun x hx' => ?_) (rel8 _) hO hdn hx.v e.symm
              · rw [s6, s1]
                have := ph_more (z := z) (L := L) (a := a) (r := r) (ls := ls) (l := l) (by omega) (by rw [ecz]; omega)
                rw [ecz] at this
                exact this
              · rw [s6]
                exact ⟨by rw [zmU, zup_self], rn3 _⟩
              · rcases List.mem_cons.mp hx' with g | g
                · rw [g]; omega
                · exact hls x (List.mem_cons_of_mem _ g)
          · exfalso
            rw [ti_lt, aI, show (60 : Int32).toInt = 60 from rfl] at q
            omega
      · obtain ⟨s1, s2, s3, s4⟩ := hJ.again_ hk h8
        obtain ⟨c, c1, c2, c3, c4, c5⟩ := hJ.brack hk h8
        have ecz : cz z k = c := cz_of c3 (by omega)
        have kn : ¬ k ∈ st k := fun q => by
          have := hJ.lt (by omega) q
          omega
        have rn3 : ∀ v : Int32, rnd (zmI (zsI M 8 0 k v) 8 0) (st k) ls := fun v => by
          rw [zmU]
          exact hrn.up kn
        have inn : ∀ a r, st k = a :: r → c + 1 ≤ cz z a + 1 := fun a r e => by
          have q := hJ.inn hL (k := c + 1) (by omega) (a := a) (r := r) (by rw [c4]; exact e)
          omega
        rw [zmU, zup_self]
        refine ⟨fun q => ⟨ik, ?_⟩, fun q => ?_⟩
        · rw [ti_le, ti_0] at q
          have f0 : f k = 0 := ti_eq.mpr (by rw [ti_0]; omega)
          have e := qs (X := q_run L o f z d (c + 1) ls dn w) (by rw [if_pos h8, if_pos f0, ecz])
          have e7 : zmI (zsI M 8 0 k (f k)) 7 0 k = nI (c + 1) := by rw [zmO _ _ _ _ _ _ (by omega), r7, c3]
          rw [e7]
          exact nx (c + 1) ls dn w _ _ rfl (by omega) (by rw [c4]; exact ph_mono hlen (by omega) (by omega) inn) (by rw [c4]; exact rn3 _) hls (rel8 _) hO hdn hx.v e.symm
        · rw [ti_le, ti_0] at q
          have f0 : ¬ f k = 0 := fun e => by
            rw [e, ti_0] at q
            omega
          have e := qs (X := q_run L o f z d (k + 1) ((f k).toInt.toNat :: ls) dn w) (by rw [if_pos h8, if_neg f0])
          refine nx (k + 1) ((f k).toInt.toNat :: ls) dn w _ _ (nI_ofT (ti_inc kI (by omega))) (by omega) ?_ ?_ (fun x hx' => ?_) (rel8 _) hO hdn hx.v e.symm
          · rw [s1]
            exact ph_open hlen s4 (by omega) (by omega) (fun a r e => by rw [ecz]; exact inn a r e) (by omega)
          · rw [s1]
            refine ⟨?_, rn3 _⟩
            rw [zmU, zup_self]
            exact nI_ofT (nat_of s2)
          · rcases List.mem_cons.mp hx' with g | g
            · rw [g]; omega
            · exact hls x g
    refine ⟨fun h8 => l52 (.inl h8), fun n8 => ⟨ik, fun n9 => ?_, fun h9 => l52 (.inr h9)⟩⟩
    obtain ⟨p1, p2⟩ := hJ.plain hk n8 n9
    refine C_do (A := A + 2700 * dn) hO hR (by omega) kI (by omega) r5 r6 r7 p1 (fun v w' M' q1 q2 q3 q4 => ⟨fun _ => ?_, fun g' => ?_⟩) (fun v q1 q2 => ⟨fun g' => ?_, fun _ => ?_⟩)
    · have hO' := q_do_ok hO p1 (by omega) q1
      have e := qs (X := q_run L o f z d (k + 1) ls (dn + 1) w') (by rw [if_neg n8, if_neg n9, q1])
      rw [show nI dn + 1 = nI (dn + 1) from nI_ofT (ti_inc dnI (by omega))]
      refine nx (k + 1) ls (dn + 1) w' M' _ (nI_ofT (ti_inc kI (by omega))) (by omega) ?_ ?_ hls q4 (by rw [show A + 2700 * (dn + 1) = A + 2700 * dn + 2700 by omega]; exact hO') (by omega) (hx.zz q3) e.symm
      · rw [p2]
        refine ph_mono hlen (by omega) (by omega) fun a r e => ?_
        have := hJ.inn hL (k := k) hkL e
        omega
      · rw [p2, show zmI M' 8 0 = zmI M 8 0 from q3.1 8 0 (by unfold inR; omega)]
        exact hrn
    · exfalso
      rw [ti_le, ti_0] at g'
      omega
    · exfalso
      rw [ti_le, ti_0] at g'
      omega
    · have e := qs (X := (dn, w)) (by rw [if_neg n8, if_neg n9, q1])
      have := hK M (A + 2700 * dn) hx (by rw [e]; exact hR) (by rw [e]; exact hO) (by omega) (by rw [e]; exact hdn)
      rw [e] at this
      exact this
def q_all (L : Nat) (o f z w : Nat → Int32) : Nat × (Nat → Int32) := q_run L o f z 30000 0 [] 0 w
theorem C_perform {Kf : Int32 → zM → Prop} (hJ : YJ n told L [] st o f z) (hY : YR told L [] o f z M) (hA : A ≤ 299000000) (hR : Rel M 1 w true) (hO : OK w n A (9 * (w 7).toInt.toNat) 9999)
    (hK : ∀ M' A', xFr M M' → Rel M' 1 (q_all L o f z w).2 true → OK (q_all L o f z w).2 n A' (9 * ((q_all L o f z w).2 7).toInt.toNat) 9999 → A' ≤ A + 108000 → (q_all L o f z w).1 ≤ 40 → Kf (nI (q_all L o f z w).1) M') : zCalI l G Y_X6_perform 0 0 [vr 4 0] M Kf := by
  have hcn := hJ.cnt
  have htl := hJ.tol
  have h0 : ([] : List Nat).length = 0 := rfl
  refine zm_X6_perform (C_perf (R := q_all L o f z w) hJ hY hA hK 30000 0 [] 0 w M 0 (Nat.zero_le _) ?_ (by omega) ?_ (fun l hl => absurd hl List.not_mem_nil) hR hO (by omega) (xFr.refl M) rfl)
  · rw [hJ.st0, ph_n]
    omega
  · rw [hJ.st0]
    trivial
end
