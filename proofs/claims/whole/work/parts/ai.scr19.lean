/-! SCRIPTS: all rows done, the reference -/
section
variable {l : Launch} {G : zG} {M M0 Mz M' : zM} {A : Nat} {w w' : Nat → Int32} {n told L k a : Nat} {sk r : List Nat} {st : Nat → List Nat} {o f z : Nat → Int32}
/-- what doing a script may change in the reference -/
def vFr (M M' : zM) : Prop := (∀ s i, ¬ (s = 31 ∨ s = 42 ∨ s = 43) → M'.1 s i = M.1 s i) ∧ M'.2 = M.2
theorem vFr.I (h : vFr M0 M) {s i : Nat} {g : Nat → Int32} (hs : s = 31 ∨ s = 42 ∨ s = 43) : vFr M0 (zsIr M s i g) :=
  ⟨fun s' i' q => (zsIo _ _ _ _ _ _ (by omega)).trans (h.1 s' i' q), h.2⟩
theorem R_runLoop {R : Nat × (Nat → Int32)} {Kf : Int32 → zM → Prop} (hJ : YJ n told L [] st o f z) (hY : UR told L [] o f z M0) (h8 : zmI M0 30 0 8 = 0) (hA : A ≤ 299000000)
    (hK : ∀ M', vFr M0 M' → zmI M' 31 0 = R.2 → Kf (nI R.1) M') :
    ∀ (d k : Nat) (ls : List Nat) (dn : Nat) (w : Nat → Int32) (M : zM), k ≤ L → ph z L k (st k) ls < d → bgn (zmI M 42 0) (zmI M 43 0) (st k) ls → (∀ l, l ∈ ls → 1 ≤ l ∧ l ≤ 20) → zmI M 31 0 = w → OK w n (A + 2700 * dn) (9 * (w 7).toInt.toNat) 9999 → dn ≤ 40 → vFr M0 M → q_run L o f z d k ls dn w = R →
      zAt l G Y_X9_runs (zEI G Y_X9_runs Kf) 6 [(0, vr 30 0), (1, vi (nI dn)), (2, vi (nI (st k).length)), (3, vi (nI k))] [] M 0 0 := by
  have hcn := hJ.cnt
  have htl := hJ.tol
  have hL : L ≤ 60 := by
    have : ([] : List Nat).length = 0 := rfl
    omega
  intro d
  induction d with
  | zero => intro k ls dn w M _ h; exact absurd h (Nat.not_lt_zero _)
  | succ d ih =>
    intro k ls dn w M hkL hph hrn hls hw hO hdn hx hq
    have hn := hO.nf
    have e30 : zmI M 30 0 = zmI M0 30 0 := hx.1 30 0 (by omega)
    have e4 : zmI M 30 0 25 = nI L := by rw [e30]; exact hY.len
    have e8 : zmI M 30 0 8 = 0 := by rw [e30]; exact h8
    have e38 : zmI M 38 0 = zmI M0 38 0 := hx.1 38 0 (by omega)
    have e39 : zmI M 39 0 = zmI M0 39 0 := hx.1 39 0 (by omega)
    have e40 : zmI M 40 0 = zmI M0 40 0 := hx.1 40 0 (by omega)
    have e41 : zmI M 41 0 = zmI M0 41 0 := hx.1 41 0 (by omega)
    have dnI : (nI dn).toInt = dn := ti_nI (by omega)
    have kI : (nI k).toInt = k := ti_nI (by omega)
    have hlen := hrn.len
    have stop : L ≤ k ∨ 40 ≤ dn → Kf (nI dn) M := fun g => by
      have e : (dn, w) = R := by rw [← hq]; exact (if_pos g).symm
      have := hK M hx (by rw [← e]; exact hw)
      rw [← e] at this
      exact this
    refine zb_X9_runs_6 ⟨fun g => ?_, fun g => ⟨fun g2 => ?_, fun g2 => ?_⟩⟩
    · rw [e4, ti_le, kI, ti_nI (by omega)] at g
      exact stop (.inl (by omega))
    · rw [ti_le, dnI, show (40 : Int32).toInt = 40 from rfl] at g2
      exact stop (.inr (by omega))
    rw [e4, ti_le, kI, ti_nI (by omega)] at g
    rw [ti_le, dnI, show (40 : Int32).toInt = 40 from rfl] at g2
    have hk : k < L := by omega
    have hd40 : dn < 40 := by omega
    have r5 : zmI M 38 0 k = o k := by rw [e38]; exact (hY.row k hk).1
    have r6 : ¬ o k = 9 → zmI M 39 0 k = f k := by rw [e39]; exact (hY.row k hk).2.1
    have r7 : ¬ o k = 8 → ¬ o k = 9 → zmI M 40 0 k = z k := by rw [e40]; exact (hY.row k hk).2.2
    have ik : vp_in (nI k) 64 := ti_in (by omega)
    -- one step on
    have nx : ∀ (k' : Nat) (ls' : List Nat) (dn' : Nat) (w' : Nat → Int32) (M' : zM) (u v : Int32), v + 1 = nI k' → u = nI (st k').length → k' ≤ L → ph z L k' (st k') ls' + 1 ≤ ph z L k (st k) ls → bgn (zmI M' 42 0) (zmI M' 43 0) (st k') ls' → (∀ l, l ∈ ls' → 1 ≤ l ∧ l ≤ 20) → zmI M' 31 0 = w' → OK w' n (A + 2700 * dn') (9 * (w' 7).toInt.toNat) 9999 → dn' ≤ 40 → vFr M0 M' → q_run L o f z d k' ls' dn' w' = R → zAt l G Y_X9_runs (zEI G Y_X9_runs Kf) 151 [(0, vr 30 0), (1, vi (nI dn')), (2, vi u), (3, vi v)] [] M' 0 0 := fun k' ls' dn' w' M' u v e e' a1 a2 a3 a4 a5 a6 a7 a8 a9 => by
      subst e'
      refine zb_X9_runs_151 ?_
      rw [e]
      exact ih k' ls' dn' w' M' a1 (by omega) a3 a4 a5 a6 a7 a8 a9
    have qs : ∀ {X : Nat × (Nat → Int32)}, (if o k = 8 then (if f k = 0 then q_run L o f z d (cz z k + 1) ls dn w else q_run L o f z d (k + 1) ((f k).toInt.toNat :: ls) dn w) else if o k = 9 then (if 1 < ls.headD 0 then q_run L o f z d ((f k).toInt.toNat + 1) ((ls.headD 0 - 1) :: ls.tail) dn w else q_run L o f z d (k + 1) ls.tail dn w) else match q_do w (o k) (f k) (z k) with
      | some w' => q_run L o f z d (k + 1) ls (dn + 1) w'
      | none => (dn, w)) = X → R = X := fun {X} e => by
      rw [← hq, ← e]
      exact if_neg (by omega)
    have k1 : nI k + 1 = nI (k + 1) := nI_ofT (ti_inc kI (by omega))
    -- no row of rounds that are none
    have l50 : (o k = 8 → ¬ f k = 0) → zAt l G Y_X9_runs (zEI G Y_X9_runs Kf) 50 [(0, vr 30 0), (1, vi (nI dn)), (2, vi (nI (st k).length)), (3, vi (nI k))] [] M 0 0 := fun h80 => by
      refine zb_X9_runs_50 ⟨ik, ?_⟩
      rw [ti_at kI, r5]
      refine ⟨fun n8 => ⟨ik, fun n9 => ?_, fun h9 => ?_⟩, fun h8' => ?_⟩
      · obtain ⟨p1, p2⟩ := hJ.plain hk n8 n9
        refine R_do (A := A + 2700 * dn) hO hw e8 (by omega) kI (by omega) r5 (r6 n9) (r7 n8 n9) p1 (fun v w' q1 q2 => ⟨fun _ => ?_, fun g' => ?_⟩) (fun v q1 q2 => ⟨fun g' => ?_, fun _ => ?_⟩)
        · have hO' := q_do_ok hO p1 (by omega) q1
          have e := qs (X := q_run L o f z d (k + 1) ls (dn + 1) w') (by rw [if_neg n8, if_neg n9, q1])
          rw [show nI dn + 1 = nI (dn + 1) from nI_ofT (ti_inc dnI (by omega))]
          refine nx (k + 1) ls (dn + 1) w' _ _ _ k1 (by rw [p2]) (by omega) ?_ ?_ hls (zmU _ _ _ _) (by rw [show A + 2700 * (dn + 1) = A + 2700 * dn + 2700 by omega]; exact hO') (by omega) (hx.I (by omega)) e.symm
          · rw [p2]
            refine ph_mono hlen (by omega) (by omega) fun a r e => ?_
            have := hJ.inn hL (k := k) hkL e
            omega
          · rw [p2, zmO _ _ _ _ _ _ (by omega), zmO _ _ _ _ _ _ (by omega)]
            exact hrn
        · exfalso
          rw [ti_le, ti_0] at g'
          omega
        · exfalso
          rw [ti_le, ti_0] at g'
          omega
        · have e := qs (X := (dn, w)) (by rw [if_neg n8, if_neg n9, q1])
          have := hK M hx (by rw [e]; exact hw)
          rw [e] at this
          exact this
      · obtain ⟨a, r, s1, s2, s3, s4, s5, s6, s7⟩ := hJ.shut hk h9
        have hrl : r.length + 1 ≤ 2 := by
          have := (hJ.again_ (k := a) (by omega) (hJ.stk k (by omega) a r s1).2.1).2.2.2
          rw [(hJ.stk k (by omega) a r s1).2.2] at this
          omega
        have el : (st k).length = r.length + 1 := by rw [s1]; rfl
        rw [s1] at hrn hph hlen
        cases ls with
        | nil => exact False.elim hrn
        | cons l ls =>
          obtain ⟨b1, b2, b3⟩ := hrn
          have hl := hls l List.mem_cons_self
          have aI : (nI a).toInt = a := ti_nI (by omega)
          have fa : (f k).toInt.toNat = a := by rw [s2, aI]; rfl
          have ecz : cz z a = k := cz_of s4 (by omega)
          have e1 : nI l - 1 = nI (l - 1) := nI_ofT (by rw [ti_sub (by rw [ti_nI (by omega), ti_1]; omega), ti_nI (by omega), ti_1]; omega)
          have d1 : nI (st k).length - 1 = nI r.length := nI_ofT (by rw [ti_sub (by rw [ti_nI (by omega), ti_1]; omega), ti_nI (by omega), ti_1]; omega)
          have d2 : nI (st k).length + (-1) = nI r.length := nI_ofT (by rw [ti_add (by rw [ti_nI (by omega), ti_n1]; omega), ti_nI (by omega), ti_n1]; omega)
          have rI : (nI r.length).toInt = r.length := ti_nI (by omega)
          have i2 : vp_in (nI r.length) 2 := ti_in (by omega)
          rw [d1, d2, ti_at rI, b2, e1, zmU, zup_self]
          have bg : ∀ v : Int32, bgn (zmI (zsI M 43 0 r.length v) 42 0) (zmI (zsI M 43 0 r.length v) 43 0) r ls := fun v => by
            rw [zmU, zmO _ _ _ _ _ _ (by omega)]
            exact b3.up2 (Nat.le_refl _)
          have w43 : ∀ v : Int32, zmI (zsI M 43 0 r.length v) 31 0 = w := fun v => by rw [zmO _ _ _ _ _ _ (by omega)]; exact hw
          refine ⟨i2, i2, i2, fun q => ?_, fun q => ⟨i2, ?_⟩⟩
          · rw [ti_le, ti_nI (by omega), ti_0] at q
            have e := qs (X := q_run L o f z d (k + 1) ls dn w) (by
              rw [if_neg n8, if_pos h9, if_neg (show ¬ 1 < (l :: ls).headD 0 from by show ¬ 1 < l; omega)]
              rfl)
            refine nx (k + 1) ls dn w _ _ _ k1 (by rw [s3]) (by omega) ?_ (by rw [s3]; exact bg _) (fun x hx => hls x (List.mem_cons_of_mem _ hx)) (w43 _) hO hdn (hx.I (by omega)) e.symm
            rw [s3, s1]
            have := ph_end (z := z) (L := L) (a := a) (r := r) (ls := ls) (l := l)
            rw [ecz] at this
            exact this
          · rw [ti_le, ti_nI (by omega), ti_0] at q
            have e := qs (X := q_run L o f z d (a + 1) ((l - 1) :: ls) dn w) (by
              rw [if_neg n8, if_pos h9, if_pos (show 1 < (l :: ls).headD 0 from by show 1 < l; omega), fa]
              rfl)
            have e42 : zmI (zsI M 43 0 r.length (nI (l - 1))) 42 0 r.length = nI a := by rw [zmO _ _ _ _ _ _ (by omega)]; exact b1
            rw [e42]
            refine nx (a + 1) ((l - 1) :: ls) dn w _ _ _ (nI_ofT (ti_inc aI (by omega))) (by rw [s6, s1]) (by omega) ?_ ?_ (fun x hx' => ?_) (w43 _) hO hdn (hx.I (by omega)) e.symm
            · rw [s6, s1]
              have := ph_more (z := z) (L := L) (a := a) (r := r) (ls := ls) (l := l) (by omega) (by rw [ecz]; omega)
              rw [ecz] at this
              exact this
            · rw [s6]
              exact ⟨e42, by rw [zmU, zup_self], bg _⟩
            · rcases List.mem_cons.mp hx' with g | g
              · rw [g]; omega
              · exact hls x (List.mem_cons_of_mem _ g)
      · obtain ⟨s1, s2, s3, s4⟩ := hJ.again_ hk h8'
        obtain ⟨c, c1, c2, c3, c4, c5⟩ := hJ.brack hk h8'
        have ecz : cz z k = c := cz_of c3 (by omega)
        have f0 := h80 h8'
        have fpos : 1 ≤ (f k).toInt := by
          rw [ti_eq, ti_0] at f0
          omega
        have sI : (nI (st k).length).toInt = (st k).length := ti_nI (by omega)
        have i2 : vp_in (nI (st k).length) 2 := ti_in (by omega)
        have inn : ∀ a r, st k = a :: r → c + 1 ≤ cz z a + 1 := fun a r e => by
          have q := hJ.inn hL (k := c + 1) (by omega) (a := a) (r := r) (by rw [c4]; exact e)
          omega
        refine ⟨i2, ik, i2, ?_⟩
        rw [ti_at sI]
        have e39' : zmI (zsI M 42 0 (st k).length (nI k)) 39 0 k = f k := by
          rw [zmO _ _ _ _ _ _ (by omega)]
          exact r6 (by rw [h8']; decide)
        rw [e39']
        have e := qs (X := q_run L o f z d (k + 1) ((f k).toInt.toNat :: ls) dn w) (by rw [if_pos h8', if_neg f0])
        have v42 : zmI (zsI (zsI M 42 0 (st k).length (nI k)) 43 0 (st k).length (f k)) 42 0 = zup (zmI M 42 0) (st k).length (nI k) := by
          rw [zmO _ _ _ _ _ _ (by omega), zmU]
        have v43 : zmI (zsI (zsI M 42 0 (st k).length (nI k)) 43 0 (st k).length (f k)) 43 0 = zup (zmI M 43 0) (st k).length (f k) := by
          rw [zmU, zmO _ _ _ _ _ _ (by omega)]
        refine nx (k + 1) ((f k).toInt.toNat :: ls) dn w _ _ _ k1 ?_ (by omega) ?_ ?_ (fun x hx' => ?_) ?_ hO hdn ((hx.I (by omega)).I (by omega)) e.symm
        · rw [s1]
          exact nI_ofT (ti_inc sI (by omega))
        · rw [s1]
          exact ph_open hlen s4 (by omega) (by omega) (fun a r e => by rw [ecz]; exact inn a r e) (by omega)
        · rw [s1, v42, v43]
          exact ⟨zup_self _ _ _, (zup_self _ _ _).trans (nI_ofT (nat_of s2)), hrn.up (Nat.le_refl _)⟩
        · rcases List.mem_cons.mp hx' with g | g
          · rw [g]; omega
          · exact hls x g
        · rw [zmO _ _ _ _ _ _ (by omega), zmO _ _ _ _ _ _ (by omega)]
          exact hw
    refine ⟨ik, ?_⟩
    rw [ti_at kI, r5]
    refine ⟨fun n8 => l50 fun g => absurd g n8, fun h8' => ⟨ik, ?_⟩⟩
    rw [r6 (by rw [h8']; decide)]
    refine ⟨fun f0 => l50 fun _ => f0, fun f0 => ⟨ik, ?_⟩⟩
    obtain ⟨c, c1, c2, c3, c4, c5⟩ := hJ.brack hk h8'
    have ecz : cz z k = c := cz_of c3 (by omega)
    have v41 : zmI M 41 0 k = nI c := by
      rw [e41]
      rcases hY.fin k hk h8' with q | ⟨c', q0, q1, q2⟩
      · exact absurd q List.not_mem_nil
      · rw [q2]
        rw [c3] at q1
        have := nI_inj (by omega) (by omega) q1
        rw [show c' = c by omega]
    rw [v41]
    have inn : ∀ a r, st k = a :: r → c + 1 ≤ cz z a + 1 := fun a r e => by
      have q := hJ.inn hL (k := c + 1) (by omega) (a := a) (r := r) (by rw [c4]; exact e)
      omega
    have e := qs (X := q_run L o f z d (c + 1) ls dn w) (by rw [if_pos h8', if_pos f0, ecz])
    exact nx (c + 1) ls dn w _ _ _ (nI_ofT (ti_inc (ti_nI (by omega)) (by omega))) (by rw [c4]) (by omega) (by rw [c4]; exact ph_mono hlen (by omega) (by omega) inn) (by rw [c4]; exact hrn) hls hw hO hdn hx e.symm
theorem R_runs {Kf : Int32 → zM → Prop} (hJ : YJ n told L [] st o f z) (hY : UR told L [] o f z M) (h8 : zmI M 30 0 8 = 0) (hA : A ≤ 299000000) (hw : zmI M 31 0 = w) (hO : OK w n A (9 * (w 7).toInt.toNat) 9999)
    (hK : ∀ M', vFr M M' → zmI M' 31 0 = (q_all L o f z w).2 → Kf (nI (q_all L o f z w).1) M') : zCalI l G Y_X9_runs 0 0 [vr 30 0] M Kf := by
  have hcn := hJ.cnt
  have htl := hJ.tol
  have h0 : ([] : List Nat).length = 0 := rfl
  have key := R_runLoop (l := l) (G := G) (R := q_all L o f z w) hJ hY h8 hA hK 30000 0 [] 0 w M (Nat.zero_le _) (by rw [hJ.st0, ph_n]; omega) (by rw [hJ.st0]; trivial) (fun l hl => absurd hl List.not_mem_nil) hw hO (by omega) ⟨fun _ _ _ => rfl, rfl⟩ rfl
  rw [hJ.st0] at key
  exact zm_X9_runs key
end
