/-! feed -/
def ag (F : Nat) (b c : Nat → Int32) : Prop := ∀ j, j < F → b j = c j ∧ 1 ≤ (c j).toInt ∧ (c j).toInt ≤ 255
theorem ag_fd {b c : Nat → Int32} {F : Nat} {v : Int32} (h : ag F b c) : ∀ k, ag (F + nbk v k) (fd b F v k) (fd c F v k)
  | 0 => h
  | k + 1 => by
    have ih := ag_fd (v := v) h k
    have e : nbk v (k + 1) = nbk v k + (if byt v k = 0 then 0 else 1) := rfl
    have eb : fd b F v (k + 1) = if byt v k = 0 then fd b F v k else zup (fd b F v k) (F + nbk v k) (byt v k) := rfl
    have ec : fd c F v (k + 1) = if byt v k = 0 then fd c F v k else zup (fd c F v k) (F + nbk v k) (byt v k) := rfl
    rw [e, eb, ec]
    by_cases c0 : byt v k = 0
    · rw [if_pos c0, if_pos c0, if_pos c0]
      exact ih
    · rw [if_neg c0, if_neg c0, if_neg c0]
      intro j hj
      by_cases hjk : j = F + nbk v k
      · rw [hjk, zup_self, zup_self]
        have h1 : 0 ≤ (byt v k).toInt ∧ (byt v k).toInt ≤ 255 := byt_rng _
        have h2 : (byt v k).toInt ≠ 0 := fun g => c0 (ti_eq.mpr (g.trans ti_0.symm))
        exact ⟨rfl, by omega, h1.2⟩
      · rw [zup_ne _ _ hjk, zup_ne _ _ hjk]
        exact ih j (by omega)
/-- what the class's takes have made of the memory -/
def Ct (M M' : zM) (F : Nat) (b : Nat → Int32) : Prop := (∀ s i, ¬ (s = 1 ∧ i = 0) → ¬ (s = 2 ∧ i = 0) → M'.1 s i = M.1 s i) ∧ M'.2 = M.2 ∧ (∀ k, k ≠ 1 → M'.1 1 0 k = M.1 1 0 k) ∧ M'.1 1 0 1 = nI F ∧ M'.1 2 0 = b
def Rt (M M' : zM) (F : Nat) (b : Nat → Int32) : Prop := (∀ s i, ¬ (s = 30 ∧ i = 0) → ¬ (s = 37 ∧ i = 0) → M'.1 s i = M.1 s i) ∧ M'.2 = M.2 ∧ (∀ k, k ≠ 10 → M'.1 30 0 k = M.1 30 0 k) ∧ M'.1 30 0 10 = nI F ∧ M'.1 37 0 = b
section
variable {l : Launch} {G : zG} {M : zM} {A : Nat}
theorem C_take2 {M1 : zM} {v : Int32} {F : Nat} {b : Nat → Int32} {Kf : zM → Prop} (h : Ct M M1 F b) (hb : F + nbk v 4 ≤ 500) (hk : ∀ M2, Ct M M2 (F + nbk v 4) (fd b F v 4) → Kf M2) : zCalV l G Y_X4_take 0 0 [vr 1 0, vi v] M1 Kf := by
  obtain ⟨h1, h2, h3, h4, h5⟩ := h
  refine C_take h4 hb (hk _ ⟨fun s i g1 g2 => ?_, h2, fun k hk => ?_, ?_, ?_⟩)
  · rw [zsIo _ _ _ _ _ _ g1, zsIo _ _ _ _ _ _ g2]
    exact h1 s i g1 g2
  · rw [zsI1, zup_ne _ _ hk]
    exact h3 k hk
  · rw [zsI1, zup_self]
  · rw [zsIo _ _ _ _ _ _ (by omega), zsI1, h5]
theorem R_feeds2 {M1 : zM} {v : Int32} {F : Nat} {b : Nat → Int32} {Kf : zM → Prop} (h : Rt M M1 F b) (hb : F + nbk v 4 ≤ 500) (hk : ∀ M2, Rt M M2 (F + nbk v 4) (fd b F v 4) → Kf M2) : zCalV l G Y_X9_feeds 0 0 [vr 30 0, vi v] M1 Kf := by
  obtain ⟨h1, h2, h3, h4, h5⟩ := h
  refine R_feeds h4 hb (hk _ ⟨fun s i g1 g2 => ?_, h2, fun k hk => ?_, ?_, ?_⟩)
  · rw [zsIo _ _ _ _ _ _ g1, zsIo _ _ _ _ _ _ g2]
    exact h1 s i g1 g2
  · rw [zsI1, zup_ne _ _ hk]
    exact h3 k hk
  · rw [zsI1, zup_self]
  · rw [zsIo _ _ _ _ _ _ (by omega), zsI1, h5]
theorem nbk4 (v : Int32) : nbk v 4 ≤ 4 := nbk_le v 4
theorem P_feed {p1 p2 p3 p4 p5 : Int32} (hI : Inv M A) :
    zCalI l G Y_X8_feed 0 0 [vr 0 0, vi p1, vi p2, vi p3, vi p4, vi p5] M (fun x M1 => zCalI l G Y_X9_feed 0 0 [vr 30 0, vi p1, vi p2, vi p3, vi p4, vi p5] M1 (fun y M2 => y = x ∧ Good A 0 M2)) := by
  obtain ⟨F, hF, f1, f2, f3, f4⟩ := hI.2.2.2.2.1
  have n1 := nbk4 p1
  have n2 := nbk4 p2
  have n3 := nbk4 p3
  have n4 := nbk4 p4
  have n5 := nbk4 p5
  have c500 : (500 : Int32).toInt = 500 := rfl
  have sum : nI F + ((((nI (nbk p1 4) + nI (nbk p2 4)) + nI (nbk p3 4)) + nI (nbk p4 4)) + nI (nbk p5 4)) = nI (F + nbk p1 4 + nbk p2 4 + nbk p3 4 + nbk p4 4 + nbk p5 4) := by
    rw [nI_add, nI_add, nI_add, nI_add, nI_add]
    congr 1
    omega
  have sum2 : ((((nI F + nI (nbk p1 4)) + nI (nbk p2 4)) + nI (nbk p3 4)) + nI (nbk p4 4)) + nI (nbk p5 4) = nI (F + nbk p1 4 + nbk p2 4 + nbk p3 4 + nbk p4 4 + nbk p5 4) := by
    rw [nI_add, nI_add, nI_add, nI_add, nI_add]
  have le : nI (F + nbk p1 4 + nbk p2 4 + nbk p3 4 + nbk p4 4 + nbk p5 4) ≤ 500 ↔ F + nbk p1 4 + nbk p2 4 + nbk p3 4 + nbk p4 4 + nbk p5 4 ≤ 500 := by
    rw [ti_le, c500, ti_nI (by omega)]
    omega
  refine zm_X8_feed (C_bytesOf (C_bytesOf (C_bytesOf (C_bytesOf (C_bytesOf ?_)))))
  rw [show zmI M 1 0 1 = nI F from f1, sum]
  refine ⟨fun c => ?_, fun c => ?_⟩
  · have hc := le.mp c
    have c0 : Ct M M F (M.1 2 0) := ⟨fun _ _ _ _ => rfl, rfl, fun _ _ => rfl, f1, rfl⟩
    refine C_take2 c0 (by omega) fun M1 c1 => C_take2 c1 (by omega) fun M2 c2 => C_take2 c2 (by omega) fun M3 c3 => C_take2 c3 (by omega) fun M4 c4 => C_take2 c4 (by omega) fun M5 c5 => ?_
    obtain ⟨q1, q2, q3, q4, q5⟩ := c5
    rw [show zmI M5 1 0 1 = _ from q4]
    refine zm_X9_feed (R_bytesIn (R_bytesIn (R_bytesIn (R_bytesIn (R_bytesIn ?_)))))
    have k10 : zmI (zsI M5 30 0 7 0) 30 0 10 = nI F := by
      simp only [zmI, zsI1]
      rw [zup_ne _ _ (by omega), q1 30 0 (by omega) (by omega)]
      exact f2
    rw [k10, sum2]
    refine ⟨fun _ => ?_, fun d => absurd c d⟩
    have r0 : Rt (zsI M5 30 0 7 0) (zsI M5 30 0 7 0) F (M.1 37 0) := ⟨fun _ _ _ _ => rfl, rfl, fun _ _ => rfl, k10, (zsIo _ _ _ _ _ _ (by omega)).trans (q1 37 0 (by omega) (by omega))⟩
    refine R_feeds2 r0 (by omega) fun N1 r1 => R_feeds2 r1 (by omega) fun N2 r2 => R_feeds2 r2 (by omega) fun N3 r3 => R_feeds2 r3 (by omega) fun N4 r4 => R_feeds2 r4 (by omega) fun N5 r5 => ?_
    obtain ⟨t1, t2, t3, t4, t5⟩ := r5
    refine ⟨t4, ?_, ?_⟩
    · rw [t3 7 (by omega)]
      exact z7_0 M5
    · have far : ∀ s i, ¬ (s = 1 ∧ i = 0) → ¬ (s = 2 ∧ i = 0) → ¬ (s = 30 ∧ i = 0) → ¬ (s = 37 ∧ i = 0) → N5.1 s i = M.1 s i := fun s i g1 g2 g3 g4 => by
        rw [t1 s i g3 g4, zsIo _ _ _ _ _ _ g3, q1 s i g1 g2]
      have e2 : N5.2 = M.2 := t2.trans q2
      have a0 : ag F (M.1 2 0) (M.1 37 0) := fun j hj => f3 j hj
      have a5 := ag_fd (v := p5) (ag_fd (v := p4) (ag_fd (v := p3) (ag_fd (v := p2) (ag_fd (v := p1) a0 4) 4) 4) 4) 4
      have s30 : ∀ k, k ≠ 10 → k ≠ 7 → N5.1 30 0 k = M.1 30 0 k := fun k h1 h2 => by
        rw [t3 k h1, zsI1, zup_ne _ _ h2, show zmI M5 30 0 = M.1 30 0 from q1 30 0 (by omega) (by omega)]
      have s1 : ∀ k, k ≠ 1 → N5.1 1 0 k = M.1 1 0 k := fun k h1 => by
        rw [t1 1 0 (by omega) (by omega), zsIo _ _ _ _ _ _ (by omega), q3 k h1]
      refine ⟨hI.1.main (fun s i hi => ?_) (fun a t ha => by rw [e2]; exact ha) (fun k _ => by rw [far 31 0 (by omega) (by omega) (by omega) (by omega)]), by rw [s30 8 (by omega) (by omega)]; exact hI.2.1, ?_, ?_, ?_, ?_⟩
      · have := inR_sort hi
        rw [e2]
        exact ⟨far s i (by omega) (by omega) (by omega) (by omega), rfl, rfl⟩
      · obtain ⟨P, U, h1, h2, h3, h4, h5, h6⟩ := hI.2.2.1
        have w10 : N5.1 10 0 = M.1 10 0 := far 10 0 (by omega) (by omega) (by omega) (by omega)
        have w34 : N5.1 34 0 = M.1 34 0 := far 34 0 (by omega) (by omega) (by omega) (by omega)
        refine ⟨P, U, h1, h2, by rw [w10]; exact h3, by rw [w10]; exact h4, by rw [s30 6 (by omega) (by omega)]; exact h5, fun j hj => ?_⟩
        rw [w34]
        obtain ⟨n, g1, g2⟩ := h6 j hj
        have hn := g2.nf
        exact ⟨n, g1.kept (by omega) (fun s i hi => by have := inR_sort hi; exact far s i (by omega) (by omega) (by omega) (by omega)) (fun s i hi => by rw [e2]) (fun s i hi => by rw [e2]) (fun a t ha => by rw [e2]; exact ha), g2⟩
      · intro s hs
        obtain ⟨h1, h2, h3⟩ := hI.2.2.2.1 s hs
        rw [far 13 0 (by omega) (by omega) (by omega) (by omega), far 36 0 (by omega) (by omega) (by omega) (by omega), far 35 0 (by omega) (by omega) (by omega) (by omega)]
        refine ⟨h1, h2, fun c => ?_⟩
        obtain ⟨n, g1, g2⟩ := h3 c
        have hn := g2.nf
        exact ⟨n, g1.kept (by omega) (fun s i hi => by have := inR_sort hi; exact far s i (by omega) (by omega) (by omega) (by omega)) (fun s i hi => by rw [e2]) (fun s i hi => by rw [e2]) (fun a t ha => by rw [e2]; exact ha), g2⟩
      · have u1 : N5.1 1 0 = M5.1 1 0 := by rw [t1 1 0 (by omega) (by omega), zsIo _ _ _ _ _ _ (by omega)]
        have u2 : N5.1 2 0 = M5.1 2 0 := by rw [t1 2 0 (by omega) (by omega), zsIo _ _ _ _ _ _ (by omega)]
        refine ⟨_, hc, by rw [u1]; exact q4, t4, fun j hj => ?_, by rw [s1 6 (by omega), s30 17 (by omega) (by omega)]; exact f4⟩
        rw [u2, q5, t5]
        exact a5 j hj
      · obtain ⟨h1, h2, h3⟩ := hI.2.2.2.2.2
        have eB : zmB N5 = zmB M := by unfold zmB; rw [e2]
        unfold Pg
        rw [eB, s30 29 (by omega) (by omega), far 44 0 (by omega) (by omega) (by omega) (by omega)]
        exact ⟨h1, h2, h3⟩
  · refine zm_X9_feed (R_bytesIn (R_bytesIn (R_bytesIn (R_bytesIn (R_bytesIn ?_)))))
    have k10 : zmI (zsI M 30 0 7 0) 30 0 10 = nI F := by
      simp only [zmI, zsI1]
      rw [zup_ne _ _ (by omega)]
      exact f2
    rw [k10, sum2]
    exact ⟨fun d => absurd d c, fun _ => ⟨rfl, Good.z hI⟩⟩
end
