section
variable {l : Launch} {G : zG} {M : zM} {A : Nat} {w : Nat → Int32}
theorem P_gain (hl : l.stackTraces = false) {p : Int32} (hI : Inv M A) (hA : A ≤ 299000000) :
    zCalLX l G Y_X8_gain 1 6 [vr 0 0, vi p] M (fun x M1 => zCalL l G Y_X9_gain 0 0 [vr 30 0, vi p] M1 (fun y M2 => y = x ∧ Good A 0 M2)) (fun E M1 => E = IAE ∧ zCalL l G Y_X9_gain 0 0 [vr 30 0, vi p] M1 (fun _ M2 => Good A 1 M2)) := by
  obtain ⟨n, hR, hO⟩ := hI.1
  have ht := hO.tim
  refine zm_X8_gain (C_within hl (fun c => C_copy hO hR (by decide) fun M0 f0 r0 => ?_) fun c => ⟨rfl, zm_X9_gain (R_noTicks (z7_0 M) (by decide) (fun d => absurd d c) fun _ => ⟨fun d => absurd d (by decide), fun _ => Good.thr hI 1⟩)⟩)
  have c2 := c
  rw [ti_le, ti_le, ti_1, show (200 : Int32).toInt = 200 from rfl] at c2
  obtain ⟨k, hk⟩ : ∃ k : Nat, p.toInt = k := ⟨_, (Int.toNat_of_nonneg (by omega)).symm⟩
  obtain ⟨w, hw⟩ : ∃ w, zmI M 31 0 = w := ⟨_, rfl⟩
  rw [hw] at hO hR r0 ht
  have hn := hO.nf
  refine C_behind hO r0 hk (by omega) (by omega) (by omega) fun M1 f1 => ?_
  have f01 : zFr 2 M M1 := f0.trans f1
  have rM1 : Rel M1 1 w true := hR.other (by omega) (by decide) f01
  refine C_copy hO rM1 (by decide) fun M2 f2 r2 => ?_
  refine C_behind (e := false) hO (r2.late hO) hk (by omega) (by omega) (by omega) fun M3 f3 => ?_
  have f03 : zFr 2 M M3 := (f01.trans f2).trans (((zFr.refl 2 M2).I (inR15 2)).trans f3)
  have hI3 := hI.ahead f03
  have e3 : zmI M3 31 0 = w := (ahead_31 f03).trans hw
  have o1 := hO.passes (p := false) k (by omega) (by omega) (by omega)
  have o2 := hO.passes (p := true) k (by omega) (by omega) (by omega)
  have g1 : ∀ j, 484 ≤ j → sp_passes w false k j = w j := fun j hj => passes_ge hO hj k (by omega) (by omega) (by omega)
  have g2 : ∀ j, 484 ≤ j → sp_passes w true k j = w j := fun j hj => passes_ge hO hj k (by omega) (by omega) (by omega)
  have b0 := hO.drp ⟨by omega, by omega⟩
  have b1 := o1.drp ⟨by omega, by omega⟩
  have b2 := o2.drp ⟨by omega, by omega⟩
  have s0 : 0 ≤ (sp_drp w n).toInt := by
    rw [b0.1]
    have := (hO.smb (a := 2) (by omega) n (Nat.le_refl _)).1
    have := (hO.smb (a := 3) (by omega) n (Nat.le_refl _)).1
    have := (hO.smb (a := 4) (by omega) n (Nat.le_refl _)).1
    omega
  have s1 : 0 ≤ (sp_drp (sp_passes w false k) n).toInt := by
    rw [b1.1]
    have := (o1.smb (a := 2) (by omega) n (Nat.le_refl _)).1
    have := (o1.smb (a := 3) (by omega) n (Nat.le_refl _)).1
    have := (o1.smb (a := 4) (by omega) n (Nat.le_refl _)).1
    omega
  have s2 : 0 ≤ (sp_drp (sp_passes w true k) n).toInt := by
    rw [b2.1]
    have := (o2.smb (a := 2) (by omega) n (Nat.le_refl _)).1
    have := (o2.smb (a := 3) (by omega) n (Nat.le_refl _)).1
    have := (o2.smb (a := 4) (by omega) n (Nat.le_refl _)).1
    omega
  refine zm_X9_gain (R_noTicks (z7_0 M3) (by decide) (fun _ => ⟨fun _ => R_aside ?_, fun d => absurd rfl d⟩) fun d => absurd c d)
  rw [z31_thr, e3]
  generalize zmI (zsI M3 30 0 7 0) 32 0 = o
  have q31 : ∀ (Z : zM) (f : Nat → Int32), zmI (zsIr Z 32 0 f) 31 0 = zmI Z 31 0 := fun Z f => z31_32 Z f
  refine R_droppedIn (plain := false) (k := k) (w := w) (by rw [q31, z31_thr, e3]) hO (by rw [z30_32]; exact z8_0 hI3.2.1) hk (by omega) (by omega) (by omega) (R_back (R_aside ?_))
  (simp only [zsI1, zsI2])
  rw [show zmI (zsIr (zsIr (zsI M3 30 0 7 0) 32 0 (sp_lay w o 0 0)) 31 0 (sp_passes w false k)) 32 0 = sp_lay w o 0 0 from (zsIo _ _ _ _ _ _ (by omega)).trans (zsI1 _ _ _ _), lay_back g1]
  rw [show zmI (zsIr (zsIr (zsI M3 30 0 7 0) 32 0 (sp_lay w o 0 0)) 31 0 w) 32 0 = sp_lay w o 0 0 from (zsIo _ _ _ _ _ _ (by omega)).trans (zsI1 _ _ _ _)]
  generalize hX : zsIr (zsIr (zsIr (zsI M3 30 0 7 0) 32 0 (sp_lay w o 0 0)) 31 0 w) 32 0 (sp_lay w (sp_lay w o 0 0) 0 0) = X
  have x31 : X.1 31 0 = w := by
    rw [← hX]
    exact (zsIo _ _ _ _ _ _ (by omega)).trans (zsI1 _ _ _ _)
  have x32 : X.1 32 0 = sp_lay w (sp_lay w o 0 0) 0 0 := by
    rw [← hX]
    exact zsI1 _ _ _ _
  have x30 : X.1 30 0 = zup (M3.1 30 0) 7 0 := by
    rw [← hX]
    exact (zsIo _ _ _ _ _ _ (by omega)).trans ((zsIo _ _ _ _ _ _ (by omega)).trans ((zsIo _ _ _ _ _ _ (by omega)).trans (zsI1 _ _ _ _)))
  have xo : ∀ s i, s ≠ 30 → s ≠ 31 → s ≠ 32 → X.1 s i = M3.1 s i := fun s i h1 h2 h3 => by
    rw [← hX]
    exact (zsIo _ _ _ _ _ _ (by omega)).trans ((zsIo _ _ _ _ _ _ (by omega)).trans ((zsIo _ _ _ _ _ _ (by omega)).trans (zsIo _ _ _ _ _ _ (by omega))))
  have xr : X.2 = M3.2 := by rw [← hX]; rfl
  refine R_droppedIn (plain := true) (k := k) (w := w) ((zsIo _ _ _ _ _ _ (by omega)).trans x31) hO (by simp only [zmI, zsI1, zup_self]; rfl) hk (by omega) (by omega) (by omega) (R_back ⟨?_, ?_, ?_⟩)
  · have v1 : (sp_drp (sp_passes w false k) n - sp_drp w n).toInt = (sp_drp (sp_passes w false k) n).toInt - (sp_drp w n).toInt := ti_sub (by omega)
    have v2 : (sp_drp (sp_passes w true k) n - sp_drp w n).toInt = (sp_drp (sp_passes w true k) n).toInt - (sp_drp w n).toInt := ti_sub (by omega)
    refine tl_eq.mpr ?_
    show _ = ((sp_drp (sp_passes w true k) n).toInt64 - (sp_drp (sp_passes w false k) n).toInt64).toInt
    rw [tl_32, ti_sub (by rw [v1, v2]; omega), v1, v2, tl_sub (by rw [tl_32, tl_32]; omega), tl_32, tl_32]
    omega
  · simp only [zmI, zsI1]
    rw [zup_ne _ _ (by omega), zsIo _ _ _ _ _ _ (by omega), zsIo _ _ _ _ _ _ (by omega), zsI1, zup_ne _ _ (by omega), show zmI X 30 0 = _ from x30, zup_self]
  · refine hI3.bk ⟨fun s i h0 h1 h2 h3 => ?_, xr, fun j hj => ?_, fun j hj => ?_⟩
    · rw [zsIo _ _ _ _ _ _ (by omega), zsIo _ _ _ _ _ _ (by omega), zsIo _ _ _ _ _ _ (by omega), zsIo _ _ _ _ _ _ (by omega), xo s i h0 h1 h2]
    · rw [zsIo _ _ _ _ _ _ (by omega), zsI1, lay_0 _ _ hj, show zmI (zsIr (zsI X 30 0 8 1) 31 0 (sp_passes w true k)) 32 0 = X.1 32 0 from (zsIo _ _ _ _ _ _ (by omega)).trans (zsIo _ _ _ _ _ _ (by omega)), x32, lay_0 _ _ hj, ← e3]
    · simp only [zmI, zsI1]
      by_cases j8 : j = 8
      · rw [j8, zup_self]
        exact hI3.2.1.symm
      · rw [zup_ne _ _ j8, zsIo _ _ _ _ _ _ (by omega), zsIo _ _ _ _ _ _ (by omega), zsI1, zup_ne _ _ j8, show zmI X 30 0 = _ from x30, zup_ne _ _ hj]
end
