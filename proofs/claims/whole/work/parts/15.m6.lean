/-! printed by wip/whole/drive.py -/
abbrev Y_X9_runs : zY := (yX9_runs, cX9_runs, 4, (some .int), 25, [])
theorem zw_1863 : Cond.methodLink RX9 353 yX9_does ∈ zAll := zin 1863 (by decide +kernel) (by decide +kernel)
theorem zw_1866 : Cond.code yX9_does cX9_does 2 (some .int) ∈ zAll := zin 1866 (by decide +kernel) (by decide +kernel)
theorem zw_1865 : Cond.instanceMethod yX9_does ∈ zAll := zin 1865 (by decide +kernel) (by decide +kernel)
theorem zw_59 : Cond.selects RX9 yX9_does yX9_does ∈ zAll := zin 59 (by decide +kernel) (by decide +kernel)
theorem zcv_X9_runs_X9_does_353 : zLV Y_X9_runs 353 Y_X9_does 1 RX9 := ⟨zw_1863, zw_1865, zw_59, zw_124, zw_1866, by decide +kernel, by decide, by decide⟩
theorem zw_1618 : Cond.fieldLink RX9 51 "EarlyDropsModel" "left" "[I" ∈ zAll := zin 1618 (by decide +kernel) (by decide +kernel)
theorem zfl_X9_51 : zFL RX9 51 30 24 1 := ⟨13, RX9, TX9, 30, rfl, rfl, by decide, rfl, zw_1618, zws_X9⟩
abbrev Y_X9_run : zY := (yX9_run, cX9_run, 2, (some .int), 26, [])
theorem zw_1817 : Cond.methodLink RX9 356 yX9_script ∈ zAll := zin 1817 (by decide +kernel) (by decide +kernel)
theorem zw_1820 : Cond.code yX9_script cX9_script 2 none ∈ zAll := zin 1820 (by decide +kernel) (by decide +kernel)
theorem zw_1819 : Cond.instanceMethod yX9_script ∈ zAll := zin 1819 (by decide +kernel) (by decide +kernel)
theorem zw_49 : Cond.selects RX9 yX9_script yX9_script ∈ zAll := zin 49 (by decide +kernel) (by decide +kernel)
theorem zcv_X9_run_X9_script_356 : zLV Y_X9_run 356 Y_X9_script 0 RX9 := ⟨zw_1817, zw_1819, zw_49, zw_124, zw_1820, by decide +kernel, by decide, by decide⟩
theorem zcv_X9_run_X9_ended_292 : zLV Y_X9_run 292 Y_X9_ended 0 RX9 := ⟨zw_1801, zw_1803, zw_47, zw_124, zw_1804, by decide +kernel, by decide, by decide⟩
theorem zcv_X9_run_X9_remembers_359 : zLV Y_X9_run 359 Y_X9_remembers 1 RX9 := ⟨zw_1855, zw_1857, zw_57, zw_124, zw_1858, by decide +kernel, by decide, by decide⟩
theorem zw_1859 : Cond.methodLink RX9 363 yX9_runs ∈ zAll := zin 1859 (by decide +kernel) (by decide +kernel)
theorem zw_1862 : Cond.code yX9_runs cX9_runs 4 (some .int) ∈ zAll := zin 1862 (by decide +kernel) (by decide +kernel)
theorem zw_1861 : Cond.instanceMethod yX9_runs ∈ zAll := zin 1861 (by decide +kernel) (by decide +kernel)
theorem zw_58 : Cond.selects RX9 yX9_runs yX9_runs ∈ zAll := zin 58 (by decide +kernel) (by decide +kernel)
theorem zcv_X9_run_X9_runs_363 : zLV Y_X9_run 363 Y_X9_runs 0 RX9 := ⟨zw_1859, zw_1861, zw_58, zw_124, zw_1862, by decide +kernel, by decide, by decide⟩
theorem dX9_runs_0 : decode cX9_runs 0 = .ok (.iconst 0, 1) := by decide +kernel
theorem dX9_runs_1 : decode cX9_runs 1 = .ok (.istore_n 1, 1) := by decide +kernel
theorem dX9_runs_2 : decode cX9_runs 2 = .ok (.iconst 0, 1) := by decide +kernel
theorem dX9_runs_3 : decode cX9_runs 3 = .ok (.istore_n 2, 1) := by decide +kernel
theorem dX9_runs_4 : decode cX9_runs 4 = .ok (.iconst 0, 1) := by decide +kernel
theorem dX9_runs_5 : decode cX9_runs 5 = .ok (.istore_n 3, 1) := by decide +kernel
theorem dX9_runs_6 : decode cX9_runs 6 = .ok (.iload_n 3, 1) := by decide +kernel
theorem dX9_runs_7 : decode cX9_runs 7 = .ok (.aload_n 0, 1) := by decide +kernel
theorem dX9_runs_8 : decode cX9_runs 8 = .ok (.getfield 320, 3) := by decide +kernel
theorem dX9_runs_11 : decode cX9_runs 11 = .ok (.if_icmp .ge 146, 3) := by decide +kernel
theorem dX9_runs_14 : decode cX9_runs 14 = .ok (.iload_n 1, 1) := by decide +kernel
theorem dX9_runs_15 : decode cX9_runs 15 = .ok (.bipush 40, 2) := by decide +kernel
theorem dX9_runs_17 : decode cX9_runs 17 = .ok (.if_icmp .ge 140, 3) := by decide +kernel
theorem dX9_runs_20 : decode cX9_runs 20 = .ok (.aload_n 0, 1) := by decide +kernel
theorem dX9_runs_21 : decode cX9_runs 21 = .ok (.getfield 36, 3) := by decide +kernel
theorem dX9_runs_24 : decode cX9_runs 24 = .ok (.iload_n 3, 1) := by decide +kernel
theorem dX9_runs_25 : decode cX9_runs 25 = .ok (.iaload, 1) := by decide +kernel
theorem dX9_runs_26 : decode cX9_runs 26 = .ok (.bipush 8, 2) := by decide +kernel
theorem dX9_runs_28 : decode cX9_runs 28 = .ok (.if_icmp .ne 22, 3) := by decide +kernel
theorem dX9_runs_31 : decode cX9_runs 31 = .ok (.aload_n 0, 1) := by decide +kernel
theorem dX9_runs_32 : decode cX9_runs 32 = .ok (.getfield 39, 3) := by decide +kernel
theorem dX9_runs_35 : decode cX9_runs 35 = .ok (.iload_n 3, 1) := by decide +kernel
theorem dX9_runs_36 : decode cX9_runs 36 = .ok (.iaload, 1) := by decide +kernel
theorem dX9_runs_37 : decode cX9_runs 37 = .ok (.ifCond .ne 13, 3) := by decide +kernel
theorem dX9_runs_40 : decode cX9_runs 40 = .ok (.aload_n 0, 1) := by decide +kernel
theorem dX9_runs_41 : decode cX9_runs 41 = .ok (.getfield 45, 3) := by decide +kernel
theorem dX9_runs_44 : decode cX9_runs 44 = .ok (.iload_n 3, 1) := by decide +kernel
theorem dX9_runs_45 : decode cX9_runs 45 = .ok (.iaload, 1) := by decide +kernel
theorem dX9_runs_46 : decode cX9_runs 46 = .ok (.istore_n 3, 1) := by decide +kernel
theorem dX9_runs_47 : decode cX9_runs 47 = .ok (.goto 104, 3) := by decide +kernel
theorem dX9_runs_50 : decode cX9_runs 50 = .ok (.aload_n 0, 1) := by decide +kernel
theorem dX9_runs_51 : decode cX9_runs 51 = .ok (.getfield 36, 3) := by decide +kernel
theorem dX9_runs_54 : decode cX9_runs 54 = .ok (.iload_n 3, 1) := by decide +kernel
theorem dX9_runs_55 : decode cX9_runs 55 = .ok (.iaload, 1) := by decide +kernel
theorem dX9_runs_56 : decode cX9_runs 56 = .ok (.bipush 8, 2) := by decide +kernel
theorem dX9_runs_58 : decode cX9_runs 58 = .ok (.if_icmp .ne 28, 3) := by decide +kernel
theorem dX9_runs_61 : decode cX9_runs 61 = .ok (.aload_n 0, 1) := by decide +kernel
theorem dX9_runs_62 : decode cX9_runs 62 = .ok (.getfield 48, 3) := by decide +kernel
theorem dX9_runs_65 : decode cX9_runs 65 = .ok (.iload_n 2, 1) := by decide +kernel
theorem dX9_runs_66 : decode cX9_runs 66 = .ok (.iload_n 3, 1) := by decide +kernel
theorem dX9_runs_67 : decode cX9_runs 67 = .ok (.iastore, 1) := by decide +kernel
theorem dX9_runs_68 : decode cX9_runs 68 = .ok (.aload_n 0, 1) := by decide +kernel
theorem dX9_runs_69 : decode cX9_runs 69 = .ok (.getfield 51, 3) := by decide +kernel
theorem dX9_runs_72 : decode cX9_runs 72 = .ok (.iload_n 2, 1) := by decide +kernel
theorem dX9_runs_73 : decode cX9_runs 73 = .ok (.aload_n 0, 1) := by decide +kernel
theorem dX9_runs_74 : decode cX9_runs 74 = .ok (.getfield 39, 3) := by decide +kernel
theorem dX9_runs_77 : decode cX9_runs 77 = .ok (.iload_n 3, 1) := by decide +kernel
theorem dX9_runs_78 : decode cX9_runs 78 = .ok (.iaload, 1) := by decide +kernel
theorem dX9_runs_79 : decode cX9_runs 79 = .ok (.iastore, 1) := by decide +kernel
theorem dX9_runs_80 : decode cX9_runs 80 = .ok (.iinc 2 1, 3) := by decide +kernel
theorem dX9_runs_83 : decode cX9_runs 83 = .ok (.goto 68, 3) := by decide +kernel
theorem dX9_runs_86 : decode cX9_runs 86 = .ok (.aload_n 0, 1) := by decide +kernel
theorem dX9_runs_87 : decode cX9_runs 87 = .ok (.getfield 36, 3) := by decide +kernel
theorem dX9_runs_90 : decode cX9_runs 90 = .ok (.iload_n 3, 1) := by decide +kernel
theorem dX9_runs_91 : decode cX9_runs 91 = .ok (.iaload, 1) := by decide +kernel
theorem dX9_runs_92 : decode cX9_runs 92 = .ok (.bipush 9, 2) := by decide +kernel
theorem dX9_runs_94 : decode cX9_runs 94 = .ok (.if_icmp .ne 44, 3) := by decide +kernel
theorem dX9_runs_97 : decode cX9_runs 97 = .ok (.aload_n 0, 1) := by decide +kernel
theorem dX9_runs_98 : decode cX9_runs 98 = .ok (.getfield 51, 3) := by decide +kernel
theorem dX9_runs_101 : decode cX9_runs 101 = .ok (.iload_n 2, 1) := by decide +kernel
theorem dX9_runs_102 : decode cX9_runs 102 = .ok (.iconst 1, 1) := by decide +kernel
theorem dX9_runs_103 : decode cX9_runs 103 = .ok (.isub, 1) := by decide +kernel
theorem dX9_runs_104 : decode cX9_runs 104 = .ok (.dup2, 1) := by decide +kernel
theorem dX9_runs_105 : decode cX9_runs 105 = .ok (.iaload, 1) := by decide +kernel
theorem dX9_runs_106 : decode cX9_runs 106 = .ok (.iconst 1, 1) := by decide +kernel
theorem dX9_runs_107 : decode cX9_runs 107 = .ok (.isub, 1) := by decide +kernel
theorem dX9_runs_108 : decode cX9_runs 108 = .ok (.iastore, 1) := by decide +kernel
theorem dX9_runs_109 : decode cX9_runs 109 = .ok (.aload_n 0, 1) := by decide +kernel
theorem dX9_runs_110 : decode cX9_runs 110 = .ok (.getfield 51, 3) := by decide +kernel
theorem dX9_runs_113 : decode cX9_runs 113 = .ok (.iload_n 2, 1) := by decide +kernel
theorem dX9_runs_114 : decode cX9_runs 114 = .ok (.iconst 1, 1) := by decide +kernel
theorem dX9_runs_115 : decode cX9_runs 115 = .ok (.isub, 1) := by decide +kernel
theorem dX9_runs_116 : decode cX9_runs 116 = .ok (.iaload, 1) := by decide +kernel
theorem dX9_runs_117 : decode cX9_runs 117 = .ok (.ifCond .le 15, 3) := by decide +kernel
theorem dX9_runs_120 : decode cX9_runs 120 = .ok (.aload_n 0, 1) := by decide +kernel
theorem dX9_runs_121 : decode cX9_runs 121 = .ok (.getfield 48, 3) := by decide +kernel
theorem dX9_runs_124 : decode cX9_runs 124 = .ok (.iload_n 2, 1) := by decide +kernel
theorem dX9_runs_125 : decode cX9_runs 125 = .ok (.iconst 1, 1) := by decide +kernel
theorem dX9_runs_126 : decode cX9_runs 126 = .ok (.isub, 1) := by decide +kernel
theorem dX9_runs_127 : decode cX9_runs 127 = .ok (.iaload, 1) := by decide +kernel
theorem dX9_runs_128 : decode cX9_runs 128 = .ok (.istore_n 3, 1) := by decide +kernel
theorem dX9_runs_129 : decode cX9_runs 129 = .ok (.goto 22, 3) := by decide +kernel
theorem dX9_runs_132 : decode cX9_runs 132 = .ok (.iinc 2 (-1), 3) := by decide +kernel
theorem dX9_runs_135 : decode cX9_runs 135 = .ok (.goto 16, 3) := by decide +kernel
theorem dX9_runs_138 : decode cX9_runs 138 = .ok (.aload_n 0, 1) := by decide +kernel
theorem dX9_runs_139 : decode cX9_runs 139 = .ok (.iload_n 3, 1) := by decide +kernel
theorem dX9_runs_140 : decode cX9_runs 140 = .ok (.invokevirtual 353, 3) := by decide +kernel
theorem dX9_runs_143 : decode cX9_runs 143 = .ok (.ifCond .ge 5, 3) := by decide +kernel
theorem dX9_runs_146 : decode cX9_runs 146 = .ok (.iload_n 1, 1) := by decide +kernel
theorem dX9_runs_147 : decode cX9_runs 147 = .ok (.ireturn, 1) := by decide +kernel
theorem dX9_runs_148 : decode cX9_runs 148 = .ok (.iinc 1 1, 3) := by decide +kernel
theorem dX9_runs_151 : decode cX9_runs 151 = .ok (.iinc 3 1, 3) := by decide +kernel
theorem dX9_runs_154 : decode cX9_runs 154 = .ok (.goto (-148), 3) := by decide +kernel
theorem dX9_runs_157 : decode cX9_runs 157 = .ok (.iload_n 1, 1) := by decide +kernel
theorem dX9_runs_158 : decode cX9_runs 158 = .ok (.ireturn, 1) := by decide +kernel
theorem dX9_run_0 : decode cX9_run 0 = .ok (.aload_n 0, 1) := by decide +kernel
theorem dX9_run_1 : decode cX9_run 1 = .ok (.iconst 0, 1) := by decide +kernel
theorem dX9_run_2 : decode cX9_run 2 = .ok (.putfield 60, 3) := by decide +kernel
theorem dX9_run_5 : decode cX9_run 5 = .ok (.aload_n 0, 1) := by decide +kernel
theorem dX9_run_6 : decode cX9_run 6 = .ok (.invokevirtual 356, 3) := by decide +kernel
theorem dX9_run_9 : decode cX9_run 9 = .ok (.aload_n 0, 1) := by decide +kernel
theorem dX9_run_10 : decode cX9_run 10 = .ok (.invokevirtual 292, 3) := by decide +kernel
theorem dX9_run_13 : decode cX9_run 13 = .ok (.istore_n 1, 1) := by decide +kernel
theorem dX9_run_14 : decode cX9_run 14 = .ok (.iload_n 1, 1) := by decide +kernel
theorem dX9_run_15 : decode cX9_run 15 = .ok (.ifCond .ge 5, 3) := by decide +kernel
theorem dX9_run_18 : decode cX9_run 18 = .ok (.iload_n 1, 1) := by decide +kernel
theorem dX9_run_19 : decode cX9_run 19 = .ok (.ireturn, 1) := by decide +kernel
theorem dX9_run_20 : decode cX9_run 20 = .ok (.aload_n 0, 1) := by decide +kernel
theorem dX9_run_21 : decode cX9_run 21 = .ok (.aload_n 0, 1) := by decide +kernel
theorem dX9_run_22 : decode cX9_run 22 = .ok (.getfield 9, 3) := by decide +kernel
theorem dX9_run_25 : decode cX9_run 25 = .ok (.invokevirtual 359, 3) := by decide +kernel
theorem dX9_run_28 : decode cX9_run 28 = .ok (.aload_n 0, 1) := by decide +kernel
theorem dX9_run_29 : decode cX9_run 29 = .ok (.invokevirtual 363, 3) := by decide +kernel
theorem dX9_run_32 : decode cX9_run 32 = .ok (.ireturn, 1) := by decide +kernel
-- X9_runs
set_option maxRecDepth 100000 in
set_option maxHeartbeats 4000000 in
theorem zm_X9_runs {l : Launch} {G : zG} {M : zM} {Kf : Int32 → zM → Prop} (h : zAt l G Y_X9_runs (zEI G Y_X9_runs Kf) 6 [(0, vr 30 0), (1, vi 0), (2, vi 0), (3, vi 0)] [] M 0 0) : zCalI l G Y_X9_runs 0 0 [vr 30 0] M Kf := by
  refine zCal_of (lv := [(0, vr 30 0)]) (by decide) rfl (zle rfl) rfl (fun hv => zlv_args (lv := [(0, vr 30 0)]) rfl hv) ?_
  refine Z_iconst (v := 0) (by decide) dX9_runs_0 ?_
  refine Z_istore_n (lv2 := [(1, vi 0), (0, vr 30 0)]) dX9_runs_1 rfl (by decide) rfl ?_
  refine Z_iconst (v := 0) (by decide) dX9_runs_2 ?_
  refine Z_istore_n (lv2 := [(2, vi 0), (1, vi 0), (0, vr 30 0)]) dX9_runs_3 rfl (by decide) rfl ?_
  refine Z_iconst (v := 0) (by decide) dX9_runs_4 ?_
  refine Z_istore_n (lv2 := [(3, vi 0), (2, vi 0), (1, vi 0), (0, vr 30 0)]) dX9_runs_5 rfl (by decide) rfl ?_
  exact Z_pick [3, 2, 1, 0] rfl h
set_option maxRecDepth 100000 in
set_option maxHeartbeats 4000000 in
theorem zb_X9_runs_6 {l : Launch} {G : zG} {y1 : Int32} {y2 : Int32} {y3 : Int32} {M : zM} {Kf : Int32 → zM → Prop} (h : (((zmI M 30 0 25) ≤ y3 → (Kf y1 M)) ∧ (¬ (zmI M 30 0 25) ≤ y3 → ((40 ≤ y1 → (Kf y1 M)) ∧ (¬ 40 ≤ y1 → (vp_in y3 64 ∧ ((¬ (zmI M 38 0 y3.toNatClampNeg) = 8 → zAt l G Y_X9_runs (zEI G Y_X9_runs Kf) 50 [(0, vr 30 0), (1, vi y1), (2, vi y2), (3, vi y3)] [] M 0 0) ∧ ((zmI M 38 0 y3.toNatClampNeg) = 8 → (vp_in y3 64 ∧ ((¬ (zmI M 39 0 y3.toNatClampNeg) = 0 → zAt l G Y_X9_runs (zEI G Y_X9_runs Kf) 50 [(0, vr 30 0), (1, vi y1), (2, vi y2), (3, vi y3)] [] M 0 0) ∧ ((zmI M 39 0 y3.toNatClampNeg) = 0 → (vp_in y3 64 ∧ zAt l G Y_X9_runs (zEI G Y_X9_runs Kf) 151 [(0, vr 30 0), (1, vi y1), (2, vi y2), (3, vi (zmI M 41 0 y3.toNatClampNeg))] [] M 0 0)))))))))))) : zAt l G Y_X9_runs (zEI G Y_X9_runs Kf) 6 [(0, vr 30 0), (1, vi y1), (2, vi y2), (3, vi y3)] [] M 0 0 := by
  refine Z_iload_n dX9_runs_6 rfl 3 rfl ?_
  refine Z_aload_n dX9_runs_7 rfl 0 rfl ?_
  refine Z_getI zfl_X9_320 dX9_runs_8 ?_
  refine Z_icmp_ge (tgt := 157) dX9_runs_11 (by decide) (fun q => ?_) (fun q => ?_)
  · have h := h.1 q
    refine Z_iload_n dX9_runs_157 rfl 1 rfl ?_
    exact Z_iret rfl rfl dX9_runs_158 (Nat.le_refl _) (Nat.le_refl _) ⟨_, rfl, h⟩
  · have h := h.2 q
    refine Z_iload_n dX9_runs_14 rfl 1 rfl ?_
    refine Z_bipush (v := 40) (by decide) dX9_runs_15 ?_
    refine Z_icmp_ge (tgt := 157) dX9_runs_17 (by decide) (fun q => ?_) (fun q => ?_)
    · have h := h.1 q
      refine Z_iload_n dX9_runs_157 rfl 1 rfl ?_
      exact Z_iret rfl rfl dX9_runs_158 (Nat.le_refl _) (Nat.le_refl _) ⟨_, rfl, h⟩
    · have h := h.2 q
      refine Z_aload_n dX9_runs_20 rfl 0 rfl ?_
      refine Z_getR (s1 := 38) (i1 := 0) zfl_X9_36 rfl (fun q => by first | exact q | decide) dX9_runs_21 ?_
      refine Z_iload_n dX9_runs_24 rfl 3 rfl ?_
      obtain ⟨g1, h⟩ := h
      refine Z_iald (n := 64) rfl g1 dX9_runs_25 ?_
      refine Z_bipush (v := 8) (by decide) dX9_runs_26 ?_
      refine Z_icmp_ne (tgt := 50) dX9_runs_28 (by decide) (fun q => ?_) (fun q => ?_)
      · have h := h.1 q
        exact h
      · have h := h.2 q
        refine Z_aload_n dX9_runs_31 rfl 0 rfl ?_
        refine Z_getR (s1 := 39) (i1 := 0) zfl_X9_39 rfl (fun q => by first | exact q | decide) dX9_runs_32 ?_
        refine Z_iload_n dX9_runs_35 rfl 3 rfl ?_
        obtain ⟨g2, h⟩ := h
        refine Z_iald (n := 64) rfl g2 dX9_runs_36 ?_
        refine Z_if_ne (tgt := 50) dX9_runs_37 (by decide) (fun q => ?_) (fun q => ?_)
        · have h := h.1 q
          exact h
        · have h := h.2 q
          refine Z_aload_n dX9_runs_40 rfl 0 rfl ?_
          refine Z_getR (s1 := 41) (i1 := 0) zfl_X9_45 rfl (fun q => by first | exact q | decide) dX9_runs_41 ?_
          refine Z_iload_n dX9_runs_44 rfl 3 rfl ?_
          obtain ⟨g3, h⟩ := h
          refine Z_iald (n := 64) rfl g3 dX9_runs_45 ?_
          refine Z_istore_n (lv2 := [(3, vi (zmI M 41 0 y3.toNatClampNeg)), (0, vr 30 0), (1, vi y1), (2, vi y2)]) dX9_runs_46 rfl (by decide) rfl ?_
          refine Z_goto (tgt := 151) dX9_runs_47 (by decide) ?_
          exact Z_pick [1, 2, 3, 0] rfl h
set_option maxRecDepth 100000 in
set_option maxHeartbeats 4000000 in
theorem zb_X9_runs_50 {l : Launch} {G : zG} {y1 : Int32} {y2 : Int32} {y3 : Int32} {M : zM} {Kf : Int32 → zM → Prop} (h : (vp_in y3 64 ∧ ((¬ (zmI M 38 0 y3.toNatClampNeg) = 8 → (vp_in y3 64 ∧ ((¬ (zmI M 38 0 y3.toNatClampNeg) = 9 → (zCalI l G Y_X9_does 0 0 [vr 30 0, vi y3] M (fun x4 M3 => ((0 ≤ x4 → zAt l G Y_X9_runs (zEI G Y_X9_runs Kf) 151 [(0, vr 30 0), (1, vi (y1 + 1)), (2, vi y2), (3, vi y3)] [] M3 0 0) ∧ (¬ 0 ≤ x4 → (Kf y1 M3)))))) ∧ ((zmI M 38 0 y3.toNatClampNeg) = 9 → (vp_in (y2 - 1) 2 ∧ (vp_in (y2 - 1) 2 ∧ (vp_in (y2 - 1) 2 ∧ (((zmI (zsI M 43 0 (y2 - 1).toNatClampNeg ((zmI M 43 0 (y2 - 1).toNatClampNeg) - 1)) 43 0 (y2 - 1).toNatClampNeg) ≤ 0 → zAt l G Y_X9_runs (zEI G Y_X9_runs Kf) 151 [(0, vr 30 0), (1, vi y1), (2, vi (y2 + (-1))), (3, vi y3)] [] (zsI M 43 0 (y2 - 1).toNatClampNeg ((zmI M 43 0 (y2 - 1).toNatClampNeg) - 1)) 0 0) ∧ (¬ (zmI (zsI M 43 0 (y2 - 1).toNatClampNeg ((zmI M 43 0 (y2 - 1).toNatClampNeg) - 1)) 43 0 (y2 - 1).toNatClampNeg) ≤ 0 → (vp_in (y2 - 1) 2 ∧ zAt l G Y_X9_runs (zEI G Y_X9_runs Kf) 151 [(0, vr 30 0), (1, vi y1), (2, vi y2), (3, vi (zmI (zsI M 43 0 (y2 - 1).toNatClampNeg ((zmI M 43 0 (y2 - 1).toNatClampNeg) - 1)) 42 0 (y2 - 1).toNatClampNeg))] [] (zsI M 43 0 (y2 - 1).toNatClampNeg ((zmI M 43 0 (y2 - 1).toNatClampNeg) - 1)) 0 0)))))))))) ∧ ((zmI M 38 0 y3.toNatClampNeg) = 8 → (vp_in y2 2 ∧ (vp_in y3 64 ∧ (vp_in y2 2 ∧ zAt l G Y_X9_runs (zEI G Y_X9_runs Kf) 151 [(0, vr 30 0), (1, vi y1), (2, vi (y2 + 1)), (3, vi y3)] [] (zsI (zsI M 42 0 y2.toNatClampNeg y3) 43 0 y2.toNatClampNeg (zmI (zsI M 42 0 y2.toNatClampNeg y3) 39 0 y3.toNatClampNeg)) 0 0))))))) : zAt l G Y_X9_runs (zEI G Y_X9_runs Kf) 50 [(0, vr 30 0), (1, vi y1), (2, vi y2), (3, vi y3)] [] M 0 0 := by
  refine Z_aload_n dX9_runs_50 rfl 0 rfl ?_
  refine Z_getR (s1 := 38) (i1 := 0) zfl_X9_36 rfl (fun q => by first | exact q | decide) dX9_runs_51 ?_
  refine Z_iload_n dX9_runs_54 rfl 3 rfl ?_
  obtain ⟨g1, h⟩ := h
  refine Z_iald (n := 64) rfl g1 dX9_runs_55 ?_
  refine Z_bipush (v := 8) (by decide) dX9_runs_56 ?_
  refine Z_icmp_ne (tgt := 86) dX9_runs_58 (by decide) (fun q => ?_) (fun q => ?_)
  · have h := h.1 q
    refine Z_aload_n dX9_runs_86 rfl 0 rfl ?_
    refine Z_getR (s1 := 38) (i1 := 0) zfl_X9_36 rfl (fun q => by first | exact q | decide) dX9_runs_87 ?_
    refine Z_iload_n dX9_runs_90 rfl 3 rfl ?_
    obtain ⟨g2, h⟩ := h
    refine Z_iald (n := 64) rfl g2 dX9_runs_91 ?_
    refine Z_bipush (v := 9) (by decide) dX9_runs_92 ?_
    refine Z_icmp_ne (tgt := 138) dX9_runs_94 (by decide) (fun q => ?_) (fun q => ?_)
    · have h := h.1 q
      refine Z_aload_n dX9_runs_138 rfl 0 rfl ?_
      refine Z_iload_n dX9_runs_139 rfl 3 rfl ?_
      refine Z_callVI (as := [vi y3]) zRm_M zcv_X9_runs_X9_does_353 (ci := 13) rfl rfl rfl rfl (zle rfl) dX9_runs_140 ⟨Nat.le_refl _, Nat.le_refl _⟩ h (fun x4 M3 h => ?_)
      refine Z_if_ge (tgt := 148) dX9_runs_143 (by decide) (fun q => ?_) (fun q => ?_)
      · have h := h.1 q
        refine Z_iinc (v := (y1 + 1)) (lv2 := [(1, vi (y1 + 1)), (0, vr 30 0), (2, vi y2), (3, vi y3)]) dX9_runs_148 1 rfl rfl (by decide) rfl ?_
        exact Z_pick [1, 0, 2, 3] rfl h
      · have h := h.2 q
        refine Z_iload_n dX9_runs_146 rfl 1 rfl ?_
        exact Z_iret rfl rfl dX9_runs_147 (Nat.le_refl _) (Nat.le_refl _) ⟨_, rfl, h⟩
    · have h := h.2 q
      refine Z_aload_n dX9_runs_97 rfl 0 rfl ?_
      refine Z_getR (s1 := 43) (i1 := 0) zfl_X9_51 rfl (fun q => by first | exact q | decide) dX9_runs_98 ?_
      refine Z_iload_n dX9_runs_101 rfl 2 rfl ?_
      refine Z_iconst (v := 1) (by decide) dX9_runs_102 ?_
      refine Z_isub dX9_runs_103 ?_
      refine Z_dup2 rfl rfl dX9_runs_104 ?_
      obtain ⟨g5, h⟩ := h
      refine Z_iald (n := 2) rfl g5 dX9_runs_105 ?_
      refine Z_iconst (v := 1) (by decide) dX9_runs_106 ?_
      refine Z_isub dX9_runs_107 ?_
      obtain ⟨g6, h⟩ := h
      refine Z_iast (n := 2) rfl g6 dX9_runs_108 ?_
      refine Z_aload_n dX9_runs_109 rfl 0 rfl ?_
      refine Z_getR (s1 := 43) (i1 := 0) zfl_X9_51 rfl (fun q => by first | exact q | decide) dX9_runs_110 ?_
      refine Z_iload_n dX9_runs_113 rfl 2 rfl ?_
      refine Z_iconst (v := 1) (by decide) dX9_runs_114 ?_
      refine Z_isub dX9_runs_115 ?_
      obtain ⟨g7, h⟩ := h
      refine Z_iald (n := 2) rfl g7 dX9_runs_116 ?_
      refine Z_if_le (tgt := 132) dX9_runs_117 (by decide) (fun q => ?_) (fun q => ?_)
      · have h := h.1 q
        refine Z_iinc (v := (y2 + (-1))) (lv2 := [(2, vi (y2 + (-1))), (0, vr 30 0), (1, vi y1), (3, vi y3)]) dX9_runs_132 2 rfl rfl (by decide) rfl ?_
        refine Z_goto (tgt := 151) dX9_runs_135 (by decide) ?_
        exact Z_pick [1, 2, 0, 3] rfl h
      · have h := h.2 q
        refine Z_aload_n dX9_runs_120 rfl 0 rfl ?_
        refine Z_getR (s1 := 42) (i1 := 0) zfl_X9_48 rfl (fun q => by first | exact q | decide) dX9_runs_121 ?_
        refine Z_iload_n dX9_runs_124 rfl 2 rfl ?_
        refine Z_iconst (v := 1) (by decide) dX9_runs_125 ?_
        refine Z_isub dX9_runs_126 ?_
        obtain ⟨g8, h⟩ := h
        refine Z_iald (n := 2) rfl g8 dX9_runs_127 ?_
        refine Z_istore_n (lv2 := [(3, vi (zmI (zsI M 43 0 (y2 - 1).toNatClampNeg ((zmI M 43 0 (y2 - 1).toNatClampNeg) - 1)) 42 0 (y2 - 1).toNatClampNeg)), (0, vr 30 0), (1, vi y1), (2, vi y2)]) dX9_runs_128 rfl (by decide) rfl ?_
        refine Z_goto (tgt := 151) dX9_runs_129 (by decide) ?_
        exact Z_pick [1, 2, 3, 0] rfl h
  · have h := h.2 q
    refine Z_aload_n dX9_runs_61 rfl 0 rfl ?_
    refine Z_getR (s1 := 42) (i1 := 0) zfl_X9_48 rfl (fun q => by first | exact q | decide) dX9_runs_62 ?_
    refine Z_iload_n dX9_runs_65 rfl 2 rfl ?_
    refine Z_iload_n dX9_runs_66 rfl 3 rfl ?_
    obtain ⟨g9, h⟩ := h
    refine Z_iast (n := 2) rfl g9 dX9_runs_67 ?_
    refine Z_aload_n dX9_runs_68 rfl 0 rfl ?_
    refine Z_getR (s1 := 43) (i1 := 0) zfl_X9_51 rfl (fun q => by first | exact q | decide) dX9_runs_69 ?_
    refine Z_iload_n dX9_runs_72 rfl 2 rfl ?_
    refine Z_aload_n dX9_runs_73 rfl 0 rfl ?_
    refine Z_getR (s1 := 39) (i1 := 0) zfl_X9_39 rfl (fun q => by first | exact q | decide) dX9_runs_74 ?_
    refine Z_iload_n dX9_runs_77 rfl 3 rfl ?_
    obtain ⟨g10, h⟩ := h
    refine Z_iald (n := 64) rfl g10 dX9_runs_78 ?_
    obtain ⟨g11, h⟩ := h
    refine Z_iast (n := 2) rfl g11 dX9_runs_79 ?_
    refine Z_iinc (v := (y2 + 1)) (lv2 := [(2, vi (y2 + 1)), (0, vr 30 0), (1, vi y1), (3, vi y3)]) dX9_runs_80 2 rfl rfl (by decide) rfl ?_
    refine Z_goto (tgt := 151) dX9_runs_83 (by decide) ?_
    exact Z_pick [1, 2, 0, 3] rfl h
set_option maxRecDepth 100000 in
set_option maxHeartbeats 4000000 in
theorem zb_X9_runs_151 {l : Launch} {G : zG} {y1 : Int32} {y2 : Int32} {y3 : Int32} {M : zM} {Kf : Int32 → zM → Prop} (h : zAt l G Y_X9_runs (zEI G Y_X9_runs Kf) 6 [(0, vr 30 0), (1, vi y1), (2, vi y2), (3, vi (y3 + 1))] [] M 0 0) : zAt l G Y_X9_runs (zEI G Y_X9_runs Kf) 151 [(0, vr 30 0), (1, vi y1), (2, vi y2), (3, vi y3)] [] M 0 0 := by
  refine Z_iinc (v := (y3 + 1)) (lv2 := [(3, vi (y3 + 1)), (0, vr 30 0), (1, vi y1), (2, vi y2)]) dX9_runs_151 3 rfl rfl (by decide) rfl ?_
  refine Z_goto (tgt := 6) dX9_runs_154 (by decide) ?_
  exact Z_pick [1, 2, 3, 0] rfl h
-- X9_run
set_option maxRecDepth 100000 in
set_option maxHeartbeats 4000000 in
theorem zm_X9_run {l : Launch} {G : zG} {M : zM} {Kf : Int32 → zM → Prop} (h : (zCalV l G Y_X9_script 0 0 [vr 30 0] (zsI M 30 0 7 0) (fun M1 => (zCalI l G Y_X9_ended 0 0 [vr 30 0] M1 (fun x3 M2 => ((0 ≤ x3 → (zCalV l G Y_X9_remembers 0 0 [vr 30 0, vr 31 0] M2 (fun M4 => (zCalI l G Y_X9_runs 0 0 [vr 30 0] M4 (fun x6 M5 => (Kf x6 M5)))))) ∧ (¬ 0 ≤ x3 → (Kf x3 M2)))))))) : zCalI l G Y_X9_run 0 0 [vr 30 0] M Kf := by
  refine zCal_of (lv := [(0, vr 30 0)]) (by decide) rfl (zle rfl) rfl (fun hv => zlv_args (lv := [(0, vr 30 0)]) rfl hv) ?_
  refine Z_aload_n dX9_run_0 rfl 0 rfl ?_
  refine Z_iconst (v := 0) (by decide) dX9_run_1 ?_
  refine Z_putI zfp_X9_60 rfl rfl dX9_run_2 ?_
  refine Z_aload_n dX9_run_5 rfl 0 rfl ?_
  refine Z_callVV (as := []) zRm_M zcv_X9_run_X9_script_356 (ci := 13) rfl rfl rfl rfl (zle rfl) dX9_run_6 ⟨Nat.le_refl _, Nat.le_refl _⟩ h (fun M1 h => ?_)
  refine Z_aload_n dX9_run_9 rfl 0 rfl ?_
  refine Z_callVI (as := []) zRm_M zcv_X9_run_X9_ended_292 (ci := 13) rfl rfl rfl rfl (zle rfl) dX9_run_10 ⟨Nat.le_refl _, Nat.le_refl _⟩ h (fun x3 M2 h => ?_)
  refine Z_istore_n (lv2 := [(1, vi x3), (0, vr 30 0)]) dX9_run_13 rfl (by decide) rfl ?_
  refine Z_iload_n dX9_run_14 rfl 0 rfl ?_
  refine Z_if_ge (tgt := 20) dX9_run_15 (by decide) (fun q => ?_) (fun q => ?_)
  · have h := h.1 q
    refine Z_aload_n dX9_run_20 rfl 1 rfl ?_
    refine Z_aload_n dX9_run_21 rfl 1 rfl ?_
    refine Z_getR (s1 := 31) (i1 := 0) zfl_X9_9 rfl (fun q => by first | exact q | decide) dX9_run_22 ?_
    refine Z_callVV (as := [vr 31 0]) zRm_M zcv_X9_run_X9_remembers_359 (ci := 13) rfl rfl rfl rfl (zle rfl) dX9_run_25 ⟨Nat.le_refl _, Nat.le_refl _⟩ h (fun M4 h => ?_)
    refine Z_aload_n dX9_run_28 rfl 1 rfl ?_
    refine Z_callVI (as := []) zRm_M zcv_X9_run_X9_runs_363 (ci := 13) rfl rfl rfl rfl (zle rfl) dX9_run_29 ⟨Nat.le_refl _, Nat.le_refl _⟩ h (fun x6 M5 h => ?_)
    exact Z_iret rfl rfl dX9_run_32 (Nat.le_refl _) (Nat.le_refl _) ⟨_, rfl, h⟩
  · have h := h.2 q
    refine Z_iload_n dX9_run_18 rfl 0 rfl ?_
    exact Z_iret rfl rfl dX9_run_19 (Nat.le_refl _) (Nat.le_refl _) ⟨_, rfl, h⟩
