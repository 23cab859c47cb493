-- SessionHouseModel.start()I
theorem dX12_start_0 : decode cX12_start 0 = .ok (.aload_n 0, 1) := by decide +kernel
theorem dX12_start_1 : decode cX12_start 1 = .ok (.getfield 400, 3) := by decide +kernel
theorem dX12_start_4 : decode cX12_start 4 = .ok (.ifCond .ne 5, 3) := by decide +kernel
theorem dX12_start_7 : decode cX12_start 7 = .ok (.iconst (-1), 1) := by decide +kernel
theorem dX12_start_8 : decode cX12_start 8 = .ok (.ireturn, 1) := by decide +kernel
theorem dX12_start_9 : decode cX12_start 9 = .ok (.aload_n 0, 1) := by decide +kernel
theorem dX12_start_10 : decode cX12_start 10 = .ok (.iconst 1, 1) := by decide +kernel
theorem dX12_start_11 : decode cX12_start 11 = .ok (.putfield 404, 3) := by decide +kernel
theorem dX12_start_14 : decode cX12_start 14 = .ok (.aload_n 0, 1) := by decide +kernel
theorem dX12_start_15 : decode cX12_start 15 = .ok (.aload_n 0, 1) := by decide +kernel
theorem dX12_start_16 : decode cX12_start 16 = .ok (.getfield 148, 3) := by decide +kernel
theorem dX12_start_19 : decode cX12_start 19 = .ok (.putfield 141, 3) := by decide +kernel
theorem dX12_start_22 : decode cX12_start 22 = .ok (.aload_n 0, 1) := by decide +kernel
theorem dX12_start_23 : decode cX12_start 23 = .ok (.aload_n 0, 1) := by decide +kernel
theorem dX12_start_24 : decode cX12_start 24 = .ok (.getfield 151, 3) := by decide +kernel
theorem dX12_start_27 : decode cX12_start 27 = .ok (.putfield 145, 3) := by decide +kernel
theorem dX12_start_30 : decode cX12_start 30 = .ok (.aload_n 0, 1) := by decide +kernel
theorem dX12_start_31 : decode cX12_start 31 = .ok (.iconst 0, 1) := by decide +kernel
theorem dX12_start_32 : decode cX12_start 32 = .ok (.putfield 607, 3) := by decide +kernel
theorem dX12_start_35 : decode cX12_start 35 = .ok (.aload_n 0, 1) := by decide +kernel
theorem dX12_start_36 : decode cX12_start 36 = .ok (.iconst 0, 1) := by decide +kernel
theorem dX12_start_37 : decode cX12_start 37 = .ok (.putfield 613, 3) := by decide +kernel
theorem dX12_start_40 : decode cX12_start 40 = .ok (.aload_n 0, 1) := by decide +kernel
theorem dX12_start_41 : decode cX12_start 41 = .ok (.iconst 0, 1) := by decide +kernel
theorem dX12_start_42 : decode cX12_start 42 = .ok (.putfield 619, 3) := by decide +kernel
theorem dX12_start_45 : decode cX12_start 45 = .ok (.aload_n 0, 1) := by decide +kernel
theorem dX12_start_46 : decode cX12_start 46 = .ok (.iconst 0, 1) := by decide +kernel
theorem dX12_start_47 : decode cX12_start 47 = .ok (.putfield 548, 3) := by decide +kernel
theorem dX12_start_50 : decode cX12_start 50 = .ok (.aload_n 0, 1) := by decide +kernel
theorem dX12_start_51 : decode cX12_start 51 = .ok (.iconst 0, 1) := by decide +kernel
theorem dX12_start_52 : decode cX12_start 52 = .ok (.putfield 551, 3) := by decide +kernel
theorem dX12_start_55 : decode cX12_start 55 = .ok (.aload_n 0, 1) := by decide +kernel
theorem dX12_start_56 : decode cX12_start 56 = .ok (.iconst 0, 1) := by decide +kernel
theorem dX12_start_57 : decode cX12_start 57 = .ok (.putfield 583, 3) := by decide +kernel
theorem dX12_start_60 : decode cX12_start 60 = .ok (.aload_n 0, 1) := by decide +kernel
theorem dX12_start_61 : decode cX12_start 61 = .ok (.iconst 0, 1) := by decide +kernel
theorem dX12_start_62 : decode cX12_start 62 = .ok (.putfield 530, 3) := by decide +kernel
theorem dX12_start_65 : decode cX12_start 65 = .ok (.aload_n 0, 1) := by decide +kernel
theorem dX12_start_66 : decode cX12_start 66 = .ok (.iconst 0, 1) := by decide +kernel
theorem dX12_start_67 : decode cX12_start 67 = .ok (.putfield 610, 3) := by decide +kernel
theorem dX12_start_70 : decode cX12_start 70 = .ok (.aload_n 0, 1) := by decide +kernel
theorem dX12_start_71 : decode cX12_start 71 = .ok (.iconst 0, 1) := by decide +kernel
theorem dX12_start_72 : decode cX12_start 72 = .ok (.putfield 539, 3) := by decide +kernel
theorem dX12_start_75 : decode cX12_start 75 = .ok (.aload_n 0, 1) := by decide +kernel
theorem dX12_start_76 : decode cX12_start 76 = .ok (.iconst 0, 1) := by decide +kernel
theorem dX12_start_77 : decode cX12_start 77 = .ok (.putfield 542, 3) := by decide +kernel
theorem dX12_start_80 : decode cX12_start 80 = .ok (.aload_n 0, 1) := by decide +kernel
theorem dX12_start_81 : decode cX12_start 81 = .ok (.iconst 0, 1) := by decide +kernel
theorem dX12_start_82 : decode cX12_start 82 = .ok (.putfield 533, 3) := by decide +kernel
theorem dX12_start_85 : decode cX12_start 85 = .ok (.aload_n 0, 1) := by decide +kernel
theorem dX12_start_86 : decode cX12_start 86 = .ok (.iconst 0, 1) := by decide +kernel
theorem dX12_start_87 : decode cX12_start 87 = .ok (.putfield 560, 3) := by decide +kernel
theorem dX12_start_90 : decode cX12_start 90 = .ok (.aload_n 0, 1) := by decide +kernel
theorem dX12_start_91 : decode cX12_start 91 = .ok (.iconst 0, 1) := by decide +kernel
theorem dX12_start_92 : decode cX12_start 92 = .ok (.putfield 557, 3) := by decide +kernel
theorem dX12_start_95 : decode cX12_start 95 = .ok (.aload_n 0, 1) := by decide +kernel
theorem dX12_start_96 : decode cX12_start 96 = .ok (.iconst 0, 1) := by decide +kernel
theorem dX12_start_97 : decode cX12_start 97 = .ok (.putfield 563, 3) := by decide +kernel
theorem dX12_start_100 : decode cX12_start 100 = .ok (.aload_n 0, 1) := by decide +kernel
theorem dX12_start_101 : decode cX12_start 101 = .ok (.iconst 0, 1) := by decide +kernel
theorem dX12_start_102 : decode cX12_start 102 = .ok (.putfield 575, 3) := by decide +kernel
theorem dX12_start_105 : decode cX12_start 105 = .ok (.aload_n 0, 1) := by decide +kernel
theorem dX12_start_106 : decode cX12_start 106 = .ok (.aload_n 0, 1) := by decide +kernel
theorem dX12_start_107 : decode cX12_start 107 = .ok (.getfield 420, 3) := by decide +kernel
theorem dX12_start_110 : decode cX12_start 110 = .ok (.invokevirtual 554, 3) := by decide +kernel
theorem dX12_start_113 : decode cX12_start 113 = .ok (.aload_n 0, 1) := by decide +kernel
theorem dX12_start_114 : decode cX12_start 114 = .ok (.getfield 145, 3) := by decide +kernel
theorem dX12_start_117 : decode cX12_start 117 = .ok (.if_icmp .le 10, 3) := by decide +kernel
theorem dX12_start_120 : decode cX12_start 120 = .ok (.aload_n 0, 1) := by decide +kernel
theorem dX12_start_121 : decode cX12_start 121 = .ok (.iconst 4, 1) := by decide +kernel
theorem dX12_start_122 : decode cX12_start 122 = .ok (.putfield 607, 3) := by decide +kernel
theorem dX12_start_125 : decode cX12_start 125 = .ok (.iconst 4, 1) := by decide +kernel
theorem dX12_start_126 : decode cX12_start 126 = .ok (.ireturn, 1) := by decide +kernel
theorem dX12_start_127 : decode cX12_start 127 = .ok (.aload_n 0, 1) := by decide +kernel
theorem dX12_start_128 : decode cX12_start 128 = .ok (.aload_n 0, 1) := by decide +kernel
theorem dX12_start_129 : decode cX12_start 129 = .ok (.getfield 420, 3) := by decide +kernel
theorem dX12_start_132 : decode cX12_start 132 = .ok (.invokevirtual 601, 3) := by decide +kernel
theorem dX12_start_135 : decode cX12_start 135 = .ok (.istore_n 1, 1) := by decide +kernel
theorem dX12_start_136 : decode cX12_start 136 = .ok (.iconst 0, 1) := by decide +kernel
theorem dX12_start_137 : decode cX12_start 137 = .ok (.ireturn, 1) := by decide +kernel
def mX12_start (t : zS) : zR := if (t 0 57) = 0 then some ((-1), t) else zpt t 0 71 1 fun t4854 => zpt t4854 0 73 (t4854 0 75) fun t4855 => zpt t4855 0 74 (t4855 0 76) fun t4856 => zpt t4856 0 72 0 fun t4857 => zpt t4857 0 77 0 fun t4858 => zpt t4858 0 78 0 fun t4859 => zpt t4859 0 79 0 fun t4860 => zpt t4860 0 80 0 fun t4861 => zpt t4861 0 81 0 fun t4862 => zpt t4862 0 85 0 fun t4863 => zpt t4863 0 86 0 fun t4864 => zpt t4864 0 88 0 fun t4865 => zpt t4865 0 105 0 fun t4866 => zpt t4866 0 94 0 fun t4867 => zpt t4867 0 97 0 fun t4868 => zpt t4868 0 98 0 fun t4869 => zpt t4869 0 100 0 fun t4870 => zpt t4870 0 101 0 fun t4871 => zbd (mX12_processCells (t4871 0 62) t4871) fun r4872 t4873 => if r4872 ≤ (t4873 0 74) then zbd (mX12_newProcess (t4873 0 62) t4873) fun r4875 t4876 => some (0, t4876) else zpt t4873 0 72 4 fun t4878 => some (4, t4878)
set_option maxHeartbeats 4000000 in
set_option maxRecDepth 20000 in
theorem ctX12_start {E : zE} {f : Nat} (hf : 5 ≤ f) {t : zS} {ro : Int32 × zS} (hF : mX12_start   t = some ro) : zM E shM f yX12_start cX12_start 2 (some .int) [.ref (za E 0)] t ro := by
  refine zM_of (by decide) (Nat.le_of_ble_eq_true rfl) (fun C => ?_)
  show zJ E shM C cX12_start RX12 2 f (some .int) ro t 0 [(0, .ref (za E 0))] []
  unfold mX12_start at hF
  refine z_aload_n 0 dX12_start_0 rfl rfl ?_
  refine z_geti fi_RX12_400 dX12_start_1 ?_
  refine z_if_ne (tgt := 9) dX12_start_4 (by decide) (fun hc => ?_) (fun hc => ?_)
  · have hF := zif_f hc hF
    refine z_aload_n 0 dX12_start_9 rfl rfl ?_
    refine z_iconst (v := 1) dX12_start_10 (by decide) ?_
    refine z_putz fw_RX12_404 (by decide) dX12_start_11 (fun t4854 et4854 => ?_)
    have hF := zpt_at hF t4854 et4854
    refine z_aload_n 0 dX12_start_14 rfl rfl ?_
    refine z_aload_n 0 dX12_start_15 rfl rfl ?_
    refine z_geti fi_RX12_148 dX12_start_16 ?_
    refine z_puti fw_RX12_141 dX12_start_19 (fun t4855 et4855 => ?_)
    have hF := zpt_at hF t4855 et4855
    refine z_aload_n 0 dX12_start_22 rfl rfl ?_
    refine z_aload_n 0 dX12_start_23 rfl rfl ?_
    refine z_geti fi_RX12_151 dX12_start_24 ?_
    refine z_puti fw_RX12_145 dX12_start_27 (fun t4856 et4856 => ?_)
    have hF := zpt_at hF t4856 et4856
    refine z_aload_n 0 dX12_start_30 rfl rfl ?_
    refine z_iconst (v := 0) dX12_start_31 (by decide) ?_
    refine z_puti fw_RX12_607 dX12_start_32 (fun t4857 et4857 => ?_)
    have hF := zpt_at hF t4857 et4857
    refine z_aload_n 0 dX12_start_35 rfl rfl ?_
    refine z_iconst (v := 0) dX12_start_36 (by decide) ?_
    refine z_puti fw_RX12_613 dX12_start_37 (fun t4858 et4858 => ?_)
    have hF := zpt_at hF t4858 et4858
    refine z_aload_n 0 dX12_start_40 rfl rfl ?_
    refine z_iconst (v := 0) dX12_start_41 (by decide) ?_
    refine z_puti fw_RX12_619 dX12_start_42 (fun t4859 et4859 => ?_)
    have hF := zpt_at hF t4859 et4859
    refine z_aload_n 0 dX12_start_45 rfl rfl ?_
    refine z_iconst (v := 0) dX12_start_46 (by decide) ?_
    refine z_puti fw_RX12_548 dX12_start_47 (fun t4860 et4860 => ?_)
    have hF := zpt_at hF t4860 et4860
    refine z_aload_n 0 dX12_start_50 rfl rfl ?_
    refine z_iconst (v := 0) dX12_start_51 (by decide) ?_
    refine z_puti fw_RX12_551 dX12_start_52 (fun t4861 et4861 => ?_)
    have hF := zpt_at hF t4861 et4861
    refine z_aload_n 0 dX12_start_55 rfl rfl ?_
    refine z_iconst (v := 0) dX12_start_56 (by decide) ?_
    refine z_puti fw_RX12_583 dX12_start_57 (fun t4862 et4862 => ?_)
    have hF := zpt_at hF t4862 et4862
    refine z_aload_n 0 dX12_start_60 rfl rfl ?_
    refine z_iconst (v := 0) dX12_start_61 (by decide) ?_
    refine z_puti fw_RX12_530 dX12_start_62 (fun t4863 et4863 => ?_)
    have hF := zpt_at hF t4863 et4863
    refine z_aload_n 0 dX12_start_65 rfl rfl ?_
    refine z_iconst (v := 0) dX12_start_66 (by decide) ?_
    refine z_puti fw_RX12_610 dX12_start_67 (fun t4864 et4864 => ?_)
    have hF := zpt_at hF t4864 et4864
    refine z_aload_n 0 dX12_start_70 rfl rfl ?_
    refine z_iconst (v := 0) dX12_start_71 (by decide) ?_
    refine z_puti fw_RX12_539 dX12_start_72 (fun t4865 et4865 => ?_)
    have hF := zpt_at hF t4865 et4865
    refine z_aload_n 0 dX12_start_75 rfl rfl ?_
    refine z_iconst (v := 0) dX12_start_76 (by decide) ?_
    refine z_puti fw_RX12_542 dX12_start_77 (fun t4866 et4866 => ?_)
    have hF := zpt_at hF t4866 et4866
    refine z_aload_n 0 dX12_start_80 rfl rfl ?_
    refine z_iconst (v := 0) dX12_start_81 (by decide) ?_
    refine z_puti fw_RX12_533 dX12_start_82 (fun t4867 et4867 => ?_)
    have hF := zpt_at hF t4867 et4867
    refine z_aload_n 0 dX12_start_85 rfl rfl ?_
    refine z_iconst (v := 0) dX12_start_86 (by decide) ?_
    refine z_puti fw_RX12_560 dX12_start_87 (fun t4868 et4868 => ?_)
    have hF := zpt_at hF t4868 et4868
    refine z_aload_n 0 dX12_start_90 rfl rfl ?_
    refine z_iconst (v := 0) dX12_start_91 (by decide) ?_
    refine z_puti fw_RX12_557 dX12_start_92 (fun t4869 et4869 => ?_)
    have hF := zpt_at hF t4869 et4869
    refine z_aload_n 0 dX12_start_95 rfl rfl ?_
    refine z_iconst (v := 0) dX12_start_96 (by decide) ?_
    refine z_puti fw_RX12_563 dX12_start_97 (fun t4870 et4870 => ?_)
    have hF := zpt_at hF t4870 et4870
    refine z_aload_n 0 dX12_start_100 rfl rfl ?_
    refine z_iconst (v := 0) dX12_start_101 (by decide) ?_
    refine z_puti fw_RX12_575 dX12_start_102 (fun t4871 et4871 => ?_)
    have hF := zpt_at hF t4871 et4871
    refine z_aload_n 0 dX12_start_105 rfl rfl ?_
    refine z_aload_n 0 dX12_start_106 rfl rfl ?_
    refine z_geti fi_RX12_420 dX12_start_107 ?_
    obtain ⟨r4872, t4873, hc4874, hF⟩ := zbd_at hF
    refine z_callVi (ctX12_processCells (E := E) (f := f - 1) (by omega) hc4874) yy_X12_processCells yv_X12_processCells ob_M_0 lk_RX12_554 (by omega) rfl rfl (Nat.le_of_ble_eq_true rfl) dX12_start_110 ?_
    refine z_aload_n 0 dX12_start_113 rfl rfl ?_
    refine z_geti fi_RX12_145 dX12_start_114 ?_
    refine z_icmp_le (tgt := 127) dX12_start_117 (by decide) (fun hc => ?_) (fun hc => ?_)
    · have hF := zif_t hc hF
      refine z_aload_n 0 dX12_start_127 rfl rfl ?_
      refine z_aload_n 0 dX12_start_128 rfl rfl ?_
      refine z_geti fi_RX12_420 dX12_start_129 ?_
      obtain ⟨r4875, t4876, hc4877, hF⟩ := zbd_at hF
      refine z_callVi (ctX12_newProcess (E := E) (f := f - 1) (by omega) hc4877) yy_X12_newProcess yv_X12_newProcess ob_M_0 lk_RX12_601 (by omega) rfl rfl (Nat.le_of_ble_eq_true rfl) dX12_start_132 ?_
      refine z_istore_n (lv' := [(1, .int r4875), (0, .ref (za E 0))]) dX12_start_135 rfl (by decide) rfl ?_
      refine z_iconst (v := 0) dX12_start_136 (by decide) ?_
      exact z_iret hF dX12_start_137
    · have hF := zif_f hc hF
      refine z_aload_n 0 dX12_start_120 rfl rfl ?_
      refine z_iconst (v := 4) dX12_start_121 (by decide) ?_
      refine z_puti fw_RX12_607 dX12_start_122 (fun t4878 et4878 => ?_)
      have hF := zpt_at hF t4878 et4878
      refine z_iconst (v := 4) dX12_start_125 (by decide) ?_
      exact z_iret hF dX12_start_126
  · have hF := zif_t hc hF
    refine z_iconst (v := (-1)) dX12_start_7 (by decide) ?_
    exact z_iret hF dX12_start_8
-- SessionHouseModel.run(I)I
theorem dX12_run_0 : decode cX12_run 0 = .ok (.aload_n 0, 1) := by decide +kernel
theorem dX12_run_1 : decode cX12_run 1 = .ok (.getfield 404, 3) := by decide +kernel
theorem dX12_run_4 : decode cX12_run 4 = .ok (.ifCond .eq 15, 3) := by decide +kernel
theorem dX12_run_7 : decode cX12_run 7 = .ok (.iload_n 1, 1) := by decide +kernel
theorem dX12_run_8 : decode cX12_run 8 = .ok (.i2l, 1) := by decide +kernel
theorem dX12_run_9 : decode cX12_run 9 = .ok (.lconst 0, 1) := by decide +kernel
theorem dX12_run_10 : decode cX12_run 10 = .ok (.ldc2_w 628, 3) := by decide +kernel
theorem dX12_run_13 : decode cX12_run 13 = .ok (.invokestatic 209, 3) := by decide +kernel
theorem dX12_run_16 : decode cX12_run 16 = .ok (.ifCond .ne 5, 3) := by decide +kernel
theorem dX12_run_19 : decode cX12_run 19 = .ok (.iconst (-1), 1) := by decide +kernel
theorem dX12_run_20 : decode cX12_run 20 = .ok (.ireturn, 1) := by decide +kernel
theorem dX12_run_21 : decode cX12_run 21 = .ok (.iconst 0, 1) := by decide +kernel
theorem dX12_run_22 : decode cX12_run 22 = .ok (.istore_n 2, 1) := by decide +kernel
theorem dX12_run_23 : decode cX12_run 23 = .ok (.iload_n 2, 1) := by decide +kernel
theorem dX12_run_24 : decode cX12_run 24 = .ok (.iload_n 1, 1) := by decide +kernel
theorem dX12_run_25 : decode cX12_run 25 = .ok (.if_icmp .ge 20, 3) := by decide +kernel
theorem dX12_run_28 : decode cX12_run 28 = .ok (.aload_n 0, 1) := by decide +kernel
theorem dX12_run_29 : decode cX12_run 29 = .ok (.getfield 607, 3) := by decide +kernel
theorem dX12_run_32 : decode cX12_run 32 = .ok (.ifCond .ne 13, 3) := by decide +kernel
theorem dX12_run_35 : decode cX12_run 35 = .ok (.aload_n 0, 1) := by decide +kernel
theorem dX12_run_36 : decode cX12_run 36 = .ok (.invokevirtual 630, 3) := by decide +kernel
theorem dX12_run_39 : decode cX12_run 39 = .ok (.iinc 2 1, 3) := by decide +kernel
theorem dX12_run_42 : decode cX12_run 42 = .ok (.goto (-19), 3) := by decide +kernel
theorem dX12_run_45 : decode cX12_run 45 = .ok (.aload_n 0, 1) := by decide +kernel
theorem dX12_run_46 : decode cX12_run 46 = .ok (.getfield 607, 3) := by decide +kernel
theorem dX12_run_49 : decode cX12_run 49 = .ok (.ireturn, 1) := by decide +kernel
def bX12_run_23 (k23 : Int32 → Int32 → zS → zR) (x1 : Int32) (x2 : Int32) (t : zS) : zR := if x1 ≤ x2 then some ((t 0 72), t) else if (t 0 72) = 0 then zbd (mX12_visit  t) fun r4879 t4880 => zlet (x2 + 1) fun v4882 => k23 x1 v4882 t4880 else some ((t 0 72), t)
def lX12_run_23 : Nat → Int32 → Int32 → zS → zR
  | 0, _, _, _ => none
  | fu + 1, x1, x2, t => bX12_run_23 (lX12_run_23  fu) x1 x2 t
def mX12_run (x1 : Int32) (t : zS) : zR := if (t 0 71) = 0 then some ((-1), t) else zbd (mX12_isIn (Int32.toInt64 x1) 0 20000 t) fun r4883 t4884 => if r4883 = 0 then some ((-1), t4884) else lX12_run_23  zFU x1 0 t4884
set_option maxHeartbeats 4000000 in
set_option maxRecDepth 20000 in
theorem wbX12_run_23 {E : zE} {C : zC} {f : Nat} {ro : Int32 × zS} (hf : 8 ≤ f) (k23 : Int32 → Int32 → zS → zR) (hk23 : ∀ (x1 x2 : Int32) (t : zS), k23 x1 x2 t = some ro → zJ E shM C cX12_run RX12 3 f (some .int) ro t 23 [(0, .ref (za E 0)), (1, .int x1), (2, .int x2)] []) (x1 : Int32) (x2 : Int32) (t : zS) (hF : bX12_run_23 k23 x1 x2 t = some ro) : zJ E shM C cX12_run RX12 3 f (some .int) ro t 23 [(0, .ref (za E 0)), (1, .int x1), (2, .int x2)] [] := by
  unfold bX12_run_23 at hF
  refine z_iload_n 2 dX12_run_23 rfl rfl ?_
  refine z_iload_n 1 dX12_run_24 rfl rfl ?_
  refine z_icmp_ge (tgt := 45) dX12_run_25 (by decide) (fun hc => ?_) (fun hc => ?_)
  · have hF := zif_t hc hF
    refine z_aload_n 0 dX12_run_45 rfl rfl ?_
    refine z_geti fi_RX12_607 dX12_run_46 ?_
    exact z_iret hF dX12_run_49
  · have hF := zif_f hc hF
    refine z_aload_n 0 dX12_run_28 rfl rfl ?_
    refine z_geti fi_RX12_607 dX12_run_29 ?_
    refine z_if_ne (tgt := 45) dX12_run_32 (by decide) (fun hc => ?_) (fun hc => ?_)
    · have hF := zif_f hc hF
      refine z_aload_n 0 dX12_run_45 rfl rfl ?_
      refine z_geti fi_RX12_607 dX12_run_46 ?_
      exact z_iret hF dX12_run_49
    · have hF := zif_t hc hF
      refine z_aload_n 0 dX12_run_35 rfl rfl ?_
      obtain ⟨r4879, t4880, hc4881, hF⟩ := zbd_at hF
      refine z_callVv (ctX12_visit (E := E) (f := f - 1) (by omega) hc4881) yy_X12_visit yv_X12_visit ob_M_0 lk_RX12_630 (by omega) rfl rfl (Nat.le_of_ble_eq_true rfl) dX12_run_36 ?_
      obtain ⟨v4882, ev4882⟩ : ∃ y : Int32, y = (x2 + 1) := ⟨_, rfl⟩
      have hF := zlet_at ev4882 hF
      refine z_iinc (v := v4882) (lv' := [(2, .int v4882), (0, .ref (za E 0)), (1, .int x1)]) (k := 2) dX12_run_39 rfl (by rw [ev4882]; rfl) (by decide) rfl ?_
      refine z_goto (tgt := 23) dX12_run_42 (by decide) ?_
      refine z_sub [1, 2, 0] rfl ?_
      exact hk23 x1 v4882 _ hF
set_option maxHeartbeats 4000000 in
set_option maxRecDepth 20000 in
theorem wlX12_run_23 {E : zE} {C : zC} {f : Nat} {ro : Int32 × zS} (hf : 8 ≤ f) (fu : Nat) : ∀ (x1 x2 : Int32) (t : zS), lX12_run_23  fu x1 x2 t = some ro → zJ E shM C cX12_run RX12 3 f (some .int) ro t 23 [(0, .ref (za E 0)), (1, .int x1), (2, .int x2)] [] := by
  induction fu with
  | zero => intro x1 x2 t hF; cases hF
  | succ fu ih => intro x1 x2 t hF; exact wbX12_run_23 hf (lX12_run_23  fu) ih x1 x2 t hF
set_option maxHeartbeats 4000000 in
set_option maxRecDepth 20000 in
theorem ctX12_run {E : zE} {f : Nat} (hf : 8 ≤ f) {x1 : Int32} {t : zS} {ro : Int32 × zS} (hF : mX12_run  x1 t = some ro) : zM E shM f yX12_run cX12_run 3 (some .int) [.ref (za E 0), .int x1] t ro := by
  refine zM_of (by decide) (Nat.le_of_ble_eq_true rfl) (fun C => ?_)
  show zJ E shM C cX12_run RX12 3 f (some .int) ro t 0 [(0, .ref (za E 0)), (1, .int x1)] []
  unfold mX12_run at hF
  refine z_aload_n 0 dX12_run_0 rfl rfl ?_
  refine z_geti fi_RX12_404 dX12_run_1 ?_
  refine z_if_eq (tgt := 19) dX12_run_4 (by decide) (fun hc => ?_) (fun hc => ?_)
  · have hF := zif_t hc hF
    refine z_iconst (v := (-1)) dX12_run_19 (by decide) ?_
    exact z_iret hF dX12_run_20
  · have hF := zif_f hc hF
    refine z_iload_n 1 dX12_run_7 rfl rfl ?_
    refine z_i2l dX12_run_8 ?_
    refine z_lconst (v := 0) dX12_run_9 (by decide) ?_
    refine z_ldc2 kc_RX12_628 dX12_run_10 ?_
    obtain ⟨r4883, t4884, hc4885, hF⟩ := zbd_at hF
    refine z_callSi (ctX12_isIn (E := E) (f := f - 1) (by omega) hc4885) yy_X12_isIn yv_X12_isIn lk_RX12_209 (by omega) rfl rfl (Nat.le_of_ble_eq_true rfl) dX12_run_13 ?_
    refine z_if_ne (tgt := 21) dX12_run_16 (by decide) (fun hc => ?_) (fun hc => ?_)
    · have hF := zif_f hc hF
      refine z_iconst (v := 0) dX12_run_21 (by decide) ?_
      refine z_istore_n (lv' := [(2, .int 0), (0, .ref (za E 0)), (1, .int x1)]) dX12_run_22 rfl (by decide) rfl ?_
      refine z_sub [1, 2, 0] rfl ?_
      exact wlX12_run_23 hf  zFU x1 0 _ hF
    · have hF := zif_t hc hF
      refine z_iconst (v := (-1)) dX12_run_19 (by decide) ?_
      exact z_iret hF dX12_run_20
-- SessionHouseModel.output(I)I
theorem dX12_output_0 : decode cX12_output 0 = .ok (.aload_n 0, 1) := by decide +kernel
theorem dX12_output_1 : decode cX12_output 1 = .ok (.getfield 404, 3) := by decide +kernel
theorem dX12_output_4 : decode cX12_output 4 = .ok (.ifCond .eq 34, 3) := by decide +kernel
theorem dX12_output_7 : decode cX12_output 7 = .ok (.iload_n 1, 1) := by decide +kernel
theorem dX12_output_8 : decode cX12_output 8 = .ok (.i2l, 1) := by decide +kernel
theorem dX12_output_9 : decode cX12_output 9 = .ok (.lconst 0, 1) := by decide +kernel
theorem dX12_output_10 : decode cX12_output 10 = .ok (.aload_n 0, 1) := by decide +kernel
theorem dX12_output_11 : decode cX12_output 11 = .ok (.getfield 583, 3) := by decide +kernel
theorem dX12_output_14 : decode cX12_output 14 = .ok (.sipush 500, 3) := by decide +kernel
theorem dX12_output_17 : decode cX12_output 17 = .ok (.invokestatic 633, 3) := by decide +kernel
theorem dX12_output_20 : decode cX12_output 20 = .ok (.iconst 1, 1) := by decide +kernel
theorem dX12_output_21 : decode cX12_output 21 = .ok (.isub, 1) := by decide +kernel
theorem dX12_output_22 : decode cX12_output 22 = .ok (.i2l, 1) := by decide +kernel
theorem dX12_output_23 : decode cX12_output 23 = .ok (.invokestatic 209, 3) := by decide +kernel
theorem dX12_output_26 : decode cX12_output 26 = .ok (.ifCond .eq 12, 3) := by decide +kernel
theorem dX12_output_29 : decode cX12_output 29 = .ok (.aload_n 0, 1) := by decide +kernel
theorem dX12_output_30 : decode cX12_output 30 = .ok (.getfield 154, 3) := by decide +kernel
theorem dX12_output_33 : decode cX12_output 33 = .ok (.iload_n 1, 1) := by decide +kernel
theorem dX12_output_34 : decode cX12_output 34 = .ok (.iaload, 1) := by decide +kernel
theorem dX12_output_35 : decode cX12_output 35 = .ok (.goto 4, 3) := by decide +kernel
theorem dX12_output_38 : decode cX12_output 38 = .ok (.iconst 0, 1) := by decide +kernel
theorem dX12_output_39 : decode cX12_output 39 = .ok (.ireturn, 1) := by decide +kernel
def mX12_output (x1 : Int32) (t : zS) : zR := if (t 0 71) = 0 then some (0, t) else zbd (mX12_isIn (Int32.toInt64 x1) 0 (Int32.toInt64 ((if 500 < (t 0 81) then 500 else (t 0 81)) - 1)) t) fun r4886 t4887 => if r4886 = 0 then some (0, t4887) else zrd t4887 44 500 x1 fun v4889 => some (v4889, t4887)
set_option maxHeartbeats 4000000 in
set_option maxRecDepth 20000 in
theorem ctX12_output {E : zE} {f : Nat} (hf : 2 ≤ f) {x1 : Int32} {t : zS} {ro : Int32 × zS} (hF : mX12_output  x1 t = some ro) : zM E shM f yX12_output cX12_output 2 (some .int) [.ref (za E 0), .int x1] t ro := by
  refine zM_of (by decide) (Nat.le_of_ble_eq_true rfl) (fun C => ?_)
  show zJ E shM C cX12_output RX12 2 f (some .int) ro t 0 [(0, .ref (za E 0)), (1, .int x1)] []
  unfold mX12_output at hF
  refine z_aload_n 0 dX12_output_0 rfl rfl ?_
  refine z_geti fi_RX12_404 dX12_output_1 ?_
  refine z_if_eq (tgt := 38) dX12_output_4 (by decide) (fun hc => ?_) (fun hc => ?_)
  · have hF := zif_t hc hF
    refine z_iconst (v := 0) dX12_output_38 (by decide) ?_
    exact z_iret hF dX12_output_39
  · have hF := zif_f hc hF
    refine z_iload_n 1 dX12_output_7 rfl rfl ?_
    refine z_i2l dX12_output_8 ?_
    refine z_lconst (v := 0) dX12_output_9 (by decide) ?_
    refine z_aload_n 0 dX12_output_10 rfl rfl ?_
    refine z_geti fi_RX12_583 dX12_output_11 ?_
    refine z_sipush (v := 500) dX12_output_14 (by decide) ?_
    refine z_min lk_RX12_633 mm1_min mm2 mm3_min (by omega) (Nat.le_of_ble_eq_true rfl) dX12_output_17 ?_
    refine z_iconst (v := 1) dX12_output_20 (by decide) ?_
    refine z_isub dX12_output_21 ?_
    refine z_i2l dX12_output_22 ?_
    obtain ⟨r4886, t4887, hc4888, hF⟩ := zbd_at hF
    refine z_callSi (ctX12_isIn (E := E) (f := f - 1) (by omega) hc4888) yy_X12_isIn yv_X12_isIn lk_RX12_209 (by omega) rfl rfl (Nat.le_of_ble_eq_true rfl) dX12_output_23 ?_
    refine z_if_eq (tgt := 38) dX12_output_26 (by decide) (fun hc => ?_) (fun hc => ?_)
    · have hF := zif_t hc hF
      refine z_iconst (v := 0) dX12_output_38 (by decide) ?_
      exact z_iret hF dX12_output_39
    · have hF := zif_f hc hF
      refine z_aload_n 0 dX12_output_29 rfl rfl ?_
      refine z_getr fr_RX12_154 dX12_output_30 ?_
      refine z_iload_n 1 dX12_output_33 rfl rfl ?_
      obtain ⟨hi4890, hF⟩ := zrd_at hF
      refine z_iald (n := 500) rfl hi4890 dX12_output_34 ?_
      generalize t4887 44 (Int32.toNatClampNeg x1) = v4889 at hF ⊢
      refine z_goto (tgt := 39) dX12_output_35 (by decide) ?_
      exact z_iret hF dX12_output_39
-- SessionHouseModel.count(I)I
theorem dX12_count_0 : decode cX12_count 0 = .ok (.iload_n 1, 1) := by decide +kernel
theorem dX12_count_1 : decode cX12_count 1 = .ok (.bipush 8, 2) := by decide +kernel
theorem dX12_count_3 : decode cX12_count 3 = .ok (.if_icmp .ne 8, 3) := by decide +kernel
theorem dX12_count_6 : decode cX12_count 6 = .ok (.aload_n 0, 1) := by decide +kernel
theorem dX12_count_7 : decode cX12_count 7 = .ok (.getfield 586, 3) := by decide +kernel
theorem dX12_count_10 : decode cX12_count 10 = .ok (.ireturn, 1) := by decide +kernel
theorem dX12_count_11 : decode cX12_count 11 = .ok (.iload_n 1, 1) := by decide +kernel
theorem dX12_count_12 : decode cX12_count 12 = .ok (.bipush 9, 2) := by decide +kernel
theorem dX12_count_14 : decode cX12_count 14 = .ok (.if_icmp .ne 8, 3) := by decide +kernel
theorem dX12_count_17 : decode cX12_count 17 = .ok (.aload_n 0, 1) := by decide +kernel
theorem dX12_count_18 : decode cX12_count 18 = .ok (.getfield 397, 3) := by decide +kernel
theorem dX12_count_21 : decode cX12_count 21 = .ok (.ireturn, 1) := by decide +kernel
theorem dX12_count_22 : decode cX12_count 22 = .ok (.iload_n 1, 1) := by decide +kernel
theorem dX12_count_23 : decode cX12_count 23 = .ok (.i2l, 1) := by decide +kernel
theorem dX12_count_24 : decode cX12_count 24 = .ok (.lconst 0, 1) := by decide +kernel
theorem dX12_count_25 : decode cX12_count 25 = .ok (.ldc2_w 638, 3) := by decide +kernel
theorem dX12_count_28 : decode cX12_count 28 = .ok (.invokestatic 209, 3) := by decide +kernel
theorem dX12_count_31 : decode cX12_count 31 = .ok (.ifCond .ne 5, 3) := by decide +kernel
theorem dX12_count_34 : decode cX12_count 34 = .ok (.iconst (-1), 1) := by decide +kernel
theorem dX12_count_35 : decode cX12_count 35 = .ok (.ireturn, 1) := by decide +kernel
theorem dX12_count_36 : decode cX12_count 36 = .ok (.aload_n 0, 1) := by decide +kernel
theorem dX12_count_37 : decode cX12_count 37 = .ok (.getfield 404, 3) := by decide +kernel
theorem dX12_count_40 : decode cX12_count 40 = .ok (.ifCond .ne 5, 3) := by decide +kernel
theorem dX12_count_43 : decode cX12_count 43 = .ok (.iconst 0, 1) := by decide +kernel
theorem dX12_count_44 : decode cX12_count 44 = .ok (.ireturn, 1) := by decide +kernel
theorem dX12_count_45 : decode cX12_count 45 = .ok (.iload_n 1, 1) := by decide +kernel
theorem dX12_count_46 : decode cX12_count 46 = .ok (.tableswitch 77 0 6 #[42, 47, 52, 57, 62, 67, 72], 42) := by decide +kernel
theorem dX12_count_88 : decode cX12_count 88 = .ok (.aload_n 0, 1) := by decide +kernel
theorem dX12_count_89 : decode cX12_count 89 = .ok (.getfield 613, 3) := by decide +kernel
theorem dX12_count_92 : decode cX12_count 92 = .ok (.ireturn, 1) := by decide +kernel
theorem dX12_count_93 : decode cX12_count 93 = .ok (.aload_n 0, 1) := by decide +kernel
theorem dX12_count_94 : decode cX12_count 94 = .ok (.getfield 619, 3) := by decide +kernel
theorem dX12_count_97 : decode cX12_count 97 = .ok (.ireturn, 1) := by decide +kernel
theorem dX12_count_98 : decode cX12_count 98 = .ok (.aload_n 0, 1) := by decide +kernel
theorem dX12_count_99 : decode cX12_count 99 = .ok (.getfield 530, 3) := by decide +kernel
theorem dX12_count_102 : decode cX12_count 102 = .ok (.ireturn, 1) := by decide +kernel
theorem dX12_count_103 : decode cX12_count 103 = .ok (.aload_n 0, 1) := by decide +kernel
theorem dX12_count_104 : decode cX12_count 104 = .ok (.getfield 548, 3) := by decide +kernel
theorem dX12_count_107 : decode cX12_count 107 = .ok (.ireturn, 1) := by decide +kernel
theorem dX12_count_108 : decode cX12_count 108 = .ok (.aload_n 0, 1) := by decide +kernel
theorem dX12_count_109 : decode cX12_count 109 = .ok (.getfield 551, 3) := by decide +kernel
theorem dX12_count_112 : decode cX12_count 112 = .ok (.ireturn, 1) := by decide +kernel
theorem dX12_count_113 : decode cX12_count 113 = .ok (.aload_n 0, 1) := by decide +kernel
theorem dX12_count_114 : decode cX12_count 114 = .ok (.getfield 563, 3) := by decide +kernel
theorem dX12_count_117 : decode cX12_count 117 = .ok (.ireturn, 1) := by decide +kernel
theorem dX12_count_118 : decode cX12_count 118 = .ok (.aload_n 0, 1) := by decide +kernel
theorem dX12_count_119 : decode cX12_count 119 = .ok (.getfield 575, 3) := by decide +kernel
theorem dX12_count_122 : decode cX12_count 122 = .ok (.ireturn, 1) := by decide +kernel
theorem dX12_count_123 : decode cX12_count 123 = .ok (.aload_n 0, 1) := by decide +kernel
theorem dX12_count_124 : decode cX12_count 124 = .ok (.getfield 583, 3) := by decide +kernel
theorem dX12_count_127 : decode cX12_count 127 = .ok (.ireturn, 1) := by decide +kernel
def mX12_count (x1 : Int32) (t : zS) : zR := if x1 = 8 then some ((t 0 83), t) else if x1 = 9 then some ((t 0 1), t) else zbd (mX12_isIn (Int32.toInt64 x1) 0 7 t) fun r4891 t4892 => if r4891 = 0 then some ((-1), t4892) else if (t4892 0 71) = 0 then some (0, t4892) else if x1 = 0 then some ((t4892 0 77), t4892) else if x1 = 1 then some ((t4892 0 78), t4892) else if x1 = 2 then some ((t4892 0 85), t4892) else if x1 = 3 then some ((t4892 0 79), t4892) else if x1 = 4 then some ((t4892 0 80), t4892) else if x1 = 5 then some ((t4892 0 100), t4892) else if x1 = 6 then some ((t4892 0 101), t4892) else some ((t4892 0 81), t4892)
set_option maxHeartbeats 4000000 in
set_option maxRecDepth 20000 in
theorem ctX12_count {E : zE} {f : Nat} (hf : 2 ≤ f) {x1 : Int32} {t : zS} {ro : Int32 × zS} (hF : mX12_count  x1 t = some ro) : zM E shM f yX12_count cX12_count 2 (some .int) [.ref (za E 0), .int x1] t ro := by
  refine zM_of (by decide) (Nat.le_of_ble_eq_true rfl) (fun C => ?_)
  show zJ E shM C cX12_count RX12 2 f (some .int) ro t 0 [(0, .ref (za E 0)), (1, .int x1)] []
  unfold mX12_count at hF
  refine z_iload_n 1 dX12_count_0 rfl rfl ?_
  refine z_bipush (v := 8) dX12_count_1 (by decide) ?_
  refine z_icmp_ne (tgt := 11) dX12_count_3 (by decide) (fun hc => ?_) (fun hc => ?_)
  · have hF := zif_f hc hF
    refine z_iload_n 1 dX12_count_11 rfl rfl ?_
    refine z_bipush (v := 9) dX12_count_12 (by decide) ?_
    refine z_icmp_ne (tgt := 22) dX12_count_14 (by decide) (fun hc => ?_) (fun hc => ?_)
    · have hF := zif_f hc hF
      refine z_iload_n 1 dX12_count_22 rfl rfl ?_
      refine z_i2l dX12_count_23 ?_
      refine z_lconst (v := 0) dX12_count_24 (by decide) ?_
      refine z_ldc2 kc_RX12_638 dX12_count_25 ?_
      obtain ⟨r4891, t4892, hc4893, hF⟩ := zbd_at hF
      refine z_callSi (ctX12_isIn (E := E) (f := f - 1) (by omega) hc4893) yy_X12_isIn yv_X12_isIn lk_RX12_209 (by omega) rfl rfl (Nat.le_of_ble_eq_true rfl) dX12_count_28 ?_
      refine z_if_ne (tgt := 36) dX12_count_31 (by decide) (fun hc => ?_) (fun hc => ?_)
      · have hF := zif_f hc hF
        refine z_aload_n 0 dX12_count_36 rfl rfl ?_
        refine z_geti fi_RX12_404 dX12_count_37 ?_
        refine z_if_ne (tgt := 45) dX12_count_40 (by decide) (fun hc => ?_) (fun hc => ?_)
        · have hF := zif_f hc hF
          refine z_iload_n 1 dX12_count_45 rfl rfl ?_
          by_cases hc : x1 = 0
          · have hF := zif_t hc hF
            refine z_tabIn (tgt := 88) dX12_count_46 (by rw [hc]; decide) (by rw [hc]; decide) (by rw [hc]; rfl) (by decide) ?_
            refine z_aload_n 0 dX12_count_88 rfl rfl ?_
            refine z_geti fi_RX12_613 dX12_count_89 ?_
            exact z_iret hF dX12_count_92
          have hF := zif_f hc hF
          have hn4894 := hc; clear hc
          by_cases hc : x1 = 1
          · have hF := zif_t hc hF
            refine z_tabIn (tgt := 93) dX12_count_46 (by rw [hc]; decide) (by rw [hc]; decide) (by rw [hc]; rfl) (by decide) ?_
            refine z_aload_n 0 dX12_count_93 rfl rfl ?_
            refine z_geti fi_RX12_619 dX12_count_94 ?_
            exact z_iret hF dX12_count_97
          have hF := zif_f hc hF
          have hn4895 := hc; clear hc
          by_cases hc : x1 = 2
          · have hF := zif_t hc hF
            refine z_tabIn (tgt := 98) dX12_count_46 (by rw [hc]; decide) (by rw [hc]; decide) (by rw [hc]; rfl) (by decide) ?_
            refine z_aload_n 0 dX12_count_98 rfl rfl ?_
            refine z_geti fi_RX12_530 dX12_count_99 ?_
            exact z_iret hF dX12_count_102
          have hF := zif_f hc hF
          have hn4896 := hc; clear hc
          by_cases hc : x1 = 3
          · have hF := zif_t hc hF
            refine z_tabIn (tgt := 103) dX12_count_46 (by rw [hc]; decide) (by rw [hc]; decide) (by rw [hc]; rfl) (by decide) ?_
            refine z_aload_n 0 dX12_count_103 rfl rfl ?_
            refine z_geti fi_RX12_548 dX12_count_104 ?_
            exact z_iret hF dX12_count_107
          have hF := zif_f hc hF
          have hn4897 := hc; clear hc
          by_cases hc : x1 = 4
          · have hF := zif_t hc hF
            refine z_tabIn (tgt := 108) dX12_count_46 (by rw [hc]; decide) (by rw [hc]; decide) (by rw [hc]; rfl) (by decide) ?_
            refine z_aload_n 0 dX12_count_108 rfl rfl ?_
            refine z_geti fi_RX12_551 dX12_count_109 ?_
            exact z_iret hF dX12_count_112
          have hF := zif_f hc hF
          have hn4898 := hc; clear hc
          by_cases hc : x1 = 5
          · have hF := zif_t hc hF
            refine z_tabIn (tgt := 113) dX12_count_46 (by rw [hc]; decide) (by rw [hc]; decide) (by rw [hc]; rfl) (by decide) ?_
            refine z_aload_n 0 dX12_count_113 rfl rfl ?_
            refine z_geti fi_RX12_563 dX12_count_114 ?_
            exact z_iret hF dX12_count_117
          have hF := zif_f hc hF
          have hn4899 := hc; clear hc
          by_cases hc : x1 = 6
          · have hF := zif_t hc hF
            refine z_tabIn (tgt := 118) dX12_count_46 (by rw [hc]; decide) (by rw [hc]; decide) (by rw [hc]; rfl) (by decide) ?_
            refine z_aload_n 0 dX12_count_118 rfl rfl ?_
            refine z_geti fi_RX12_575 dX12_count_119 ?_
            exact z_iret hF dX12_count_122
          have hF := zif_f hc hF
          have hn4900 := hc; clear hc
          have hO : (x1).toInt < 0 ∨ 6 < (x1).toInt := by
            have qhn4894 := lv_neT (a := 0) hn4894 (by decide)
            have qhn4895 := lv_neT (a := 1) hn4895 (by decide)
            have qhn4896 := lv_neT (a := 2) hn4896 (by decide)
            have qhn4897 := lv_neT (a := 3) hn4897 (by decide)
            have qhn4898 := lv_neT (a := 4) hn4898 (by decide)
            have qhn4899 := lv_neT (a := 5) hn4899 (by decide)
            have qhn4900 := lv_neT (a := 6) hn4900 (by decide)
            omega
          refine z_tabOut (tgt := 123) dX12_count_46 hO (by decide) ?_
          refine z_aload_n 0 dX12_count_123 rfl rfl ?_
          refine z_geti fi_RX12_583 dX12_count_124 ?_
          exact z_iret hF dX12_count_127
        · have hF := zif_t hc hF
          refine z_iconst (v := 0) dX12_count_43 (by decide) ?_
          exact z_iret hF dX12_count_44
      · have hF := zif_t hc hF
        refine z_iconst (v := (-1)) dX12_count_34 (by decide) ?_
        exact z_iret hF dX12_count_35
    · have hF := zif_t hc hF
      refine z_aload_n 0 dX12_count_17 rfl rfl ?_
      refine z_geti fi_RX12_397 dX12_count_18 ?_
      exact z_iret hF dX12_count_21
  · have hF := zif_t hc hF
    refine z_aload_n 0 dX12_count_6 rfl rfl ?_
    refine z_geti fi_RX12_586 dX12_count_7 ?_
    exact z_iret hF dX12_count_10
-- SessionHouseModel.process(III)I
theorem dX12_process_0 : decode cX12_process 0 = .ok (.aload_n 0, 1) := by decide +kernel
theorem dX12_process_1 : decode cX12_process 1 = .ok (.getfield 404, 3) := by decide +kernel
theorem dX12_process_4 : decode cX12_process 4 = .ok (.ifCond .eq 19, 3) := by decide +kernel
theorem dX12_process_7 : decode cX12_process 7 = .ok (.iload_n 1, 1) := by decide +kernel
theorem dX12_process_8 : decode cX12_process 8 = .ok (.i2l, 1) := by decide +kernel
theorem dX12_process_9 : decode cX12_process 9 = .ok (.lconst 0, 1) := by decide +kernel
theorem dX12_process_10 : decode cX12_process 10 = .ok (.aload_n 0, 1) := by decide +kernel
theorem dX12_process_11 : decode cX12_process 11 = .ok (.getfield 530, 3) := by decide +kernel
theorem dX12_process_14 : decode cX12_process 14 = .ok (.iconst 1, 1) := by decide +kernel
theorem dX12_process_15 : decode cX12_process 15 = .ok (.isub, 1) := by decide +kernel
theorem dX12_process_16 : decode cX12_process 16 = .ok (.i2l, 1) := by decide +kernel
theorem dX12_process_17 : decode cX12_process 17 = .ok (.invokestatic 209, 3) := by decide +kernel
theorem dX12_process_20 : decode cX12_process 20 = .ok (.ifCond .ne 13, 3) := by decide +kernel
theorem dX12_process_23 : decode cX12_process 23 = .ok (.iload_n 2, 1) := by decide +kernel
theorem dX12_process_24 : decode cX12_process 24 = .ok (.ifCond .ne 7, 3) := by decide +kernel
theorem dX12_process_27 : decode cX12_process 27 = .ok (.iconst (-1), 1) := by decide +kernel
theorem dX12_process_28 : decode cX12_process 28 = .ok (.goto 4, 3) := by decide +kernel
theorem dX12_process_31 : decode cX12_process 31 = .ok (.iconst 0, 1) := by decide +kernel
theorem dX12_process_32 : decode cX12_process 32 = .ok (.ireturn, 1) := by decide +kernel
theorem dX12_process_33 : decode cX12_process 33 = .ok (.aload_n 0, 1) := by decide +kernel
theorem dX12_process_34 : decode cX12_process 34 = .ok (.getfield 160, 3) := by decide +kernel
theorem dX12_process_37 : decode cX12_process 37 = .ok (.iload_n 1, 1) := by decide +kernel
theorem dX12_process_38 : decode cX12_process 38 = .ok (.iaload, 1) := by decide +kernel
theorem dX12_process_39 : decode cX12_process 39 = .ok (.istore 4, 2) := by decide +kernel
theorem dX12_process_41 : decode cX12_process 41 = .ok (.iload_n 2, 1) := by decide +kernel
theorem dX12_process_42 : decode cX12_process 42 = .ok (.ifCond .ne 11, 3) := by decide +kernel
theorem dX12_process_45 : decode cX12_process 45 = .ok (.aload_n 0, 1) := by decide +kernel
theorem dX12_process_46 : decode cX12_process 46 = .ok (.getfield 166, 3) := by decide +kernel
theorem dX12_process_49 : decode cX12_process 49 = .ok (.iload 4, 2) := by decide +kernel
theorem dX12_process_51 : decode cX12_process 51 = .ok (.iaload, 1) := by decide +kernel
theorem dX12_process_52 : decode cX12_process 52 = .ok (.ireturn, 1) := by decide +kernel
theorem dX12_process_53 : decode cX12_process 53 = .ok (.iload_n 2, 1) := by decide +kernel
theorem dX12_process_54 : decode cX12_process 54 = .ok (.iconst 2, 1) := by decide +kernel
theorem dX12_process_55 : decode cX12_process 55 = .ok (.if_icmp .ne 11, 3) := by decide +kernel
theorem dX12_process_58 : decode cX12_process 58 = .ok (.aload_n 0, 1) := by decide +kernel
theorem dX12_process_59 : decode cX12_process 59 = .ok (.getfield 172, 3) := by decide +kernel
theorem dX12_process_62 : decode cX12_process 62 = .ok (.iload 4, 2) := by decide +kernel
theorem dX12_process_64 : decode cX12_process 64 = .ok (.iaload, 1) := by decide +kernel
theorem dX12_process_65 : decode cX12_process 65 = .ok (.ireturn, 1) := by decide +kernel
theorem dX12_process_66 : decode cX12_process 66 = .ok (.iconst 0, 1) := by decide +kernel
theorem dX12_process_67 : decode cX12_process 67 = .ok (.istore 5, 2) := by decide +kernel
theorem dX12_process_69 : decode cX12_process 69 = .ok (.iconst 0, 1) := by decide +kernel
theorem dX12_process_70 : decode cX12_process 70 = .ok (.istore 6, 2) := by decide +kernel
theorem dX12_process_72 : decode cX12_process 72 = .ok (.iload 6, 2) := by decide +kernel
theorem dX12_process_74 : decode cX12_process 74 = .ok (.aload_n 0, 1) := by decide +kernel
theorem dX12_process_75 : decode cX12_process 75 = .ok (.aload_n 0, 1) := by decide +kernel
theorem dX12_process_76 : decode cX12_process 76 = .ok (.getfield 166, 3) := by decide +kernel
theorem dX12_process_79 : decode cX12_process 79 = .ok (.iload 4, 2) := by decide +kernel
theorem dX12_process_81 : decode cX12_process 81 = .ok (.iaload, 1) := by decide +kernel
theorem dX12_process_82 : decode cX12_process 82 = .ok (.invokevirtual 458, 3) := by decide +kernel
theorem dX12_process_85 : decode cX12_process 85 = .ok (.if_icmp .ge 37, 3) := by decide +kernel
theorem dX12_process_88 : decode cX12_process 88 = .ok (.iload 5, 2) := by decide +kernel
theorem dX12_process_90 : decode cX12_process 90 = .ok (.aload_n 0, 1) := by decide +kernel
theorem dX12_process_91 : decode cX12_process 91 = .ok (.getfield 181, 3) := by decide +kernel
theorem dX12_process_94 : decode cX12_process 94 = .ok (.aload_n 0, 1) := by decide +kernel
theorem dX12_process_95 : decode cX12_process 95 = .ok (.getfield 175, 3) := by decide +kernel
theorem dX12_process_98 : decode cX12_process 98 = .ok (.iload 4, 2) := by decide +kernel
theorem dX12_process_100 : decode cX12_process 100 = .ok (.iaload, 1) := by decide +kernel
theorem dX12_process_101 : decode cX12_process 101 = .ok (.iload 6, 2) := by decide +kernel
theorem dX12_process_103 : decode cX12_process 103 = .ok (.iadd, 1) := by decide +kernel
theorem dX12_process_104 : decode cX12_process 104 = .ok (.iaload, 1) := by decide +kernel
theorem dX12_process_105 : decode cX12_process 105 = .ok (.ifCond .lt 7, 3) := by decide +kernel
theorem dX12_process_108 : decode cX12_process 108 = .ok (.iconst 1, 1) := by decide +kernel
theorem dX12_process_109 : decode cX12_process 109 = .ok (.goto 4, 3) := by decide +kernel
theorem dX12_process_112 : decode cX12_process 112 = .ok (.iconst 0, 1) := by decide +kernel
theorem dX12_process_113 : decode cX12_process 113 = .ok (.iadd, 1) := by decide +kernel
theorem dX12_process_114 : decode cX12_process 114 = .ok (.istore 5, 2) := by decide +kernel
theorem dX12_process_116 : decode cX12_process 116 = .ok (.iinc 6 1, 3) := by decide +kernel
theorem dX12_process_119 : decode cX12_process 119 = .ok (.goto (-47), 3) := by decide +kernel
theorem dX12_process_122 : decode cX12_process 122 = .ok (.iload_n 2, 1) := by decide +kernel
theorem dX12_process_123 : decode cX12_process 123 = .ok (.iconst 1, 1) := by decide +kernel
theorem dX12_process_124 : decode cX12_process 124 = .ok (.if_icmp .ne 6, 3) := by decide +kernel
theorem dX12_process_127 : decode cX12_process 127 = .ok (.iload 5, 2) := by decide +kernel
theorem dX12_process_129 : decode cX12_process 129 = .ok (.ireturn, 1) := by decide +kernel
theorem dX12_process_130 : decode cX12_process 130 = .ok (.iload_n 2, 1) := by decide +kernel
theorem dX12_process_131 : decode cX12_process 131 = .ok (.iconst 3, 1) := by decide +kernel
theorem dX12_process_132 : decode cX12_process 132 = .ok (.if_icmp .ne 43, 3) := by decide +kernel
theorem dX12_process_135 : decode cX12_process 135 = .ok (.iload_n 3, 1) := by decide +kernel
theorem dX12_process_136 : decode cX12_process 136 = .ok (.i2l, 1) := by decide +kernel
theorem dX12_process_137 : decode cX12_process 137 = .ok (.lconst 0, 1) := by decide +kernel
theorem dX12_process_138 : decode cX12_process 138 = .ok (.aload_n 0, 1) := by decide +kernel
theorem dX12_process_139 : decode cX12_process 139 = .ok (.aload_n 0, 1) := by decide +kernel
theorem dX12_process_140 : decode cX12_process 140 = .ok (.getfield 166, 3) := by decide +kernel
theorem dX12_process_143 : decode cX12_process 143 = .ok (.iload 4, 2) := by decide +kernel
theorem dX12_process_145 : decode cX12_process 145 = .ok (.iaload, 1) := by decide +kernel
theorem dX12_process_146 : decode cX12_process 146 = .ok (.invokevirtual 458, 3) := by decide +kernel
theorem dX12_process_149 : decode cX12_process 149 = .ok (.iconst 1, 1) := by decide +kernel
theorem dX12_process_150 : decode cX12_process 150 = .ok (.isub, 1) := by decide +kernel
theorem dX12_process_151 : decode cX12_process 151 = .ok (.i2l, 1) := by decide +kernel
theorem dX12_process_152 : decode cX12_process 152 = .ok (.invokestatic 209, 3) := by decide +kernel
theorem dX12_process_155 : decode cX12_process 155 = .ok (.ifCond .eq 20, 3) := by decide +kernel
theorem dX12_process_158 : decode cX12_process 158 = .ok (.aload_n 0, 1) := by decide +kernel
theorem dX12_process_159 : decode cX12_process 159 = .ok (.getfield 178, 3) := by decide +kernel
theorem dX12_process_162 : decode cX12_process 162 = .ok (.aload_n 0, 1) := by decide +kernel
theorem dX12_process_163 : decode cX12_process 163 = .ok (.getfield 175, 3) := by decide +kernel
theorem dX12_process_166 : decode cX12_process 166 = .ok (.iload 4, 2) := by decide +kernel
theorem dX12_process_168 : decode cX12_process 168 = .ok (.iaload, 1) := by decide +kernel
theorem dX12_process_169 : decode cX12_process 169 = .ok (.iload_n 3, 1) := by decide +kernel
theorem dX12_process_170 : decode cX12_process 170 = .ok (.iadd, 1) := by decide +kernel
theorem dX12_process_171 : decode cX12_process 171 = .ok (.iaload, 1) := by decide +kernel
theorem dX12_process_172 : decode cX12_process 172 = .ok (.goto 4, 3) := by decide +kernel
theorem dX12_process_175 : decode cX12_process 175 = .ok (.iconst 0, 1) := by decide +kernel
theorem dX12_process_176 : decode cX12_process 176 = .ok (.ireturn, 1) := by decide +kernel
def bX12_process_23 (x2 : Int32) (t : zS) : zR := if x2 = 0 then some ((-1), t) else some (0, t)
def bX12_process_113 (k72 : Int32 → Int32 → Int32 → Int32 → Int32 → zS → zR) (x2 : Int32) (x3 : Int32) (x4 : Int32) (x6 : Int32) (y0 : Int32) (y1 : Int32) (t : zS) : zR := zlet (y1 + y0) fun v4901 => zlet (x6 + 1) fun v4902 => k72 x2 x3 x4 v4901 v4902 t
def bX12_process_72 (k72 : Int32 → Int32 → Int32 → Int32 → Int32 → zS → zR) (x2 : Int32) (x3 : Int32) (x4 : Int32) (x5 : Int32) (x6 : Int32) (t : zS) : zR := zrd t 48 2600 x4 fun v4903 => zbd (mX12_ownMany v4903 t) fun r4905 t4906 => if r4905 ≤ x6 then if x2 = 1 then some (x5, t4906) else if x2 = 3 then zrd t4906 48 2600 x4 fun v4908 => zbd (mX12_ownMany v4908 t4906) fun r4910 t4911 => zbd (mX12_isIn (Int32.toInt64 x3) 0 (Int32.toInt64 (r4910 - 1)) t4911) fun r4913 t4914 => if r4913 = 0 then some (0, t4914) else zrd t4914 51 2600 x4 fun v4916 => zrd t4914 52 24000 (v4916 + x3) fun v4918 => some (v4918, t4914) else some (0, t4906) else zrd t4906 51 2600 x4 fun v4920 => zrd t4906 53 24000 (v4920 + x6) fun v4922 => if v4922 < 0 then bX12_process_113 k72 x2 x3 x4 x6 0 x5 t4906 else bX12_process_113 k72 x2 x3 x4 x6 1 x5 t4906
def lX12_process_72 : Nat → Int32 → Int32 → Int32 → Int32 → Int32 → zS → zR
  | 0, _, _, _, _, _, _ => none
  | fu + 1, x2, x3, x4, x5, x6, t => bX12_process_72 (lX12_process_72  fu) x2 x3 x4 x5 x6 t
def mX12_process (x1 : Int32) (x2 : Int32) (x3 : Int32) (t : zS) : zR := if (t 0 71) = 0 then bX12_process_23  x2 t else zbd (mX12_isIn (Int32.toInt64 x1) 0 (Int32.toInt64 ((t 0 85) - 1)) t) fun r4924 t4925 => if r4924 = 0 then bX12_process_23  x2 t4925 else zrd t4925 46 2600 x1 fun v4927 => if x2 = 0 then zrd t4925 48 2600 v4927 fun v4931 => some (v4931, t4925) else if x2 = 2 then zrd t4925 50 2600 v4927 fun v4929 => some (v4929, t4925) else lX12_process_72  zFU x2 x3 v4927 0 0 t4925
set_option maxHeartbeats 4000000 in
set_option maxRecDepth 20000 in
theorem wbX12_process_23 {E : zE} {C : zC} {f : Nat} {ro : Int32 × zS} (hf : 2 ≤ f) (x2 : Int32) (t : zS) (hF : bX12_process_23  x2 t = some ro) : zJ E shM C cX12_process RX12 7 f (some .int) ro t 23 [(2, .int x2)] [] := by
  unfold bX12_process_23 at hF
  refine z_iload_n 0 dX12_process_23 rfl rfl ?_
  refine z_if_ne (tgt := 31) dX12_process_24 (by decide) (fun hc => ?_) (fun hc => ?_)
  · have hF := zif_f hc hF
    refine z_iconst (v := 0) dX12_process_31 (by decide) ?_
    exact z_iret hF dX12_process_32
  · have hF := zif_t hc hF
    refine z_iconst (v := (-1)) dX12_process_27 (by decide) ?_
    refine z_goto (tgt := 32) dX12_process_28 (by decide) ?_
    exact z_iret hF dX12_process_32
set_option maxHeartbeats 4000000 in
set_option maxRecDepth 20000 in
theorem wbX12_process_113 {E : zE} {C : zC} {f : Nat} {ro : Int32 × zS} (hf : 2 ≤ f) (k72 : Int32 → Int32 → Int32 → Int32 → Int32 → zS → zR) (hk72 : ∀ (x2 x3 x4 x5 x6 : Int32) (t : zS), k72 x2 x3 x4 x5 x6 t = some ro → zJ E shM C cX12_process RX12 7 f (some .int) ro t 72 [(0, .ref (za E 0)), (2, .int x2), (3, .int x3), (4, .int x4), (5, .int x5), (6, .int x6)] []) (x2 : Int32) (x3 : Int32) (x4 : Int32) (x6 : Int32) (y0 : Int32) (y1 : Int32) (t : zS) (hF : bX12_process_113 k72 x2 x3 x4 x6 y0 y1 t = some ro) : zJ E shM C cX12_process RX12 7 f (some .int) ro t 113 [(0, .ref (za E 0)), (2, .int x2), (3, .int x3), (4, .int x4), (6, .int x6)] [.int y0, .int y1] := by
  unfold bX12_process_113 at hF
  refine z_iadd dX12_process_113 ?_
  refine z_topi (fun v4901 ev4901 => ?_)
  have hF := zlet_at ev4901 hF
  refine z_istore (lv' := [(5, .int v4901), (0, .ref (za E 0)), (2, .int x2), (3, .int x3), (4, .int x4), (6, .int x6)]) dX12_process_114 (by decide) rfl ?_
  obtain ⟨v4902, ev4902⟩ : ∃ y : Int32, y = (x6 + 1) := ⟨_, rfl⟩
  have hF := zlet_at ev4902 hF
  refine z_iinc (v := v4902) (lv' := [(6, .int v4902), (5, .int v4901), (0, .ref (za E 0)), (2, .int x2), (3, .int x3), (4, .int x4)]) (k := 5) dX12_process_116 rfl (by rw [ev4902]; rfl) (by decide) rfl ?_
  refine z_goto (tgt := 72) dX12_process_119 (by decide) ?_
  refine z_sub [2, 3, 4, 5, 1, 0] rfl ?_
  exact hk72 x2 x3 x4 v4901 v4902 _ hF
set_option maxHeartbeats 4000000 in
set_option maxRecDepth 20000 in
theorem wbX12_process_72 {E : zE} {C : zC} {f : Nat} {ro : Int32 × zS} (hf : 2 ≤ f) (k72 : Int32 → Int32 → Int32 → Int32 → Int32 → zS → zR) (hk72 : ∀ (x2 x3 x4 x5 x6 : Int32) (t : zS), k72 x2 x3 x4 x5 x6 t = some ro → zJ E shM C cX12_process RX12 7 f (some .int) ro t 72 [(0, .ref (za E 0)), (2, .int x2), (3, .int x3), (4, .int x4), (5, .int x5), (6, .int x6)] []) (x2 : Int32) (x3 : Int32) (x4 : Int32) (x5 : Int32) (x6 : Int32) (t : zS) (hF : bX12_process_72 k72 x2 x3 x4 x5 x6 t = some ro) : zJ E shM C cX12_process RX12 7 f (some .int) ro t 72 [(0, .ref (za E 0)), (2, .int x2), (3, .int x3), (4, .int x4), (5, .int x5), (6, .int x6)] [] := by
  unfold bX12_process_72 at hF
  refine z_iload 5 dX12_process_72 rfl ?_
  refine z_aload_n 0 dX12_process_74 rfl rfl ?_
  refine z_aload_n 0 dX12_process_75 rfl rfl ?_
  refine z_getr fr_RX12_166 dX12_process_76 ?_
  refine z_iload 3 dX12_process_79 rfl ?_
  obtain ⟨hi4904, hF⟩ := zrd_at hF
  refine z_iald (n := 2600) rfl hi4904 dX12_process_81 ?_
  generalize t 48 (Int32.toNatClampNeg x4) = v4903 at hF ⊢
  obtain ⟨r4905, t4906, hc4907, hF⟩ := zbd_at hF
  refine z_callVi (ctX12_ownMany (E := E) (f := f - 1) (by omega) hc4907) yy_X12_ownMany yv_X12_ownMany ob_M_0 lk_RX12_458 (by omega) rfl rfl (Nat.le_of_ble_eq_true rfl) dX12_process_82 ?_
  refine z_icmp_ge (tgt := 122) dX12_process_85 (by decide) (fun hc => ?_) (fun hc => ?_)
  · have hF := zif_t hc hF
    refine z_iload_n 1 dX12_process_122 rfl rfl ?_
    refine z_iconst (v := 1) dX12_process_123 (by decide) ?_
    refine z_icmp_ne (tgt := 130) dX12_process_124 (by decide) (fun hc => ?_) (fun hc => ?_)
    · have hF := zif_f hc hF
      refine z_iload_n 1 dX12_process_130 rfl rfl ?_
      refine z_iconst (v := 3) dX12_process_131 (by decide) ?_
      refine z_icmp_ne (tgt := 175) dX12_process_132 (by decide) (fun hc => ?_) (fun hc => ?_)
      · have hF := zif_f hc hF
        refine z_iconst (v := 0) dX12_process_175 (by decide) ?_
        exact z_iret hF dX12_process_176
      · have hF := zif_t hc hF
        refine z_iload_n 2 dX12_process_135 rfl rfl ?_
        refine z_i2l dX12_process_136 ?_
        refine z_lconst (v := 0) dX12_process_137 (by decide) ?_
        refine z_aload_n 0 dX12_process_138 rfl rfl ?_
        refine z_aload_n 0 dX12_process_139 rfl rfl ?_
        refine z_getr fr_RX12_166 dX12_process_140 ?_
        refine z_iload 3 dX12_process_143 rfl ?_
        obtain ⟨hi4909, hF⟩ := zrd_at hF
        refine z_iald (n := 2600) rfl hi4909 dX12_process_145 ?_
        generalize t4906 48 (Int32.toNatClampNeg x4) = v4908 at hF ⊢
        obtain ⟨r4910, t4911, hc4912, hF⟩ := zbd_at hF
        refine z_callVi (ctX12_ownMany (E := E) (f := f - 1) (by omega) hc4912) yy_X12_ownMany yv_X12_ownMany ob_M_0 lk_RX12_458 (by omega) rfl rfl (Nat.le_of_ble_eq_true rfl) dX12_process_146 ?_
        refine z_iconst (v := 1) dX12_process_149 (by decide) ?_
        refine z_isub dX12_process_150 ?_
        refine z_i2l dX12_process_151 ?_
        obtain ⟨r4913, t4914, hc4915, hF⟩ := zbd_at hF
        refine z_callSi (ctX12_isIn (E := E) (f := f - 1) (by omega) hc4915) yy_X12_isIn yv_X12_isIn lk_RX12_209 (by omega) rfl rfl (Nat.le_of_ble_eq_true rfl) dX12_process_152 ?_
        refine z_if_eq (tgt := 175) dX12_process_155 (by decide) (fun hc => ?_) (fun hc => ?_)
        · have hF := zif_t hc hF
          refine z_iconst (v := 0) dX12_process_175 (by decide) ?_
          exact z_iret hF dX12_process_176
        · have hF := zif_f hc hF
          refine z_aload_n 0 dX12_process_158 rfl rfl ?_
          refine z_getr fr_RX12_178 dX12_process_159 ?_
          refine z_aload_n 0 dX12_process_162 rfl rfl ?_
          refine z_getr fr_RX12_175 dX12_process_163 ?_
          refine z_iload 3 dX12_process_166 rfl ?_
          obtain ⟨hi4917, hF⟩ := zrd_at hF
          refine z_iald (n := 2600) rfl hi4917 dX12_process_168 ?_
          generalize t4914 51 (Int32.toNatClampNeg x4) = v4916 at hF ⊢
          refine z_iload_n 2 dX12_process_169 rfl rfl ?_
          refine z_iadd dX12_process_170 ?_
          obtain ⟨hi4919, hF⟩ := zrd_at hF
          refine z_iald (n := 24000) rfl hi4919 dX12_process_171 ?_
          generalize t4914 52 (Int32.toNatClampNeg (v4916 + x3)) = v4918 at hF ⊢
          refine z_goto (tgt := 176) dX12_process_172 (by decide) ?_
          exact z_iret hF dX12_process_176
    · have hF := zif_t hc hF
      refine z_iload 4 dX12_process_127 rfl ?_
      exact z_iret hF dX12_process_129
  · have hF := zif_f hc hF
    refine z_iload 4 dX12_process_88 rfl ?_
    refine z_aload_n 0 dX12_process_90 rfl rfl ?_
    refine z_getr fr_RX12_181 dX12_process_91 ?_
    refine z_aload_n 0 dX12_process_94 rfl rfl ?_
    refine z_getr fr_RX12_175 dX12_process_95 ?_
    refine z_iload 3 dX12_process_98 rfl ?_
    obtain ⟨hi4921, hF⟩ := zrd_at hF
    refine z_iald (n := 2600) rfl hi4921 dX12_process_100 ?_
    generalize t4906 51 (Int32.toNatClampNeg x4) = v4920 at hF ⊢
    refine z_iload 5 dX12_process_101 rfl ?_
    refine z_iadd dX12_process_103 ?_
    obtain ⟨hi4923, hF⟩ := zrd_at hF
    refine z_iald (n := 24000) rfl hi4923 dX12_process_104 ?_
    generalize t4906 53 (Int32.toNatClampNeg (v4920 + x6)) = v4922 at hF ⊢
    refine z_if_lt (tgt := 112) dX12_process_105 (by decide) (fun hc => ?_) (fun hc => ?_)
    · have hF := zif_t hc hF
      refine z_iconst (v := 0) dX12_process_112 (by decide) ?_
      refine z_sub [0, 1, 2, 3, 5] rfl ?_
      exact wbX12_process_113 hf k72 hk72 x2 x3 x4 x6 0 x5 _ hF
    · have hF := zif_f hc hF
      refine z_iconst (v := 1) dX12_process_108 (by decide) ?_
      refine z_goto (tgt := 113) dX12_process_109 (by decide) ?_
      refine z_sub [0, 1, 2, 3, 5] rfl ?_
      exact wbX12_process_113 hf k72 hk72 x2 x3 x4 x6 1 x5 _ hF
set_option maxHeartbeats 4000000 in
set_option maxRecDepth 20000 in
theorem wlX12_process_72 {E : zE} {C : zC} {f : Nat} {ro : Int32 × zS} (hf : 2 ≤ f) (fu : Nat) : ∀ (x2 x3 x4 x5 x6 : Int32) (t : zS), lX12_process_72  fu x2 x3 x4 x5 x6 t = some ro → zJ E shM C cX12_process RX12 7 f (some .int) ro t 72 [(0, .ref (za E 0)), (2, .int x2), (3, .int x3), (4, .int x4), (5, .int x5), (6, .int x6)] [] := by
  induction fu with
  | zero => intro x2 x3 x4 x5 x6 t hF; cases hF
  | succ fu ih => intro x2 x3 x4 x5 x6 t hF; exact wbX12_process_72 hf (lX12_process_72  fu) ih x2 x3 x4 x5 x6 t hF
set_option maxHeartbeats 4000000 in
set_option maxRecDepth 20000 in
theorem ctX12_process {E : zE} {f : Nat} (hf : 2 ≤ f) {x1 : Int32} {x2 : Int32} {x3 : Int32} {t : zS} {ro : Int32 × zS} (hF : mX12_process  x1 x2 x3 t = some ro) : zM E shM f yX12_process cX12_process 7 (some .int) [.ref (za E 0), .int x1, .int x2, .int x3] t ro := by
  refine zM_of (by decide) (Nat.le_of_ble_eq_true rfl) (fun C => ?_)
  show zJ E shM C cX12_process RX12 7 f (some .int) ro t 0 [(0, .ref (za E 0)), (1, .int x1), (2, .int x2), (3, .int x3)] []
  unfold mX12_process at hF
  refine z_aload_n 0 dX12_process_0 rfl rfl ?_
  refine z_geti fi_RX12_404 dX12_process_1 ?_
  refine z_if_eq (tgt := 23) dX12_process_4 (by decide) (fun hc => ?_) (fun hc => ?_)
  · have hF := zif_t hc hF
    refine z_sub [2] rfl ?_
    exact wbX12_process_23 hf  x2 _ hF
  · have hF := zif_f hc hF
    refine z_iload_n 1 dX12_process_7 rfl rfl ?_
    refine z_i2l dX12_process_8 ?_
    refine z_lconst (v := 0) dX12_process_9 (by decide) ?_
    refine z_aload_n 0 dX12_process_10 rfl rfl ?_
    refine z_geti fi_RX12_530 dX12_process_11 ?_
    refine z_iconst (v := 1) dX12_process_14 (by decide) ?_
    refine z_isub dX12_process_15 ?_
    refine z_i2l dX12_process_16 ?_
    obtain ⟨r4924, t4925, hc4926, hF⟩ := zbd_at hF
    refine z_callSi (ctX12_isIn (E := E) (f := f - 1) (by omega) hc4926) yy_X12_isIn yv_X12_isIn lk_RX12_209 (by omega) rfl rfl (Nat.le_of_ble_eq_true rfl) dX12_process_17 ?_
    refine z_if_ne (tgt := 33) dX12_process_20 (by decide) (fun hc => ?_) (fun hc => ?_)
    · have hF := zif_f hc hF
      refine z_aload_n 0 dX12_process_33 rfl rfl ?_
      refine z_getr fr_RX12_160 dX12_process_34 ?_
      refine z_iload_n 1 dX12_process_37 rfl rfl ?_
      obtain ⟨hi4928, hF⟩ := zrd_at hF
      refine z_iald (n := 2600) rfl hi4928 dX12_process_38 ?_
      generalize t4925 46 (Int32.toNatClampNeg x1) = v4927 at hF ⊢
      refine z_istore (lv' := [(4, .int v4927), (0, .ref (za E 0)), (1, .int x1), (2, .int x2), (3, .int x3)]) dX12_process_39 (by decide) rfl ?_
      refine z_iload_n 3 dX12_process_41 rfl rfl ?_
      refine z_if_ne (tgt := 53) dX12_process_42 (by decide) (fun hc => ?_) (fun hc => ?_)
      · have hF := zif_f hc hF
        refine z_iload_n 3 dX12_process_53 rfl rfl ?_
        refine z_iconst (v := 2) dX12_process_54 (by decide) ?_
        refine z_icmp_ne (tgt := 66) dX12_process_55 (by decide) (fun hc => ?_) (fun hc => ?_)
        · have hF := zif_f hc hF
          refine z_iconst (v := 0) dX12_process_66 (by decide) ?_
          refine z_istore (lv' := [(5, .int 0), (4, .int v4927), (0, .ref (za E 0)), (1, .int x1), (2, .int x2), (3, .int x3)]) dX12_process_67 (by decide) rfl ?_
          refine z_iconst (v := 0) dX12_process_69 (by decide) ?_
          refine z_istore (lv' := [(6, .int 0), (5, .int 0), (4, .int v4927), (0, .ref (za E 0)), (1, .int x1), (2, .int x2), (3, .int x3)]) dX12_process_70 (by decide) rfl ?_
          refine z_sub [3, 5, 6, 2, 1, 0] rfl ?_
          exact wlX12_process_72 hf  zFU x2 x3 v4927 0 0 _ hF
        · have hF := zif_t hc hF
          refine z_aload_n 1 dX12_process_58 rfl rfl ?_
          refine z_getr fr_RX12_172 dX12_process_59 ?_
          refine z_iload 0 dX12_process_62 rfl ?_
          obtain ⟨hi4930, hF⟩ := zrd_at hF
          refine z_iald (n := 2600) rfl hi4930 dX12_process_64 ?_
          generalize t4925 50 (Int32.toNatClampNeg v4927) = v4929 at hF ⊢
          exact z_iret hF dX12_process_65
      · have hF := zif_t hc hF
        refine z_aload_n 1 dX12_process_45 rfl rfl ?_
        refine z_getr fr_RX12_166 dX12_process_46 ?_
        refine z_iload 0 dX12_process_49 rfl ?_
        obtain ⟨hi4932, hF⟩ := zrd_at hF
        refine z_iald (n := 2600) rfl hi4932 dX12_process_51 ?_
        generalize t4925 48 (Int32.toNatClampNeg v4927) = v4931 at hF ⊢
        exact z_iret hF dX12_process_52
    · have hF := zif_t hc hF
      refine z_sub [2] rfl ?_
      exact wbX12_process_23 hf  x2 _ hF
-- SessionHouseModel.types(III)I
theorem dX12_types_0 : decode cX12_types 0 = .ok (.aload_n 0, 1) := by decide +kernel
theorem dX12_types_1 : decode cX12_types 1 = .ok (.getfield 400, 3) := by decide +kernel
theorem dX12_types_4 : decode cX12_types 4 = .ok (.ifCond .eq 45, 3) := by decide +kernel
theorem dX12_types_7 : decode cX12_types 7 = .ok (.iload_n 1, 1) := by decide +kernel
theorem dX12_types_8 : decode cX12_types 8 = .ok (.i2l, 1) := by decide +kernel
theorem dX12_types_9 : decode cX12_types 9 = .ok (.lconst 0, 1) := by decide +kernel
theorem dX12_types_10 : decode cX12_types 10 = .ok (.aload_n 0, 1) := by decide +kernel
theorem dX12_types_11 : decode cX12_types 11 = .ok (.getfield 388, 3) := by decide +kernel
theorem dX12_types_14 : decode cX12_types 14 = .ok (.iconst 1, 1) := by decide +kernel
theorem dX12_types_15 : decode cX12_types 15 = .ok (.isub, 1) := by decide +kernel
theorem dX12_types_16 : decode cX12_types 16 = .ok (.i2l, 1) := by decide +kernel
theorem dX12_types_17 : decode cX12_types 17 = .ok (.invokestatic 209, 3) := by decide +kernel
theorem dX12_types_20 : decode cX12_types 20 = .ok (.ifCond .eq 29, 3) := by decide +kernel
theorem dX12_types_23 : decode cX12_types 23 = .ok (.iload_n 2, 1) := by decide +kernel
theorem dX12_types_24 : decode cX12_types 24 = .ok (.i2l, 1) := by decide +kernel
theorem dX12_types_25 : decode cX12_types 25 = .ok (.lconst 0, 1) := by decide +kernel
theorem dX12_types_26 : decode cX12_types 26 = .ok (.aload_n 0, 1) := by decide +kernel
theorem dX12_types_27 : decode cX12_types 27 = .ok (.getfield 388, 3) := by decide +kernel
theorem dX12_types_30 : decode cX12_types 30 = .ok (.iconst 1, 1) := by decide +kernel
theorem dX12_types_31 : decode cX12_types 31 = .ok (.isub, 1) := by decide +kernel
theorem dX12_types_32 : decode cX12_types 32 = .ok (.i2l, 1) := by decide +kernel
theorem dX12_types_33 : decode cX12_types 33 = .ok (.invokestatic 209, 3) := by decide +kernel
theorem dX12_types_36 : decode cX12_types 36 = .ok (.ifCond .eq 13, 3) := by decide +kernel
theorem dX12_types_39 : decode cX12_types 39 = .ok (.iload_n 3, 1) := by decide +kernel
theorem dX12_types_40 : decode cX12_types 40 = .ok (.i2l, 1) := by decide +kernel
theorem dX12_types_41 : decode cX12_types 41 = .ok (.lconst 0, 1) := by decide +kernel
theorem dX12_types_42 : decode cX12_types 42 = .ok (.lconst 1, 1) := by decide +kernel
theorem dX12_types_43 : decode cX12_types 43 = .ok (.invokestatic 209, 3) := by decide +kernel
theorem dX12_types_46 : decode cX12_types 46 = .ok (.ifCond .ne 5, 3) := by decide +kernel
theorem dX12_types_49 : decode cX12_types 49 = .ok (.iconst (-1), 1) := by decide +kernel
theorem dX12_types_50 : decode cX12_types 50 = .ok (.ireturn, 1) := by decide +kernel
theorem dX12_types_51 : decode cX12_types 51 = .ok (.aload_n 0, 1) := by decide +kernel
theorem dX12_types_52 : decode cX12_types 52 = .ok (.iconst 2, 1) := by decide +kernel
theorem dX12_types_53 : decode cX12_types 53 = .ok (.aload_n 0, 1) := by decide +kernel
theorem dX12_types_54 : decode cX12_types 54 = .ok (.getfield 46, 3) := by decide +kernel
theorem dX12_types_57 : decode cX12_types 57 = .ok (.iload_n 1, 1) := by decide +kernel
theorem dX12_types_58 : decode cX12_types 58 = .ok (.iaload, 1) := by decide +kernel
theorem dX12_types_59 : decode cX12_types 59 = .ok (.imul, 1) := by decide +kernel
theorem dX12_types_60 : decode cX12_types 60 = .ok (.iconst 2, 1) := by decide +kernel
theorem dX12_types_61 : decode cX12_types 61 = .ok (.aload_n 0, 1) := by decide +kernel
theorem dX12_types_62 : decode cX12_types 62 = .ok (.getfield 46, 3) := by decide +kernel
theorem dX12_types_65 : decode cX12_types 65 = .ok (.iload_n 2, 1) := by decide +kernel
theorem dX12_types_66 : decode cX12_types 66 = .ok (.iaload, 1) := by decide +kernel
theorem dX12_types_67 : decode cX12_types 67 = .ok (.imul, 1) := by decide +kernel
theorem dX12_types_68 : decode cX12_types 68 = .ok (.iload_n 3, 1) := by decide +kernel
theorem dX12_types_69 : decode cX12_types 69 = .ok (.iadd, 1) := by decide +kernel
theorem dX12_types_70 : decode cX12_types 70 = .ok (.invokevirtual 494, 3) := by decide +kernel
theorem dX12_types_73 : decode cX12_types 73 = .ok (.ifCond .eq 7, 3) := by decide +kernel
theorem dX12_types_76 : decode cX12_types 76 = .ok (.iconst 1, 1) := by decide +kernel
theorem dX12_types_77 : decode cX12_types 77 = .ok (.goto 4, 3) := by decide +kernel
theorem dX12_types_80 : decode cX12_types 80 = .ok (.iconst 0, 1) := by decide +kernel
theorem dX12_types_81 : decode cX12_types 81 = .ok (.ireturn, 1) := by decide +kernel
def mX12_types (x1 : Int32) (x2 : Int32) (x3 : Int32) (t : zS) : zR := if (t 0 57) = 0 then some ((-1), t) else zbd (mX12_isIn (Int32.toInt64 x1) 0 (Int32.toInt64 ((t 0 22) - 1)) t) fun r4933 t4934 => if r4933 = 0 then some ((-1), t4934) else zbd (mX12_isIn (Int32.toInt64 x2) 0 (Int32.toInt64 ((t4934 0 22) - 1)) t4934) fun r4936 t4937 => if r4936 = 0 then some ((-1), t4937) else zbd (mX12_isIn (Int32.toInt64 x3) 0 1 t4937) fun r4939 t4940 => if r4939 = 0 then some ((-1), t4940) else zrd t4940 13 400 x1 fun v4942 => zrd t4940 13 400 x2 fun v4944 => zbd (mX12_areEqual (2 * v4942) ((2 * v4944) + x3) t4940) fun r4946 t4947 => if r4946 = 0 then some (0, t4947) else some (1, t4947)
set_option maxHeartbeats 4000000 in
set_option maxRecDepth 20000 in
theorem ctX12_types {E : zE} {f : Nat} (hf : 4 ≤ f) {x1 : Int32} {x2 : Int32} {x3 : Int32} {t : zS} {ro : Int32 × zS} (hF : mX12_types  x1 x2 x3 t = some ro) : zM E shM f yX12_types cX12_types 4 (some .int) [.ref (za E 0), .int x1, .int x2, .int x3] t ro := by
  refine zM_of (by decide) (Nat.le_of_ble_eq_true rfl) (fun C => ?_)
  show zJ E shM C cX12_types RX12 4 f (some .int) ro t 0 [(0, .ref (za E 0)), (1, .int x1), (2, .int x2), (3, .int x3)] []
  unfold mX12_types at hF
  refine z_aload_n 0 dX12_types_0 rfl rfl ?_
  refine z_geti fi_RX12_400 dX12_types_1 ?_
  refine z_if_eq (tgt := 49) dX12_types_4 (by decide) (fun hc => ?_) (fun hc => ?_)
  · have hF := zif_t hc hF
    refine z_iconst (v := (-1)) dX12_types_49 (by decide) ?_
    exact z_iret hF dX12_types_50
  · have hF := zif_f hc hF
    refine z_iload_n 1 dX12_types_7 rfl rfl ?_
    refine z_i2l dX12_types_8 ?_
    refine z_lconst (v := 0) dX12_types_9 (by decide) ?_
    refine z_aload_n 0 dX12_types_10 rfl rfl ?_
    refine z_geti fi_RX12_388 dX12_types_11 ?_
    refine z_iconst (v := 1) dX12_types_14 (by decide) ?_
    refine z_isub dX12_types_15 ?_
    refine z_i2l dX12_types_16 ?_
    obtain ⟨r4933, t4934, hc4935, hF⟩ := zbd_at hF
    refine z_callSi (ctX12_isIn (E := E) (f := f - 1) (by omega) hc4935) yy_X12_isIn yv_X12_isIn lk_RX12_209 (by omega) rfl rfl (Nat.le_of_ble_eq_true rfl) dX12_types_17 ?_
    refine z_if_eq (tgt := 49) dX12_types_20 (by decide) (fun hc => ?_) (fun hc => ?_)
    · have hF := zif_t hc hF
      refine z_iconst (v := (-1)) dX12_types_49 (by decide) ?_
      exact z_iret hF dX12_types_50
    · have hF := zif_f hc hF
      refine z_iload_n 2 dX12_types_23 rfl rfl ?_
      refine z_i2l dX12_types_24 ?_
      refine z_lconst (v := 0) dX12_types_25 (by decide) ?_
      refine z_aload_n 0 dX12_types_26 rfl rfl ?_
      refine z_geti fi_RX12_388 dX12_types_27 ?_
      refine z_iconst (v := 1) dX12_types_30 (by decide) ?_
      refine z_isub dX12_types_31 ?_
      refine z_i2l dX12_types_32 ?_
      obtain ⟨r4936, t4937, hc4938, hF⟩ := zbd_at hF
      refine z_callSi (ctX12_isIn (E := E) (f := f - 1) (by omega) hc4938) yy_X12_isIn yv_X12_isIn lk_RX12_209 (by omega) rfl rfl (Nat.le_of_ble_eq_true rfl) dX12_types_33 ?_
      refine z_if_eq (tgt := 49) dX12_types_36 (by decide) (fun hc => ?_) (fun hc => ?_)
      · have hF := zif_t hc hF
        refine z_iconst (v := (-1)) dX12_types_49 (by decide) ?_
        exact z_iret hF dX12_types_50
      · have hF := zif_f hc hF
        refine z_iload_n 3 dX12_types_39 rfl rfl ?_
        refine z_i2l dX12_types_40 ?_
        refine z_lconst (v := 0) dX12_types_41 (by decide) ?_
        refine z_lconst (v := 1) dX12_types_42 (by decide) ?_
        obtain ⟨r4939, t4940, hc4941, hF⟩ := zbd_at hF
        refine z_callSi (ctX12_isIn (E := E) (f := f - 1) (by omega) hc4941) yy_X12_isIn yv_X12_isIn lk_RX12_209 (by omega) rfl rfl (Nat.le_of_ble_eq_true rfl) dX12_types_43 ?_
        refine z_if_ne (tgt := 51) dX12_types_46 (by decide) (fun hc => ?_) (fun hc => ?_)
        · have hF := zif_f hc hF
          refine z_aload_n 0 dX12_types_51 rfl rfl ?_
          refine z_iconst (v := 2) dX12_types_52 (by decide) ?_
          refine z_aload_n 0 dX12_types_53 rfl rfl ?_
          refine z_getr fr_RX12_46 dX12_types_54 ?_
          refine z_iload_n 1 dX12_types_57 rfl rfl ?_
          obtain ⟨hi4943, hF⟩ := zrd_at hF
          refine z_iald (n := 400) rfl hi4943 dX12_types_58 ?_
          generalize t4940 13 (Int32.toNatClampNeg x1) = v4942 at hF ⊢
          refine z_imul dX12_types_59 ?_
          refine z_iconst (v := 2) dX12_types_60 (by decide) ?_
          refine z_aload_n 0 dX12_types_61 rfl rfl ?_
          refine z_getr fr_RX12_46 dX12_types_62 ?_
          refine z_iload_n 2 dX12_types_65 rfl rfl ?_
          obtain ⟨hi4945, hF⟩ := zrd_at hF
          refine z_iald (n := 400) rfl hi4945 dX12_types_66 ?_
          generalize t4940 13 (Int32.toNatClampNeg x2) = v4944 at hF ⊢
          refine z_imul dX12_types_67 ?_
          refine z_iload_n 3 dX12_types_68 rfl rfl ?_
          refine z_iadd dX12_types_69 ?_
          obtain ⟨r4946, t4947, hc4948, hF⟩ := zbd_at hF
          refine z_callVi (ctX12_areEqual (E := E) (f := f - 1) (by omega) hc4948) yy_X12_areEqual yv_X12_areEqual ob_M_0 lk_RX12_494 (by omega) rfl rfl (Nat.le_of_ble_eq_true rfl) dX12_types_70 ?_
          refine z_if_eq (tgt := 80) dX12_types_73 (by decide) (fun hc => ?_) (fun hc => ?_)
          · have hF := zif_t hc hF
            refine z_iconst (v := 0) dX12_types_80 (by decide) ?_
            exact z_iret hF dX12_types_81
          · have hF := zif_f hc hF
            refine z_iconst (v := 1) dX12_types_76 (by decide) ?_
            refine z_goto (tgt := 81) dX12_types_77 (by decide) ?_
            exact z_iret hF dX12_types_81
        · have hF := zif_t hc hF
          refine z_iconst (v := (-1)) dX12_types_49 (by decide) ?_
          exact z_iret hF dX12_types_50
