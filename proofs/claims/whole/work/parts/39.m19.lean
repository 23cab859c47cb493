-- SessionHouseModel.goesOn(III)V
theorem dX12_goesOn_0 : decode cX12_goesOn 0 = .ok (.aload_n 0, 1) := by decide +kernel
theorem dX12_goesOn_1 : decode cX12_goesOn 1 = .ok (.getfield 181, 3) := by decide +kernel
theorem dX12_goesOn_4 : decode cX12_goesOn 4 = .ok (.aload_n 0, 1) := by decide +kernel
theorem dX12_goesOn_5 : decode cX12_goesOn 5 = .ok (.getfield 175, 3) := by decide +kernel
theorem dX12_goesOn_8 : decode cX12_goesOn 8 = .ok (.iload_n 1, 1) := by decide +kernel
theorem dX12_goesOn_9 : decode cX12_goesOn 9 = .ok (.iaload, 1) := by decide +kernel
theorem dX12_goesOn_10 : decode cX12_goesOn 10 = .ok (.iload_n 2, 1) := by decide +kernel
theorem dX12_goesOn_11 : decode cX12_goesOn 11 = .ok (.iadd, 1) := by decide +kernel
theorem dX12_goesOn_12 : decode cX12_goesOn 12 = .ok (.iaload, 1) := by decide +kernel
theorem dX12_goesOn_13 : decode cX12_goesOn 13 = .ok (.istore 4, 2) := by decide +kernel
theorem dX12_goesOn_15 : decode cX12_goesOn 15 = .ok (.aload_n 0, 1) := by decide +kernel
theorem dX12_goesOn_16 : decode cX12_goesOn 16 = .ok (.iload_n 3, 1) := by decide +kernel
theorem dX12_goesOn_17 : decode cX12_goesOn 17 = .ok (.invokevirtual 445, 3) := by decide +kernel
theorem dX12_goesOn_20 : decode cX12_goesOn 20 = .ok (.ifCond .eq 12, 3) := by decide +kernel
theorem dX12_goesOn_23 : decode cX12_goesOn 23 = .ok (.aload_n 0, 1) := by decide +kernel
theorem dX12_goesOn_24 : decode cX12_goesOn 24 = .ok (.getfield 187, 3) := by decide +kernel
theorem dX12_goesOn_27 : decode cX12_goesOn 27 = .ok (.iload 4, 2) := by decide +kernel
theorem dX12_goesOn_29 : decode cX12_goesOn 29 = .ok (.iload_n 3, 1) := by decide +kernel
theorem dX12_goesOn_30 : decode cX12_goesOn 30 = .ok (.iastore, 1) := by decide +kernel
theorem dX12_goesOn_31 : decode cX12_goesOn 31 = .ok (.return_, 1) := by decide +kernel
theorem dX12_goesOn_32 : decode cX12_goesOn 32 = .ok (.aload_n 0, 1) := by decide +kernel
theorem dX12_goesOn_33 : decode cX12_goesOn 33 = .ok (.getfield 187, 3) := by decide +kernel
theorem dX12_goesOn_36 : decode cX12_goesOn 36 = .ok (.iload 4, 2) := by decide +kernel
theorem dX12_goesOn_38 : decode cX12_goesOn 38 = .ok (.iconst (-1), 1) := by decide +kernel
theorem dX12_goesOn_39 : decode cX12_goesOn 39 = .ok (.iastore, 1) := by decide +kernel
theorem dX12_goesOn_40 : decode cX12_goesOn 40 = .ok (.aload_n 0, 1) := by decide +kernel
theorem dX12_goesOn_41 : decode cX12_goesOn 41 = .ok (.getfield 181, 3) := by decide +kernel
theorem dX12_goesOn_44 : decode cX12_goesOn 44 = .ok (.aload_n 0, 1) := by decide +kernel
theorem dX12_goesOn_45 : decode cX12_goesOn 45 = .ok (.getfield 175, 3) := by decide +kernel
theorem dX12_goesOn_48 : decode cX12_goesOn 48 = .ok (.iload_n 1, 1) := by decide +kernel
theorem dX12_goesOn_49 : decode cX12_goesOn 49 = .ok (.iaload, 1) := by decide +kernel
theorem dX12_goesOn_50 : decode cX12_goesOn 50 = .ok (.iload_n 2, 1) := by decide +kernel
theorem dX12_goesOn_51 : decode cX12_goesOn 51 = .ok (.iadd, 1) := by decide +kernel
theorem dX12_goesOn_52 : decode cX12_goesOn 52 = .ok (.iconst (-1), 1) := by decide +kernel
theorem dX12_goesOn_53 : decode cX12_goesOn 53 = .ok (.iastore, 1) := by decide +kernel
theorem dX12_goesOn_54 : decode cX12_goesOn 54 = .ok (.aload_n 0, 1) := by decide +kernel
theorem dX12_goesOn_55 : decode cX12_goesOn 55 = .ok (.getfield 187, 3) := by decide +kernel
theorem dX12_goesOn_58 : decode cX12_goesOn 58 = .ok (.iload 4, 2) := by decide +kernel
theorem dX12_goesOn_60 : decode cX12_goesOn 60 = .ok (.iconst 1, 1) := by decide +kernel
theorem dX12_goesOn_61 : decode cX12_goesOn 61 = .ok (.ixor, 1) := by decide +kernel
theorem dX12_goesOn_62 : decode cX12_goesOn 62 = .ok (.iaload, 1) := by decide +kernel
theorem dX12_goesOn_63 : decode cX12_goesOn 63 = .ok (.ifCond .lt 4, 3) := by decide +kernel
theorem dX12_goesOn_66 : decode cX12_goesOn 66 = .ok (.return_, 1) := by decide +kernel
theorem dX12_goesOn_67 : decode cX12_goesOn 67 = .ok (.aload_n 0, 1) := by decide +kernel
theorem dX12_goesOn_68 : decode cX12_goesOn 68 = .ok (.getfield 184, 3) := by decide +kernel
theorem dX12_goesOn_71 : decode cX12_goesOn 71 = .ok (.aload_n 0, 1) := by decide +kernel
theorem dX12_goesOn_72 : decode cX12_goesOn 72 = .ok (.getfield 557, 3) := by decide +kernel
theorem dX12_goesOn_75 : decode cX12_goesOn 75 = .ok (.iload 4, 2) := by decide +kernel
theorem dX12_goesOn_77 : decode cX12_goesOn 77 = .ok (.iconst 2, 1) := by decide +kernel
theorem dX12_goesOn_78 : decode cX12_goesOn 78 = .ok (.idiv, 1) := by decide +kernel
theorem dX12_goesOn_79 : decode cX12_goesOn 79 = .ok (.iastore, 1) := by decide +kernel
theorem dX12_goesOn_80 : decode cX12_goesOn 80 = .ok (.aload_n 0, 1) := by decide +kernel
theorem dX12_goesOn_81 : decode cX12_goesOn 81 = .ok (.dup, 1) := by decide +kernel
theorem dX12_goesOn_82 : decode cX12_goesOn 82 = .ok (.getfield 557, 3) := by decide +kernel
theorem dX12_goesOn_85 : decode cX12_goesOn 85 = .ok (.iconst 1, 1) := by decide +kernel
theorem dX12_goesOn_86 : decode cX12_goesOn 86 = .ok (.iadd, 1) := by decide +kernel
theorem dX12_goesOn_87 : decode cX12_goesOn 87 = .ok (.putfield 557, 3) := by decide +kernel
theorem dX12_goesOn_90 : decode cX12_goesOn 90 = .ok (.aload_n 0, 1) := by decide +kernel
theorem dX12_goesOn_91 : decode cX12_goesOn 91 = .ok (.dup, 1) := by decide +kernel
theorem dX12_goesOn_92 : decode cX12_goesOn 92 = .ok (.getfield 563, 3) := by decide +kernel
theorem dX12_goesOn_95 : decode cX12_goesOn 95 = .ok (.iconst 1, 1) := by decide +kernel
theorem dX12_goesOn_96 : decode cX12_goesOn 96 = .ok (.isub, 1) := by decide +kernel
theorem dX12_goesOn_97 : decode cX12_goesOn 97 = .ok (.putfield 563, 3) := by decide +kernel
theorem dX12_goesOn_100 : decode cX12_goesOn 100 = .ok (.aload_n 0, 1) := by decide +kernel
theorem dX12_goesOn_101 : decode cX12_goesOn 101 = .ok (.dup, 1) := by decide +kernel
theorem dX12_goesOn_102 : decode cX12_goesOn 102 = .ok (.getfield 551, 3) := by decide +kernel
theorem dX12_goesOn_105 : decode cX12_goesOn 105 = .ok (.aload_n 0, 1) := by decide +kernel
theorem dX12_goesOn_106 : decode cX12_goesOn 106 = .ok (.invokevirtual 566, 3) := by decide +kernel
theorem dX12_goesOn_109 : decode cX12_goesOn 109 = .ok (.isub, 1) := by decide +kernel
theorem dX12_goesOn_110 : decode cX12_goesOn 110 = .ok (.putfield 551, 3) := by decide +kernel
theorem dX12_goesOn_113 : decode cX12_goesOn 113 = .ok (.return_, 1) := by decide +kernel
def mX12_goesOn (x1 : Int32) (x2 : Int32) (x3 : Int32) (t : zS) : zR := zrd t 51 2600 x1 fun v4370 => zrd t 53 24000 (v4370 + x2) fun v4372 => zbd (mX12_isOf x3 t) fun r4374 t4375 => if r4374 = 0 then zwr t4375 55 3500 v4372 (-1) fun t4378 => zrd t4378 51 2600 x1 fun v4379 => zwr t4378 53 24000 (v4379 + x2) (-1) fun t4382 => zrd t4382 55 3500 (v4372 ^^^ 1) fun v4383 => if v4383 < 0 then zwr t4382 54 1750 (t4382 0 98) (v4372 / 2) fun t4386 => zpt t4386 0 98 ((t4386 0 98) + 1) fun t4387 => zpt t4387 0 100 ((t4387 0 100) - 1) fun t4388 => zbd (mX12_channelCells  t4388) fun r4389 t4390 => zpt t4390 0 80 ((t4388 0 80) - r4389) fun t4392 => some (0, t4392) else some (0, t4382) else zwr t4375 55 3500 v4372 x3 fun t4394 => some (0, t4394)
set_option maxHeartbeats 4000000 in
set_option maxRecDepth 20000 in
theorem ctX12_goesOn {E : zE} {f : Nat} (hf : 2 ≤ f) {x1 : Int32} {x2 : Int32} {x3 : Int32} {t : zS} {ro : Int32 × zS} (hF : mX12_goesOn  x1 x2 x3 t = some ro) : zM E shM f yX12_goesOn cX12_goesOn 5 none [.ref (za E 0), .int x1, .int x2, .int x3] t ro := by
  refine zM_of (by decide) (Nat.le_of_ble_eq_true rfl) (fun C => ?_)
  show zJ E shM C cX12_goesOn RX12 5 f none ro t 0 [(0, .ref (za E 0)), (1, .int x1), (2, .int x2), (3, .int x3)] []
  unfold mX12_goesOn at hF
  refine z_aload_n 0 dX12_goesOn_0 rfl rfl ?_
  refine z_getr fr_RX12_181 dX12_goesOn_1 ?_
  refine z_aload_n 0 dX12_goesOn_4 rfl rfl ?_
  refine z_getr fr_RX12_175 dX12_goesOn_5 ?_
  refine z_iload_n 1 dX12_goesOn_8 rfl rfl ?_
  obtain ⟨hi4371, hF⟩ := zrd_at hF
  refine z_iald (n := 2600) rfl hi4371 dX12_goesOn_9 ?_
  generalize t 51 (Int32.toNatClampNeg x1) = v4370 at hF ⊢
  refine z_iload_n 2 dX12_goesOn_10 rfl rfl ?_
  refine z_iadd dX12_goesOn_11 ?_
  obtain ⟨hi4373, hF⟩ := zrd_at hF
  refine z_iald (n := 24000) rfl hi4373 dX12_goesOn_12 ?_
  generalize t 53 (Int32.toNatClampNeg (v4370 + x2)) = v4372 at hF ⊢
  refine z_istore (lv' := [(4, .int v4372), (0, .ref (za E 0)), (1, .int x1), (2, .int x2), (3, .int x3)]) dX12_goesOn_13 (by decide) rfl ?_
  refine z_aload_n 1 dX12_goesOn_15 rfl rfl ?_
  refine z_iload_n 4 dX12_goesOn_16 rfl rfl ?_
  obtain ⟨r4374, t4375, hc4376, hF⟩ := zbd_at hF
  refine z_callVi (ctX12_isOf (E := E) (f := f - 1) (by omega) hc4376) yy_X12_isOf yv_X12_isOf ob_M_0 lk_RX12_445 (by omega) rfl rfl (Nat.le_of_ble_eq_true rfl) dX12_goesOn_17 ?_
  refine z_if_eq (tgt := 32) dX12_goesOn_20 (by decide) (fun hc => ?_) (fun hc => ?_)
  · have hF := zif_t hc hF
    refine z_aload_n 1 dX12_goesOn_32 rfl rfl ?_
    refine z_getr fr_RX12_187 dX12_goesOn_33 ?_
    refine z_iload 0 dX12_goesOn_36 rfl ?_
    refine z_iconst (v := (-1)) dX12_goesOn_38 (by decide) ?_
    obtain ⟨hi4377, hF⟩ := zwr_at hF
    refine z_iast (n := 3500) rfl hi4377 dX12_goesOn_39 (fun t4378 et4378 => ?_)
    have hF := hF t4378 et4378
    refine z_aload_n 1 dX12_goesOn_40 rfl rfl ?_
    refine z_getr fr_RX12_181 dX12_goesOn_41 ?_
    refine z_aload_n 1 dX12_goesOn_44 rfl rfl ?_
    refine z_getr fr_RX12_175 dX12_goesOn_45 ?_
    refine z_iload_n 2 dX12_goesOn_48 rfl rfl ?_
    obtain ⟨hi4380, hF⟩ := zrd_at hF
    refine z_iald (n := 2600) rfl hi4380 dX12_goesOn_49 ?_
    generalize t4378 51 (Int32.toNatClampNeg x1) = v4379 at hF ⊢
    refine z_iload_n 3 dX12_goesOn_50 rfl rfl ?_
    refine z_iadd dX12_goesOn_51 ?_
    refine z_iconst (v := (-1)) dX12_goesOn_52 (by decide) ?_
    obtain ⟨hi4381, hF⟩ := zwr_at hF
    refine z_iast (n := 24000) rfl hi4381 dX12_goesOn_53 (fun t4382 et4382 => ?_)
    have hF := hF t4382 et4382
    refine z_aload_n 1 dX12_goesOn_54 rfl rfl ?_
    refine z_getr fr_RX12_187 dX12_goesOn_55 ?_
    refine z_iload 0 dX12_goesOn_58 rfl ?_
    refine z_iconst (v := 1) dX12_goesOn_60 (by decide) ?_
    refine z_ixor dX12_goesOn_61 ?_
    obtain ⟨hi4384, hF⟩ := zrd_at hF
    refine z_iald (n := 3500) rfl hi4384 dX12_goesOn_62 ?_
    generalize t4382 55 (Int32.toNatClampNeg (v4372 ^^^ 1)) = v4383 at hF ⊢
    refine z_if_lt (tgt := 67) dX12_goesOn_63 (by decide) (fun hc => ?_) (fun hc => ?_)
    · have hF := zif_t hc hF
      refine z_aload_n 1 dX12_goesOn_67 rfl rfl ?_
      refine z_getr fr_RX12_184 dX12_goesOn_68 ?_
      refine z_aload_n 1 dX12_goesOn_71 rfl rfl ?_
      refine z_geti fi_RX12_557 dX12_goesOn_72 ?_
      refine z_iload 0 dX12_goesOn_75 rfl ?_
      refine z_iconst (v := 2) dX12_goesOn_77 (by decide) ?_
      refine z_idiv dX12_goesOn_78 (by decide) ?_
      obtain ⟨hi4385, hF⟩ := zwr_at hF
      refine z_iast (n := 1750) rfl hi4385 dX12_goesOn_79 (fun t4386 et4386 => ?_)
      have hF := hF t4386 et4386
      refine z_aload_n 1 dX12_goesOn_80 rfl rfl ?_
      refine z_dup dX12_goesOn_81 rfl ?_
      refine z_geti fi_RX12_557 dX12_goesOn_82 ?_
      refine z_iconst (v := 1) dX12_goesOn_85 (by decide) ?_
      refine z_iadd dX12_goesOn_86 ?_
      refine z_puti fw_RX12_557 dX12_goesOn_87 (fun t4387 et4387 => ?_)
      have hF := zpt_at hF t4387 et4387
      refine z_aload_n 1 dX12_goesOn_90 rfl rfl ?_
      refine z_dup dX12_goesOn_91 rfl ?_
      refine z_geti fi_RX12_563 dX12_goesOn_92 ?_
      refine z_iconst (v := 1) dX12_goesOn_95 (by decide) ?_
      refine z_isub dX12_goesOn_96 ?_
      refine z_puti fw_RX12_563 dX12_goesOn_97 (fun t4388 et4388 => ?_)
      have hF := zpt_at hF t4388 et4388
      refine z_aload_n 1 dX12_goesOn_100 rfl rfl ?_
      refine z_dup dX12_goesOn_101 rfl ?_
      refine z_geti fi_RX12_551 dX12_goesOn_102 ?_
      refine z_aload_n 1 dX12_goesOn_105 rfl rfl ?_
      obtain ⟨r4389, t4390, hc4391, hF⟩ := zbd_at hF
      refine z_callVi (ctX12_channelCells (E := E) (f := f - 1) (by omega) hc4391) yy_X12_channelCells yv_X12_channelCells ob_M_0 lk_RX12_566 (by omega) rfl rfl (Nat.le_of_ble_eq_true rfl) dX12_goesOn_106 ?_
      refine z_isub dX12_goesOn_109 ?_
      refine z_puti fw_RX12_551 dX12_goesOn_110 (fun t4392 et4392 => ?_)
      have hF := zpt_at hF t4392 et4392
      exact z_vret hF dX12_goesOn_113
    · have hF := zif_f hc hF
      exact z_vret hF dX12_goesOn_66
  · have hF := zif_f hc hF
    refine z_aload_n 1 dX12_goesOn_23 rfl rfl ?_
    refine z_getr fr_RX12_187 dX12_goesOn_24 ?_
    refine z_iload 0 dX12_goesOn_27 rfl ?_
    refine z_iload_n 4 dX12_goesOn_29 rfl rfl ?_
    obtain ⟨hi4393, hF⟩ := zwr_at hF
    refine z_iast (n := 3500) rfl hi4393 dX12_goesOn_30 (fun t4394 et4394 => ?_)
    have hF := hF t4394 et4394
    exact z_vret hF dX12_goesOn_31
-- SessionHouseModel.worked(III)I
theorem dX12_worked_0 : decode cX12_worked 0 = .ok (.iload_n 1, 1) := by decide +kernel
theorem dX12_worked_1 : decode cX12_worked 1 = .ok (.lookupswitch 85 #[(42, 59), (43, 51), (45, 55), (60, 63), (69, 74)], 51) := by decide +kernel
theorem dX12_worked_52 : decode cX12_worked 52 = .ok (.iload_n 2, 1) := by decide +kernel
theorem dX12_worked_53 : decode cX12_worked 53 = .ok (.iload_n 3, 1) := by decide +kernel
theorem dX12_worked_54 : decode cX12_worked 54 = .ok (.iadd, 1) := by decide +kernel
theorem dX12_worked_55 : decode cX12_worked 55 = .ok (.ireturn, 1) := by decide +kernel
theorem dX12_worked_56 : decode cX12_worked 56 = .ok (.iload_n 2, 1) := by decide +kernel
theorem dX12_worked_57 : decode cX12_worked 57 = .ok (.iload_n 3, 1) := by decide +kernel
theorem dX12_worked_58 : decode cX12_worked 58 = .ok (.isub, 1) := by decide +kernel
theorem dX12_worked_59 : decode cX12_worked 59 = .ok (.ireturn, 1) := by decide +kernel
theorem dX12_worked_60 : decode cX12_worked 60 = .ok (.iload_n 2, 1) := by decide +kernel
theorem dX12_worked_61 : decode cX12_worked 61 = .ok (.iload_n 3, 1) := by decide +kernel
theorem dX12_worked_62 : decode cX12_worked 62 = .ok (.imul, 1) := by decide +kernel
theorem dX12_worked_63 : decode cX12_worked 63 = .ok (.ireturn, 1) := by decide +kernel
theorem dX12_worked_64 : decode cX12_worked 64 = .ok (.iload_n 2, 1) := by decide +kernel
theorem dX12_worked_65 : decode cX12_worked 65 = .ok (.iload_n 3, 1) := by decide +kernel
theorem dX12_worked_66 : decode cX12_worked 66 = .ok (.if_icmp .ge 7, 3) := by decide +kernel
theorem dX12_worked_69 : decode cX12_worked 69 = .ok (.iconst 1, 1) := by decide +kernel
theorem dX12_worked_70 : decode cX12_worked 70 = .ok (.goto 4, 3) := by decide +kernel
theorem dX12_worked_73 : decode cX12_worked 73 = .ok (.iconst 0, 1) := by decide +kernel
theorem dX12_worked_74 : decode cX12_worked 74 = .ok (.ireturn, 1) := by decide +kernel
theorem dX12_worked_75 : decode cX12_worked 75 = .ok (.iload_n 2, 1) := by decide +kernel
theorem dX12_worked_76 : decode cX12_worked 76 = .ok (.iload_n 3, 1) := by decide +kernel
theorem dX12_worked_77 : decode cX12_worked 77 = .ok (.if_icmp .ne 7, 3) := by decide +kernel
theorem dX12_worked_80 : decode cX12_worked 80 = .ok (.iconst 1, 1) := by decide +kernel
theorem dX12_worked_81 : decode cX12_worked 81 = .ok (.goto 4, 3) := by decide +kernel
theorem dX12_worked_84 : decode cX12_worked 84 = .ok (.iconst 0, 1) := by decide +kernel
theorem dX12_worked_85 : decode cX12_worked 85 = .ok (.ireturn, 1) := by decide +kernel
theorem dX12_worked_86 : decode cX12_worked 86 = .ok (.aload_n 0, 1) := by decide +kernel
theorem dX12_worked_87 : decode cX12_worked 87 = .ok (.iload_n 3, 1) := by decide +kernel
theorem dX12_worked_88 : decode cX12_worked 88 = .ok (.ifCond .ne 7, 3) := by decide +kernel
theorem dX12_worked_91 : decode cX12_worked 91 = .ok (.iconst 1, 1) := by decide +kernel
theorem dX12_worked_92 : decode cX12_worked 92 = .ok (.goto 4, 3) := by decide +kernel
theorem dX12_worked_95 : decode cX12_worked 95 = .ok (.iconst 0, 1) := by decide +kernel
theorem dX12_worked_96 : decode cX12_worked 96 = .ok (.putfield 569, 3) := by decide +kernel
theorem dX12_worked_99 : decode cX12_worked 99 = .ok (.aload_n 0, 1) := by decide +kernel
theorem dX12_worked_100 : decode cX12_worked 100 = .ok (.getfield 569, 3) := by decide +kernel
theorem dX12_worked_103 : decode cX12_worked 103 = .ok (.ifCond .eq 7, 3) := by decide +kernel
theorem dX12_worked_106 : decode cX12_worked 106 = .ok (.iconst 0, 1) := by decide +kernel
theorem dX12_worked_107 : decode cX12_worked 107 = .ok (.goto 18, 3) := by decide +kernel
theorem dX12_worked_110 : decode cX12_worked 110 = .ok (.iload_n 1, 1) := by decide +kernel
theorem dX12_worked_111 : decode cX12_worked 111 = .ok (.bipush 47, 2) := by decide +kernel
theorem dX12_worked_113 : decode cX12_worked 113 = .ok (.if_icmp .ne 9, 3) := by decide +kernel
theorem dX12_worked_116 : decode cX12_worked 116 = .ok (.iload_n 2, 1) := by decide +kernel
theorem dX12_worked_117 : decode cX12_worked 117 = .ok (.iload_n 3, 1) := by decide +kernel
theorem dX12_worked_118 : decode cX12_worked 118 = .ok (.idiv, 1) := by decide +kernel
theorem dX12_worked_119 : decode cX12_worked 119 = .ok (.goto 6, 3) := by decide +kernel
theorem dX12_worked_122 : decode cX12_worked 122 = .ok (.iload_n 2, 1) := by decide +kernel
theorem dX12_worked_123 : decode cX12_worked 123 = .ok (.iload_n 3, 1) := by decide +kernel
theorem dX12_worked_124 : decode cX12_worked 124 = .ok (.irem, 1) := by decide +kernel
theorem dX12_worked_125 : decode cX12_worked 125 = .ok (.ireturn, 1) := by decide +kernel
def bX12_worked_96 (x1 : Int32) (x2 : Int32) (x3 : Int32) (y0 : Int32) (t : zS) : zR := z01 y0 (zpt t 0 107 y0 fun t4396 => if (t4396 0 107) = 0 then if x1 = 47 then znz x3 (some ((x2 / x3), t4396)) else znz x3 (some ((x2 - x2 / x3 * x3), t4396)) else some (0, t4396))
def mX12_worked (x1 : Int32) (x2 : Int32) (x3 : Int32) (t : zS) : zR := if x1 = 42 then some ((x2 * x3), t) else if x1 = 43 then some ((x2 + x3), t) else if x1 = 45 then some ((x2 - x3), t) else if x1 = 60 then if x3 ≤ x2 then some (0, t) else some (1, t) else if x1 = 69 then if x2 = x3 then some (1, t) else some (0, t) else if x3 = 0 then bX12_worked_96  x1 x2 x3 1 t else bX12_worked_96  x1 x2 x3 0 t
set_option maxHeartbeats 4000000 in
set_option maxRecDepth 20000 in
theorem wbX12_worked_96 {E : zE} {C : zC} {f : Nat} {ro : Int32 × zS} (hf : 1 ≤ f) (x1 : Int32) (x2 : Int32) (x3 : Int32) (y0 : Int32) (t : zS) (hF : bX12_worked_96  x1 x2 x3 y0 t = some ro) : zJ E shM C cX12_worked RX12 4 f (some .int) ro t 96 [(0, .ref (za E 0)), (1, .int x1), (2, .int x2), (3, .int x3)] [.int y0, .ref (za E 0)] := by
  unfold bX12_worked_96 at hF
  obtain ⟨hz4395, hF⟩ := z01_at hF
  refine z_putz fw_RX12_569 hz4395 dX12_worked_96 (fun t4396 et4396 => ?_)
  have hF := zpt_at hF t4396 et4396
  refine z_aload_n 0 dX12_worked_99 rfl rfl ?_
  refine z_geti fi_RX12_569 dX12_worked_100 ?_
  refine z_if_eq (tgt := 110) dX12_worked_103 (by decide) (fun hc => ?_) (fun hc => ?_)
  · have hF := zif_t hc hF
    refine z_iload_n 1 dX12_worked_110 rfl rfl ?_
    refine z_bipush (v := 47) dX12_worked_111 (by decide) ?_
    refine z_icmp_ne (tgt := 122) dX12_worked_113 (by decide) (fun hc => ?_) (fun hc => ?_)
    · have hF := zif_f hc hF
      refine z_iload_n 2 dX12_worked_122 rfl rfl ?_
      refine z_iload_n 3 dX12_worked_123 rfl rfl ?_
      obtain ⟨hz4397, hF⟩ := znz_at hF
      refine z_irem dX12_worked_124 hz4397 ?_
      exact z_iret hF dX12_worked_125
    · have hF := zif_t hc hF
      refine z_iload_n 2 dX12_worked_116 rfl rfl ?_
      refine z_iload_n 3 dX12_worked_117 rfl rfl ?_
      obtain ⟨hz4398, hF⟩ := znz_at hF
      refine z_idiv dX12_worked_118 hz4398 ?_
      refine z_goto (tgt := 125) dX12_worked_119 (by decide) ?_
      exact z_iret hF dX12_worked_125
  · have hF := zif_f hc hF
    refine z_iconst (v := 0) dX12_worked_106 (by decide) ?_
    refine z_goto (tgt := 125) dX12_worked_107 (by decide) ?_
    exact z_iret hF dX12_worked_125
set_option maxHeartbeats 4000000 in
set_option maxRecDepth 20000 in
theorem ctX12_worked {E : zE} {f : Nat} (hf : 1 ≤ f) {x1 : Int32} {x2 : Int32} {x3 : Int32} {t : zS} {ro : Int32 × zS} (hF : mX12_worked  x1 x2 x3 t = some ro) : zM E shM f yX12_worked cX12_worked 4 (some .int) [.ref (za E 0), .int x1, .int x2, .int x3] t ro := by
  refine zM_of (by decide) (Nat.le_of_ble_eq_true rfl) (fun C => ?_)
  show zJ E shM C cX12_worked RX12 4 f (some .int) ro t 0 [(0, .ref (za E 0)), (1, .int x1), (2, .int x2), (3, .int x3)] []
  unfold mX12_worked at hF
  refine z_iload_n 1 dX12_worked_0 rfl rfl ?_
  by_cases hc : x1 = 42
  · have hF := zif_t hc hF
    refine z_lookup (tgt := 60) (off := 59) dX12_worked_1 (by decide) (by rw [hc] <;> rfl) (by decide) ?_
    refine z_iload_n 2 dX12_worked_60 rfl rfl ?_
    refine z_iload_n 3 dX12_worked_61 rfl rfl ?_
    refine z_imul dX12_worked_62 ?_
    exact z_iret hF dX12_worked_63
  have hF := zif_f hc hF
  have hn4399 := hc; clear hc
  by_cases hc : x1 = 43
  · have hF := zif_t hc hF
    refine z_lookup (tgt := 52) (off := 51) dX12_worked_1 (by decide) (by rw [hc] <;> rfl) (by decide) ?_
    refine z_iload_n 2 dX12_worked_52 rfl rfl ?_
    refine z_iload_n 3 dX12_worked_53 rfl rfl ?_
    refine z_iadd dX12_worked_54 ?_
    exact z_iret hF dX12_worked_55
  have hF := zif_f hc hF
  have hn4400 := hc; clear hc
  by_cases hc : x1 = 45
  · have hF := zif_t hc hF
    refine z_lookup (tgt := 56) (off := 55) dX12_worked_1 (by decide) (by rw [hc] <;> rfl) (by decide) ?_
    refine z_iload_n 2 dX12_worked_56 rfl rfl ?_
    refine z_iload_n 3 dX12_worked_57 rfl rfl ?_
    refine z_isub dX12_worked_58 ?_
    exact z_iret hF dX12_worked_59
  have hF := zif_f hc hF
  have hn4401 := hc; clear hc
  by_cases hc : x1 = 60
  · have hF := zif_t hc hF
    refine z_lookup (tgt := 64) (off := 63) dX12_worked_1 (by decide) (by rw [hc] <;> rfl) (by decide) ?_
    refine z_iload_n 2 dX12_worked_64 rfl rfl ?_
    refine z_iload_n 3 dX12_worked_65 rfl rfl ?_
    refine z_icmp_ge (tgt := 73) dX12_worked_66 (by decide) (fun hc => ?_) (fun hc => ?_)
    · have hF := zif_t hc hF
      refine z_iconst (v := 0) dX12_worked_73 (by decide) ?_
      exact z_iret hF dX12_worked_74
    · have hF := zif_f hc hF
      refine z_iconst (v := 1) dX12_worked_69 (by decide) ?_
      refine z_goto (tgt := 74) dX12_worked_70 (by decide) ?_
      exact z_iret hF dX12_worked_74
  have hF := zif_f hc hF
  have hn4402 := hc; clear hc
  by_cases hc : x1 = 69
  · have hF := zif_t hc hF
    refine z_lookup (tgt := 75) (off := 74) dX12_worked_1 (by decide) (by rw [hc] <;> rfl) (by decide) ?_
    refine z_iload_n 2 dX12_worked_75 rfl rfl ?_
    refine z_iload_n 3 dX12_worked_76 rfl rfl ?_
    refine z_icmp_ne (tgt := 84) dX12_worked_77 (by decide) (fun hc => ?_) (fun hc => ?_)
    · have hF := zif_f hc hF
      refine z_iconst (v := 0) dX12_worked_84 (by decide) ?_
      exact z_iret hF dX12_worked_85
    · have hF := zif_t hc hF
      refine z_iconst (v := 1) dX12_worked_80 (by decide) ?_
      refine z_goto (tgt := 85) dX12_worked_81 (by decide) ?_
      exact z_iret hF dX12_worked_85
  have hF := zif_f hc hF
  have hn4403 := hc; clear hc
  refine z_lookup (tgt := 86) (off := 85) dX12_worked_1 (by decide) (by simp only [List.toList_toArray]; rw [lv_osw hn4399 (by decide), lv_osw hn4400 (by decide), lv_osw hn4401 (by decide), lv_osw hn4402 (by decide), lv_osw hn4403 (by decide)] <;> rfl) (by decide) ?_
  refine z_aload_n 0 dX12_worked_86 rfl rfl ?_
  refine z_iload_n 3 dX12_worked_87 rfl rfl ?_
  refine z_if_ne (tgt := 95) dX12_worked_88 (by decide) (fun hc => ?_) (fun hc => ?_)
  · have hF := zif_f hc hF
    refine z_iconst (v := 0) dX12_worked_95 (by decide) ?_
    exact wbX12_worked_96 hf  x1 x2 x3 0 _ hF
  · have hF := zif_t hc hF
    refine z_iconst (v := 1) dX12_worked_91 (by decide) ?_
    refine z_goto (tgt := 96) dX12_worked_92 (by decide) ?_
    exact wbX12_worked_96 hf  x1 x2 x3 1 _ hF
-- SessionHouseModel.worth(II)I
theorem dX12_worth_0 : decode cX12_worth 0 = .ok (.iconst 0, 1) := by decide +kernel
theorem dX12_worth_1 : decode cX12_worth 1 = .ok (.istore_n 3, 1) := by decide +kernel
theorem dX12_worth_2 : decode cX12_worth 2 = .ok (.aload_n 0, 1) := by decide +kernel
theorem dX12_worth_3 : decode cX12_worth 3 = .ok (.iconst 0, 1) := by decide +kernel
theorem dX12_worth_4 : decode cX12_worth 4 = .ok (.putfield 569, 3) := by decide +kernel
theorem dX12_worth_7 : decode cX12_worth 7 = .ok (.iload_n 2, 1) := by decide +kernel
theorem dX12_worth_8 : decode cX12_worth 8 = .ok (.istore 4, 2) := by decide +kernel
theorem dX12_worth_10 : decode cX12_worth 10 = .ok (.aload_n 0, 1) := by decide +kernel
theorem dX12_worth_11 : decode cX12_worth 11 = .ok (.getfield 88, 3) := by decide +kernel
theorem dX12_worth_14 : decode cX12_worth 14 = .ok (.iload 4, 2) := by decide +kernel
theorem dX12_worth_16 : decode cX12_worth 16 = .ok (.iaload, 1) := by decide +kernel
theorem dX12_worth_17 : decode cX12_worth 17 = .ok (.ifCond .eq 144, 3) := by decide +kernel
theorem dX12_worth_20 : decode cX12_worth 20 = .ok (.aload_n 0, 1) := by decide +kernel
theorem dX12_worth_21 : decode cX12_worth 21 = .ok (.getfield 569, 3) := by decide +kernel
theorem dX12_worth_24 : decode cX12_worth 24 = .ok (.ifCond .ne 137, 3) := by decide +kernel
theorem dX12_worth_27 : decode cX12_worth 27 = .ok (.aload_n 0, 1) := by decide +kernel
theorem dX12_worth_28 : decode cX12_worth 28 = .ok (.getfield 88, 3) := by decide +kernel
theorem dX12_worth_31 : decode cX12_worth 31 = .ok (.iload 4, 2) := by decide +kernel
theorem dX12_worth_33 : decode cX12_worth 33 = .ok (.iaload, 1) := by decide +kernel
theorem dX12_worth_34 : decode cX12_worth 34 = .ok (.istore 5, 2) := by decide +kernel
theorem dX12_worth_36 : decode cX12_worth 36 = .ok (.iload 5, 2) := by decide +kernel
theorem dX12_worth_38 : decode cX12_worth 38 = .ok (.iconst 1, 1) := by decide +kernel
theorem dX12_worth_39 : decode cX12_worth 39 = .ok (.if_icmp .eq 9, 3) := by decide +kernel
theorem dX12_worth_42 : decode cX12_worth 42 = .ok (.iload 5, 2) := by decide +kernel
theorem dX12_worth_44 : decode cX12_worth 44 = .ok (.iconst 2, 1) := by decide +kernel
theorem dX12_worth_45 : decode cX12_worth 45 = .ok (.if_icmp .ne 53, 3) := by decide +kernel
theorem dX12_worth_48 : decode cX12_worth 48 = .ok (.iinc 4 1, 3) := by decide +kernel
theorem dX12_worth_51 : decode cX12_worth 51 = .ok (.aload_n 0, 1) := by decide +kernel
theorem dX12_worth_52 : decode cX12_worth 52 = .ok (.getfield 196, 3) := by decide +kernel
theorem dX12_worth_55 : decode cX12_worth 55 = .ok (.iload_n 3, 1) := by decide +kernel
theorem dX12_worth_56 : decode cX12_worth 56 = .ok (.iload 5, 2) := by decide +kernel
theorem dX12_worth_58 : decode cX12_worth 58 = .ok (.iconst 1, 1) := by decide +kernel
theorem dX12_worth_59 : decode cX12_worth 59 = .ok (.if_icmp .ne 13, 3) := by decide +kernel
theorem dX12_worth_62 : decode cX12_worth 62 = .ok (.aload_n 0, 1) := by decide +kernel
theorem dX12_worth_63 : decode cX12_worth 63 = .ok (.getfield 88, 3) := by decide +kernel
theorem dX12_worth_66 : decode cX12_worth 66 = .ok (.iload 4, 2) := by decide +kernel
theorem dX12_worth_68 : decode cX12_worth 68 = .ok (.iaload, 1) := by decide +kernel
theorem dX12_worth_69 : decode cX12_worth 69 = .ok (.goto 22, 3) := by decide +kernel
theorem dX12_worth_72 : decode cX12_worth 72 = .ok (.aload_n 0, 1) := by decide +kernel
theorem dX12_worth_73 : decode cX12_worth 73 = .ok (.getfield 178, 3) := by decide +kernel
theorem dX12_worth_76 : decode cX12_worth 76 = .ok (.aload_n 0, 1) := by decide +kernel
theorem dX12_worth_77 : decode cX12_worth 77 = .ok (.getfield 175, 3) := by decide +kernel
theorem dX12_worth_80 : decode cX12_worth 80 = .ok (.iload_n 1, 1) := by decide +kernel
theorem dX12_worth_81 : decode cX12_worth 81 = .ok (.iaload, 1) := by decide +kernel
theorem dX12_worth_82 : decode cX12_worth 82 = .ok (.aload_n 0, 1) := by decide +kernel
theorem dX12_worth_83 : decode cX12_worth 83 = .ok (.getfield 88, 3) := by decide +kernel
theorem dX12_worth_86 : decode cX12_worth 86 = .ok (.iload 4, 2) := by decide +kernel
theorem dX12_worth_88 : decode cX12_worth 88 = .ok (.iaload, 1) := by decide +kernel
theorem dX12_worth_89 : decode cX12_worth 89 = .ok (.iadd, 1) := by decide +kernel
theorem dX12_worth_90 : decode cX12_worth 90 = .ok (.iaload, 1) := by decide +kernel
theorem dX12_worth_91 : decode cX12_worth 91 = .ok (.iastore, 1) := by decide +kernel
theorem dX12_worth_92 : decode cX12_worth 92 = .ok (.iinc 3 1, 3) := by decide +kernel
theorem dX12_worth_95 : decode cX12_worth 95 = .ok (.goto 60, 3) := by decide +kernel
theorem dX12_worth_98 : decode cX12_worth 98 = .ok (.iload 5, 2) := by decide +kernel
theorem dX12_worth_100 : decode cX12_worth 100 = .ok (.iconst 3, 1) := by decide +kernel
theorem dX12_worth_101 : decode cX12_worth 101 = .ok (.if_icmp .ne 23, 3) := by decide +kernel
theorem dX12_worth_104 : decode cX12_worth 104 = .ok (.aload_n 0, 1) := by decide +kernel
theorem dX12_worth_105 : decode cX12_worth 105 = .ok (.getfield 196, 3) := by decide +kernel
theorem dX12_worth_108 : decode cX12_worth 108 = .ok (.iload_n 3, 1) := by decide +kernel
theorem dX12_worth_109 : decode cX12_worth 109 = .ok (.iconst 1, 1) := by decide +kernel
theorem dX12_worth_110 : decode cX12_worth 110 = .ok (.isub, 1) := by decide +kernel
theorem dX12_worth_111 : decode cX12_worth 111 = .ok (.aload_n 0, 1) := by decide +kernel
theorem dX12_worth_112 : decode cX12_worth 112 = .ok (.getfield 196, 3) := by decide +kernel
theorem dX12_worth_115 : decode cX12_worth 115 = .ok (.iload_n 3, 1) := by decide +kernel
theorem dX12_worth_116 : decode cX12_worth 116 = .ok (.iconst 1, 1) := by decide +kernel
theorem dX12_worth_117 : decode cX12_worth 117 = .ok (.isub, 1) := by decide +kernel
theorem dX12_worth_118 : decode cX12_worth 118 = .ok (.iaload, 1) := by decide +kernel
theorem dX12_worth_119 : decode cX12_worth 119 = .ok (.ineg, 1) := by decide +kernel
theorem dX12_worth_120 : decode cX12_worth 120 = .ok (.iastore, 1) := by decide +kernel
theorem dX12_worth_121 : decode cX12_worth 121 = .ok (.goto 34, 3) := by decide +kernel
theorem dX12_worth_124 : decode cX12_worth 124 = .ok (.iinc 3 (-1), 3) := by decide +kernel
theorem dX12_worth_127 : decode cX12_worth 127 = .ok (.aload_n 0, 1) := by decide +kernel
theorem dX12_worth_128 : decode cX12_worth 128 = .ok (.getfield 196, 3) := by decide +kernel
theorem dX12_worth_131 : decode cX12_worth 131 = .ok (.iload_n 3, 1) := by decide +kernel
theorem dX12_worth_132 : decode cX12_worth 132 = .ok (.iconst 1, 1) := by decide +kernel
theorem dX12_worth_133 : decode cX12_worth 133 = .ok (.isub, 1) := by decide +kernel
theorem dX12_worth_134 : decode cX12_worth 134 = .ok (.aload_n 0, 1) := by decide +kernel
theorem dX12_worth_135 : decode cX12_worth 135 = .ok (.iload 5, 2) := by decide +kernel
theorem dX12_worth_137 : decode cX12_worth 137 = .ok (.aload_n 0, 1) := by decide +kernel
theorem dX12_worth_138 : decode cX12_worth 138 = .ok (.getfield 196, 3) := by decide +kernel
theorem dX12_worth_141 : decode cX12_worth 141 = .ok (.iload_n 3, 1) := by decide +kernel
theorem dX12_worth_142 : decode cX12_worth 142 = .ok (.iconst 1, 1) := by decide +kernel
theorem dX12_worth_143 : decode cX12_worth 143 = .ok (.isub, 1) := by decide +kernel
theorem dX12_worth_144 : decode cX12_worth 144 = .ok (.iaload, 1) := by decide +kernel
theorem dX12_worth_145 : decode cX12_worth 145 = .ok (.aload_n 0, 1) := by decide +kernel
theorem dX12_worth_146 : decode cX12_worth 146 = .ok (.getfield 196, 3) := by decide +kernel
theorem dX12_worth_149 : decode cX12_worth 149 = .ok (.iload_n 3, 1) := by decide +kernel
theorem dX12_worth_150 : decode cX12_worth 150 = .ok (.iaload, 1) := by decide +kernel
theorem dX12_worth_151 : decode cX12_worth 151 = .ok (.invokevirtual 572, 3) := by decide +kernel
theorem dX12_worth_154 : decode cX12_worth 154 = .ok (.iastore, 1) := by decide +kernel
theorem dX12_worth_155 : decode cX12_worth 155 = .ok (.iinc 4 1, 3) := by decide +kernel
theorem dX12_worth_158 : decode cX12_worth 158 = .ok (.goto (-148), 3) := by decide +kernel
theorem dX12_worth_161 : decode cX12_worth 161 = .ok (.aload_n 0, 1) := by decide +kernel
theorem dX12_worth_162 : decode cX12_worth 162 = .ok (.getfield 196, 3) := by decide +kernel
theorem dX12_worth_165 : decode cX12_worth 165 = .ok (.iconst 0, 1) := by decide +kernel
theorem dX12_worth_166 : decode cX12_worth 166 = .ok (.iaload, 1) := by decide +kernel
theorem dX12_worth_167 : decode cX12_worth 167 = .ok (.ireturn, 1) := by decide +kernel
def bX12_worth_155 (k10 : Int32 → Int32 → Int32 → zS → zR) (x1 : Int32) (x3 : Int32) (x4 : Int32) (t : zS) : zR := zlet (x4 + 1) fun v4404 => k10 x1 x3 v4404 t
def bX12_worth_91 (k10 : Int32 → Int32 → Int32 → zS → zR) (x1 : Int32) (x3 : Int32) (x4 : Int32) (y0 : Int32) (y1 : Int32) (t : zS) : zR := zwr t 58 3000 y1 y0 fun t4406 => zlet (x3 + 1) fun v4407 => bX12_worth_155 k10 x1 v4407 x4 t4406
def bX12_worth_48 (k10 : Int32 → Int32 → Int32 → zS → zR) (x1 : Int32) (x3 : Int32) (x4 : Int32) (x5 : Int32) (t : zS) : zR := zlet (x4 + 1) fun v4408 => if x5 = 1 then zrd t 27 9000 v4408 fun v4415 => bX12_worth_91 k10 x1 x3 v4408 v4415 x3 t else zrd t 51 2600 x1 fun v4409 => zrd t 27 9000 v4408 fun v4411 => zrd t 52 24000 (v4409 + v4411) fun v4413 => bX12_worth_91 k10 x1 x3 v4408 v4413 x3 t
def bX12_worth_161 (t : zS) : zR := zrd t 58 3000 0 fun v4417 => some (v4417, t)
def bX12_worth_10 (k10 : Int32 → Int32 → Int32 → zS → zR) (x1 : Int32) (x3 : Int32) (x4 : Int32) (t : zS) : zR := zrd t 27 9000 x4 fun v4419 => if v4419 = 0 then bX12_worth_161   t else if (t 0 107) = 0 then zrd t 27 9000 x4 fun v4421 => if v4421 = 1 then bX12_worth_48 k10 x1 x3 x4 v4421 t else if v4421 = 2 then bX12_worth_48 k10 x1 x3 x4 v4421 t else if v4421 = 3 then zrd t 58 3000 (x3 - 1) fun v4433 => zwr t 58 3000 (x3 - 1) (-v4433) fun t4436 => bX12_worth_155 k10 x1 x3 x4 t4436 else zlet (x3 + (-1)) fun v4423 => zrd t 58 3000 (v4423 - 1) fun v4424 => zrd t 58 3000 v4423 fun v4426 => zbd (mX12_worked v4421 v4424 v4426 t) fun r4428 t4429 => zwr t4429 58 3000 (v4423 - 1) r4428 fun t4432 => bX12_worth_155 k10 x1 v4423 x4 t4432 else bX12_worth_161   t
def lX12_worth_10 : Nat → Int32 → Int32 → Int32 → zS → zR
  | 0, _, _, _, _ => none
  | fu + 1, x1, x3, x4, t => bX12_worth_10 (lX12_worth_10  fu) x1 x3 x4 t
def mX12_worth (x1 : Int32) (x2 : Int32) (t : zS) : zR := zpt t 0 107 0 fun t4437 => lX12_worth_10  zFU x1 0 x2 t4437
set_option maxHeartbeats 4000000 in
set_option maxRecDepth 20000 in
theorem wbX12_worth_155 {E : zE} {C : zC} {f : Nat} {ro : Int32 × zS} (hf : 2 ≤ f) (k10 : Int32 → Int32 → Int32 → zS → zR) (hk10 : ∀ (x1 x3 x4 : Int32) (t : zS), k10 x1 x3 x4 t = some ro → zJ E shM C cX12_worth RX12 6 f (some .int) ro t 10 [(0, .ref (za E 0)), (1, .int x1), (3, .int x3), (4, .int x4)] []) (x1 : Int32) (x3 : Int32) (x4 : Int32) (t : zS) (hF : bX12_worth_155 k10 x1 x3 x4 t = some ro) : zJ E shM C cX12_worth RX12 6 f (some .int) ro t 155 [(0, .ref (za E 0)), (1, .int x1), (3, .int x3), (4, .int x4)] [] := by
  unfold bX12_worth_155 at hF
  obtain ⟨v4404, ev4404⟩ : ∃ y : Int32, y = (x4 + 1) := ⟨_, rfl⟩
  have hF := zlet_at ev4404 hF
  refine z_iinc (v := v4404) (lv' := [(4, .int v4404), (0, .ref (za E 0)), (1, .int x1), (3, .int x3)]) (k := 3) dX12_worth_155 rfl (by rw [ev4404]; rfl) (by decide) rfl ?_
  refine z_goto (tgt := 10) dX12_worth_158 (by decide) ?_
  refine z_sub [1, 2, 3, 0] rfl ?_
  exact hk10 x1 x3 v4404 _ hF
set_option maxHeartbeats 4000000 in
set_option maxRecDepth 20000 in
theorem wbX12_worth_91 {E : zE} {C : zC} {f : Nat} {ro : Int32 × zS} (hf : 2 ≤ f) (k10 : Int32 → Int32 → Int32 → zS → zR) (hk10 : ∀ (x1 x3 x4 : Int32) (t : zS), k10 x1 x3 x4 t = some ro → zJ E shM C cX12_worth RX12 6 f (some .int) ro t 10 [(0, .ref (za E 0)), (1, .int x1), (3, .int x3), (4, .int x4)] []) (x1 : Int32) (x3 : Int32) (x4 : Int32) (y0 : Int32) (y1 : Int32) (t : zS) (hF : bX12_worth_91 k10 x1 x3 x4 y0 y1 t = some ro) : zJ E shM C cX12_worth RX12 6 f (some .int) ro t 91 [(0, .ref (za E 0)), (1, .int x1), (3, .int x3), (4, .int x4)] [.int y0, .int y1, .ref (za E 58)] := by
  unfold bX12_worth_91 at hF
  obtain ⟨hi4405, hF⟩ := zwr_at hF
  refine z_iast (n := 3000) rfl hi4405 dX12_worth_91 (fun t4406 et4406 => ?_)
  have hF := hF t4406 et4406
  obtain ⟨v4407, ev4407⟩ : ∃ y : Int32, y = (x3 + 1) := ⟨_, rfl⟩
  have hF := zlet_at ev4407 hF
  refine z_iinc (v := v4407) (lv' := [(3, .int v4407), (0, .ref (za E 0)), (1, .int x1), (4, .int x4)]) (k := 2) dX12_worth_92 rfl (by rw [ev4407]; rfl) (by decide) rfl ?_
  refine z_goto (tgt := 155) dX12_worth_95 (by decide) ?_
  refine z_sub [1, 2, 0, 3] rfl ?_
  exact wbX12_worth_155 hf k10 hk10 x1 v4407 x4 _ hF
set_option maxHeartbeats 4000000 in
set_option maxRecDepth 20000 in
theorem wbX12_worth_48 {E : zE} {C : zC} {f : Nat} {ro : Int32 × zS} (hf : 2 ≤ f) (k10 : Int32 → Int32 → Int32 → zS → zR) (hk10 : ∀ (x1 x3 x4 : Int32) (t : zS), k10 x1 x3 x4 t = some ro → zJ E shM C cX12_worth RX12 6 f (some .int) ro t 10 [(0, .ref (za E 0)), (1, .int x1), (3, .int x3), (4, .int x4)] []) (x1 : Int32) (x3 : Int32) (x4 : Int32) (x5 : Int32) (t : zS) (hF : bX12_worth_48 k10 x1 x3 x4 x5 t = some ro) : zJ E shM C cX12_worth RX12 6 f (some .int) ro t 48 [(0, .ref (za E 0)), (1, .int x1), (3, .int x3), (4, .int x4), (5, .int x5)] [] := by
  unfold bX12_worth_48 at hF
  obtain ⟨v4408, ev4408⟩ : ∃ y : Int32, y = (x4 + 1) := ⟨_, rfl⟩
  have hF := zlet_at ev4408 hF
  refine z_iinc (v := v4408) (lv' := [(4, .int v4408), (0, .ref (za E 0)), (1, .int x1), (3, .int x3), (5, .int x5)]) (k := 3) dX12_worth_48 rfl (by rw [ev4408]; rfl) (by decide) rfl ?_
  refine z_aload_n 1 dX12_worth_51 rfl rfl ?_
  refine z_getr fr_RX12_196 dX12_worth_52 ?_
  refine z_iload_n 3 dX12_worth_55 rfl rfl ?_
  refine z_iload 4 dX12_worth_56 rfl ?_
  refine z_iconst (v := 1) dX12_worth_58 (by decide) ?_
  refine z_icmp_ne (tgt := 72) dX12_worth_59 (by decide) (fun hc => ?_) (fun hc => ?_)
  · have hF := zif_f hc hF
    refine z_aload_n 1 dX12_worth_72 rfl rfl ?_
    refine z_getr fr_RX12_178 dX12_worth_73 ?_
    refine z_aload_n 1 dX12_worth_76 rfl rfl ?_
    refine z_getr fr_RX12_175 dX12_worth_77 ?_
    refine z_iload_n 2 dX12_worth_80 rfl rfl ?_
    obtain ⟨hi4410, hF⟩ := zrd_at hF
    refine z_iald (n := 2600) rfl hi4410 dX12_worth_81 ?_
    generalize t 51 (Int32.toNatClampNeg x1) = v4409 at hF ⊢
    refine z_aload_n 1 dX12_worth_82 rfl rfl ?_
    refine z_getr fr_RX12_88 dX12_worth_83 ?_
    refine z_iload 0 dX12_worth_86 rfl ?_
    obtain ⟨hi4412, hF⟩ := zrd_at hF
    refine z_iald (n := 9000) rfl hi4412 dX12_worth_88 ?_
    generalize t 27 (Int32.toNatClampNeg v4408) = v4411 at hF ⊢
    refine z_iadd dX12_worth_89 ?_
    obtain ⟨hi4414, hF⟩ := zrd_at hF
    refine z_iald (n := 24000) rfl hi4414 dX12_worth_90 ?_
    generalize t 52 (Int32.toNatClampNeg (v4409 + v4411)) = v4413 at hF ⊢
    refine z_sub [1, 2, 3, 0] rfl ?_
    exact wbX12_worth_91 hf k10 hk10 x1 x3 v4408 v4413 x3 _ hF
  · have hF := zif_t hc hF
    refine z_aload_n 1 dX12_worth_62 rfl rfl ?_
    refine z_getr fr_RX12_88 dX12_worth_63 ?_
    refine z_iload 0 dX12_worth_66 rfl ?_
    obtain ⟨hi4416, hF⟩ := zrd_at hF
    refine z_iald (n := 9000) rfl hi4416 dX12_worth_68 ?_
    generalize t 27 (Int32.toNatClampNeg v4408) = v4415 at hF ⊢
    refine z_goto (tgt := 91) dX12_worth_69 (by decide) ?_
    refine z_sub [1, 2, 3, 0] rfl ?_
    exact wbX12_worth_91 hf k10 hk10 x1 x3 v4408 v4415 x3 _ hF
set_option maxHeartbeats 4000000 in
set_option maxRecDepth 20000 in
theorem wbX12_worth_161 {E : zE} {C : zC} {f : Nat} {ro : Int32 × zS} (hf : 2 ≤ f) (t : zS) (hF : bX12_worth_161   t = some ro) : zJ E shM C cX12_worth RX12 6 f (some .int) ro t 161 [(0, .ref (za E 0))] [] := by
  unfold bX12_worth_161 at hF
  refine z_aload_n 0 dX12_worth_161 rfl rfl ?_
  refine z_getr fr_RX12_196 dX12_worth_162 ?_
  refine z_iconst (v := 0) dX12_worth_165 (by decide) ?_
  obtain ⟨hi4418, hF⟩ := zrd_at hF
  refine z_iald (n := 3000) rfl hi4418 dX12_worth_166 ?_
  generalize t 58 (Int32.toNatClampNeg 0) = v4417 at hF ⊢
  exact z_iret hF dX12_worth_167
set_option maxHeartbeats 4000000 in
set_option maxRecDepth 20000 in
theorem wbX12_worth_10 {E : zE} {C : zC} {f : Nat} {ro : Int32 × zS} (hf : 2 ≤ f) (k10 : Int32 → Int32 → Int32 → zS → zR) (hk10 : ∀ (x1 x3 x4 : Int32) (t : zS), k10 x1 x3 x4 t = some ro → zJ E shM C cX12_worth RX12 6 f (some .int) ro t 10 [(0, .ref (za E 0)), (1, .int x1), (3, .int x3), (4, .int x4)] []) (x1 : Int32) (x3 : Int32) (x4 : Int32) (t : zS) (hF : bX12_worth_10 k10 x1 x3 x4 t = some ro) : zJ E shM C cX12_worth RX12 6 f (some .int) ro t 10 [(0, .ref (za E 0)), (1, .int x1), (3, .int x3), (4, .int x4)] [] := by
  unfold bX12_worth_10 at hF
  refine z_aload_n 0 dX12_worth_10 rfl rfl ?_
  refine z_getr fr_RX12_88 dX12_worth_11 ?_
  refine z_iload 3 dX12_worth_14 rfl ?_
  obtain ⟨hi4420, hF⟩ := zrd_at hF
  refine z_iald (n := 9000) rfl hi4420 dX12_worth_16 ?_
  generalize t 27 (Int32.toNatClampNeg x4) = v4419 at hF ⊢
  refine z_if_eq (tgt := 161) dX12_worth_17 (by decide) (fun hc => ?_) (fun hc => ?_)
  · have hF := zif_t hc hF
    refine z_sub [0] rfl ?_
    exact wbX12_worth_161 hf   _ hF
  · have hF := zif_f hc hF
    refine z_aload_n 0 dX12_worth_20 rfl rfl ?_
    refine z_geti fi_RX12_569 dX12_worth_21 ?_
    refine z_if_ne (tgt := 161) dX12_worth_24 (by decide) (fun hc => ?_) (fun hc => ?_)
    · have hF := zif_f hc hF
      refine z_sub [0] rfl ?_
      exact wbX12_worth_161 hf   _ hF
    · have hF := zif_t hc hF
      refine z_aload_n 0 dX12_worth_27 rfl rfl ?_
      refine z_getr fr_RX12_88 dX12_worth_28 ?_
      refine z_iload 3 dX12_worth_31 rfl ?_
      obtain ⟨hi4422, hF⟩ := zrd_at hF
      refine z_iald (n := 9000) rfl hi4422 dX12_worth_33 ?_
      generalize t 27 (Int32.toNatClampNeg x4) = v4421 at hF ⊢
      refine z_istore (lv' := [(5, .int v4421), (0, .ref (za E 0)), (1, .int x1), (3, .int x3), (4, .int x4)]) dX12_worth_34 (by decide) rfl ?_
      refine z_iload 0 dX12_worth_36 rfl ?_
      refine z_iconst (v := 1) dX12_worth_38 (by decide) ?_
      refine z_icmp_eq (tgt := 48) dX12_worth_39 (by decide) (fun hc => ?_) (fun hc => ?_)
      · have hF := zif_t hc hF
        refine z_sub [1, 2, 3, 4, 0] rfl ?_
        exact wbX12_worth_48 hf k10 hk10 x1 x3 x4 v4421 _ hF
      · have hF := zif_f hc hF
        refine z_iload 0 dX12_worth_42 rfl ?_
        refine z_iconst (v := 2) dX12_worth_44 (by decide) ?_
        refine z_icmp_ne (tgt := 98) dX12_worth_45 (by decide) (fun hc => ?_) (fun hc => ?_)
        · have hF := zif_f hc hF
          refine z_iload 0 dX12_worth_98 rfl ?_
          refine z_iconst (v := 3) dX12_worth_100 (by decide) ?_
          refine z_icmp_ne (tgt := 124) dX12_worth_101 (by decide) (fun hc => ?_) (fun hc => ?_)
          · have hF := zif_f hc hF
            obtain ⟨v4423, ev4423⟩ : ∃ y : Int32, y = (x3 + (-1)) := ⟨_, rfl⟩
            have hF := zlet_at ev4423 hF
            refine z_iinc (v := v4423) (lv' := [(3, .int v4423), (5, .int v4421), (0, .ref (za E 0)), (1, .int x1), (4, .int x4)]) (k := 3) dX12_worth_124 rfl (by rw [ev4423]; rfl) (by decide) rfl ?_
            refine z_aload_n 2 dX12_worth_127 rfl rfl ?_
            refine z_getr fr_RX12_196 dX12_worth_128 ?_
            refine z_iload_n 0 dX12_worth_131 rfl rfl ?_
            refine z_iconst (v := 1) dX12_worth_132 (by decide) ?_
            refine z_isub dX12_worth_133 ?_
            refine z_aload_n 2 dX12_worth_134 rfl rfl ?_
            refine z_iload 1 dX12_worth_135 rfl ?_
            refine z_aload_n 2 dX12_worth_137 rfl rfl ?_
            refine z_getr fr_RX12_196 dX12_worth_138 ?_
            refine z_iload_n 0 dX12_worth_141 rfl rfl ?_
            refine z_iconst (v := 1) dX12_worth_142 (by decide) ?_
            refine z_isub dX12_worth_143 ?_
            obtain ⟨hi4425, hF⟩ := zrd_at hF
            refine z_iald (n := 3000) rfl hi4425 dX12_worth_144 ?_
            generalize t 58 (Int32.toNatClampNeg (v4423 - 1)) = v4424 at hF ⊢
            refine z_aload_n 2 dX12_worth_145 rfl rfl ?_
            refine z_getr fr_RX12_196 dX12_worth_146 ?_
            refine z_iload_n 0 dX12_worth_149 rfl rfl ?_
            obtain ⟨hi4427, hF⟩ := zrd_at hF
            refine z_iald (n := 3000) rfl hi4427 dX12_worth_150 ?_
            generalize t 58 (Int32.toNatClampNeg v4423) = v4426 at hF ⊢
            obtain ⟨r4428, t4429, hc4430, hF⟩ := zbd_at hF
            refine z_callVi (ctX12_worked (E := E) (f := f - 1) (by omega) hc4430) yy_X12_worked yv_X12_worked ob_M_0 lk_RX12_572 (by omega) rfl rfl (Nat.le_of_ble_eq_true rfl) dX12_worth_151 ?_
            obtain ⟨hi4431, hF⟩ := zwr_at hF
            refine z_iast (n := 3000) rfl hi4431 dX12_worth_154 (fun t4432 et4432 => ?_)
            have hF := hF t4432 et4432
            refine z_sub [2, 3, 0, 4] rfl ?_
            exact wbX12_worth_155 hf k10 hk10 x1 v4423 x4 _ hF
          · have hF := zif_t hc hF
            refine z_aload_n 1 dX12_worth_104 rfl rfl ?_
            refine z_getr fr_RX12_196 dX12_worth_105 ?_
            refine z_iload_n 3 dX12_worth_108 rfl rfl ?_
            refine z_iconst (v := 1) dX12_worth_109 (by decide) ?_
            refine z_isub dX12_worth_110 ?_
            refine z_aload_n 1 dX12_worth_111 rfl rfl ?_
            refine z_getr fr_RX12_196 dX12_worth_112 ?_
            refine z_iload_n 3 dX12_worth_115 rfl rfl ?_
            refine z_iconst (v := 1) dX12_worth_116 (by decide) ?_
            refine z_isub dX12_worth_117 ?_
            obtain ⟨hi4434, hF⟩ := zrd_at hF
            refine z_iald (n := 3000) rfl hi4434 dX12_worth_118 ?_
            generalize t 58 (Int32.toNatClampNeg (x3 - 1)) = v4433 at hF ⊢
            refine z_ineg dX12_worth_119 ?_
            obtain ⟨hi4435, hF⟩ := zwr_at hF
            refine z_iast (n := 3000) rfl hi4435 dX12_worth_120 (fun t4436 et4436 => ?_)
            have hF := hF t4436 et4436
            refine z_goto (tgt := 155) dX12_worth_121 (by decide) ?_
            refine z_sub [1, 2, 3, 4] rfl ?_
            exact wbX12_worth_155 hf k10 hk10 x1 x3 x4 _ hF
        · have hF := zif_t hc hF
          refine z_sub [1, 2, 3, 4, 0] rfl ?_
          exact wbX12_worth_48 hf k10 hk10 x1 x3 x4 v4421 _ hF
set_option maxHeartbeats 4000000 in
set_option maxRecDepth 20000 in
theorem wlX12_worth_10 {E : zE} {C : zC} {f : Nat} {ro : Int32 × zS} (hf : 2 ≤ f) (fu : Nat) : ∀ (x1 x3 x4 : Int32) (t : zS), lX12_worth_10  fu x1 x3 x4 t = some ro → zJ E shM C cX12_worth RX12 6 f (some .int) ro t 10 [(0, .ref (za E 0)), (1, .int x1), (3, .int x3), (4, .int x4)] [] := by
  induction fu with
  | zero => intro x1 x3 x4 t hF; cases hF
  | succ fu ih => intro x1 x3 x4 t hF; exact wbX12_worth_10 hf (lX12_worth_10  fu) ih x1 x3 x4 t hF
set_option maxHeartbeats 4000000 in
set_option maxRecDepth 20000 in
theorem ctX12_worth {E : zE} {f : Nat} (hf : 2 ≤ f) {x1 : Int32} {x2 : Int32} {t : zS} {ro : Int32 × zS} (hF : mX12_worth  x1 x2 t = some ro) : zM E shM f yX12_worth cX12_worth 6 (some .int) [.ref (za E 0), .int x1, .int x2] t ro := by
  refine zM_of (by decide) (Nat.le_of_ble_eq_true rfl) (fun C => ?_)
  show zJ E shM C cX12_worth RX12 6 f (some .int) ro t 0 [(0, .ref (za E 0)), (1, .int x1), (2, .int x2)] []
  unfold mX12_worth at hF
  refine z_iconst (v := 0) dX12_worth_0 (by decide) ?_
  refine z_istore_n (lv' := [(3, .int 0), (0, .ref (za E 0)), (1, .int x1), (2, .int x2)]) dX12_worth_1 rfl (by decide) rfl ?_
  refine z_aload_n 1 dX12_worth_2 rfl rfl ?_
  refine z_iconst (v := 0) dX12_worth_3 (by decide) ?_
  refine z_putz fw_RX12_569 (by decide) dX12_worth_4 (fun t4437 et4437 => ?_)
  have hF := zpt_at hF t4437 et4437
  refine z_iload_n 3 dX12_worth_7 rfl rfl ?_
  refine z_istore (lv' := [(4, .int x2), (3, .int 0), (0, .ref (za E 0)), (1, .int x1), (2, .int x2)]) dX12_worth_8 (by decide) rfl ?_
  refine z_sub [2, 3, 1, 0] rfl ?_
  exact wlX12_worth_10 hf  zFU x1 0 x2 _ hF
-- SessionHouseModel.gives(II)V
theorem dX12_gives_0 : decode cX12_gives 0 = .ok (.iload_n 1, 1) := by decide +kernel
theorem dX12_gives_1 : decode cX12_gives 1 = .ok (.iconst 1, 1) := by decide +kernel
theorem dX12_gives_2 : decode cX12_gives 2 = .ok (.ixor, 1) := by decide +kernel
theorem dX12_gives_3 : decode cX12_gives 3 = .ok (.istore_n 3, 1) := by decide +kernel
theorem dX12_gives_4 : decode cX12_gives 4 = .ok (.aload_n 0, 1) := by decide +kernel
theorem dX12_gives_5 : decode cX12_gives 5 = .ok (.getfield 193, 3) := by decide +kernel
theorem dX12_gives_8 : decode cX12_gives 8 = .ok (.bipush 8, 2) := by decide +kernel
theorem dX12_gives_10 : decode cX12_gives 10 = .ok (.iload_n 3, 1) := by decide +kernel
theorem dX12_gives_11 : decode cX12_gives 11 = .ok (.imul, 1) := by decide +kernel
theorem dX12_gives_12 : decode cX12_gives 12 = .ok (.aload_n 0, 1) := by decide +kernel
theorem dX12_gives_13 : decode cX12_gives 13 = .ok (.getfield 190, 3) := by decide +kernel
theorem dX12_gives_16 : decode cX12_gives 16 = .ok (.iload_n 3, 1) := by decide +kernel
theorem dX12_gives_17 : decode cX12_gives 17 = .ok (.iaload, 1) := by decide +kernel
theorem dX12_gives_18 : decode cX12_gives 18 = .ok (.iadd, 1) := by decide +kernel
theorem dX12_gives_19 : decode cX12_gives 19 = .ok (.iload_n 2, 1) := by decide +kernel
theorem dX12_gives_20 : decode cX12_gives 20 = .ok (.iastore, 1) := by decide +kernel
theorem dX12_gives_21 : decode cX12_gives 21 = .ok (.aload_n 0, 1) := by decide +kernel
theorem dX12_gives_22 : decode cX12_gives 22 = .ok (.getfield 190, 3) := by decide +kernel
theorem dX12_gives_25 : decode cX12_gives 25 = .ok (.iload_n 3, 1) := by decide +kernel
theorem dX12_gives_26 : decode cX12_gives 26 = .ok (.dup2, 1) := by decide +kernel
theorem dX12_gives_27 : decode cX12_gives 27 = .ok (.iaload, 1) := by decide +kernel
theorem dX12_gives_28 : decode cX12_gives 28 = .ok (.iconst 1, 1) := by decide +kernel
theorem dX12_gives_29 : decode cX12_gives 29 = .ok (.iadd, 1) := by decide +kernel
theorem dX12_gives_30 : decode cX12_gives 30 = .ok (.iastore, 1) := by decide +kernel
theorem dX12_gives_31 : decode cX12_gives 31 = .ok (.aload_n 0, 1) := by decide +kernel
theorem dX12_gives_32 : decode cX12_gives 32 = .ok (.dup, 1) := by decide +kernel
theorem dX12_gives_33 : decode cX12_gives 33 = .ok (.getfield 575, 3) := by decide +kernel
theorem dX12_gives_36 : decode cX12_gives 36 = .ok (.iconst 1, 1) := by decide +kernel
theorem dX12_gives_37 : decode cX12_gives 37 = .ok (.iadd, 1) := by decide +kernel
theorem dX12_gives_38 : decode cX12_gives 38 = .ok (.putfield 575, 3) := by decide +kernel
theorem dX12_gives_41 : decode cX12_gives 41 = .ok (.return_, 1) := by decide +kernel
def mX12_gives (x1 : Int32) (x2 : Int32) (t : zS) : zR := zlet (x1 ^^^ 1) fun v4438 => zrd t 56 3500 v4438 fun v4439 => zwr t 57 28000 ((8 * v4438) + v4439) x2 fun t4442 => zrd t4442 56 3500 v4438 fun v4443 => zwr t4442 56 3500 v4438 (v4443 + 1) fun t4446 => zpt t4446 0 101 ((t4446 0 101) + 1) fun t4447 => some (0, t4447)
set_option maxHeartbeats 4000000 in
set_option maxRecDepth 20000 in
theorem ctX12_gives {E : zE} {f : Nat} (hf : 1 ≤ f) {x1 : Int32} {x2 : Int32} {t : zS} {ro : Int32 × zS} (hF : mX12_gives  x1 x2 t = some ro) : zM E shM f yX12_gives cX12_gives 4 none [.ref (za E 0), .int x1, .int x2] t ro := by
  refine zM_of (by decide) (Nat.le_of_ble_eq_true rfl) (fun C => ?_)
  show zJ E shM C cX12_gives RX12 4 f none ro t 0 [(0, .ref (za E 0)), (1, .int x1), (2, .int x2)] []
  unfold mX12_gives at hF
  refine z_iload_n 1 dX12_gives_0 rfl rfl ?_
  refine z_iconst (v := 1) dX12_gives_1 (by decide) ?_
  refine z_ixor dX12_gives_2 ?_
  refine z_topi (fun v4438 ev4438 => ?_)
  have hF := zlet_at ev4438 hF
  refine z_istore_n (lv' := [(3, .int v4438), (0, .ref (za E 0)), (1, .int x1), (2, .int x2)]) dX12_gives_3 rfl (by decide) rfl ?_
  refine z_aload_n 1 dX12_gives_4 rfl rfl ?_
  refine z_getr fr_RX12_193 dX12_gives_5 ?_
  refine z_bipush (v := 8) dX12_gives_8 (by decide) ?_
  refine z_iload_n 0 dX12_gives_10 rfl rfl ?_
  refine z_imul dX12_gives_11 ?_
  refine z_aload_n 1 dX12_gives_12 rfl rfl ?_
  refine z_getr fr_RX12_190 dX12_gives_13 ?_
  refine z_iload_n 0 dX12_gives_16 rfl rfl ?_
  obtain ⟨hi4440, hF⟩ := zrd_at hF
  refine z_iald (n := 3500) rfl hi4440 dX12_gives_17 ?_
  generalize t 56 (Int32.toNatClampNeg v4438) = v4439 at hF ⊢
  refine z_iadd dX12_gives_18 ?_
  refine z_iload_n 3 dX12_gives_19 rfl rfl ?_
  obtain ⟨hi4441, hF⟩ := zwr_at hF
  refine z_iast (n := 28000) rfl hi4441 dX12_gives_20 (fun t4442 et4442 => ?_)
  have hF := hF t4442 et4442
  refine z_aload_n 1 dX12_gives_21 rfl rfl ?_
  refine z_getr fr_RX12_190 dX12_gives_22 ?_
  refine z_iload_n 0 dX12_gives_25 rfl rfl ?_
  refine z_dup2 dX12_gives_26 rfl rfl ?_
  obtain ⟨hi4444, hF⟩ := zrd_at hF
  refine z_iald (n := 3500) rfl hi4444 dX12_gives_27 ?_
  generalize t4442 56 (Int32.toNatClampNeg v4438) = v4443 at hF ⊢
  refine z_iconst (v := 1) dX12_gives_28 (by decide) ?_
  refine z_iadd dX12_gives_29 ?_
  obtain ⟨hi4445, hF⟩ := zwr_at hF
  refine z_iast (n := 3500) rfl hi4445 dX12_gives_30 (fun t4446 et4446 => ?_)
  have hF := hF t4446 et4446
  refine z_aload_n 1 dX12_gives_31 rfl rfl ?_
  refine z_dup dX12_gives_32 rfl ?_
  refine z_geti fi_RX12_575 dX12_gives_33 ?_
  refine z_iconst (v := 1) dX12_gives_36 (by decide) ?_
  refine z_iadd dX12_gives_37 ?_
  refine z_puti fw_RX12_575 dX12_gives_38 (fun t4447 et4447 => ?_)
  have hF := zpt_at hF t4447 et4447
  exact z_vret hF dX12_gives_41
-- SessionHouseModel.takes(I)I
theorem dX12_takes_0 : decode cX12_takes 0 = .ok (.aload_n 0, 1) := by decide +kernel
theorem dX12_takes_1 : decode cX12_takes 1 = .ok (.getfield 193, 3) := by decide +kernel
theorem dX12_takes_4 : decode cX12_takes 4 = .ok (.bipush 8, 2) := by decide +kernel
theorem dX12_takes_6 : decode cX12_takes 6 = .ok (.iload_n 1, 1) := by decide +kernel
theorem dX12_takes_7 : decode cX12_takes 7 = .ok (.imul, 1) := by decide +kernel
theorem dX12_takes_8 : decode cX12_takes 8 = .ok (.iaload, 1) := by decide +kernel
theorem dX12_takes_9 : decode cX12_takes 9 = .ok (.istore_n 2, 1) := by decide +kernel
theorem dX12_takes_10 : decode cX12_takes 10 = .ok (.aload_n 0, 1) := by decide +kernel
theorem dX12_takes_11 : decode cX12_takes 11 = .ok (.getfield 190, 3) := by decide +kernel
theorem dX12_takes_14 : decode cX12_takes 14 = .ok (.iload_n 1, 1) := by decide +kernel
theorem dX12_takes_15 : decode cX12_takes 15 = .ok (.dup2, 1) := by decide +kernel
theorem dX12_takes_16 : decode cX12_takes 16 = .ok (.iaload, 1) := by decide +kernel
theorem dX12_takes_17 : decode cX12_takes 17 = .ok (.iconst 1, 1) := by decide +kernel
theorem dX12_takes_18 : decode cX12_takes 18 = .ok (.isub, 1) := by decide +kernel
theorem dX12_takes_19 : decode cX12_takes 19 = .ok (.iastore, 1) := by decide +kernel
theorem dX12_takes_20 : decode cX12_takes 20 = .ok (.iconst 0, 1) := by decide +kernel
theorem dX12_takes_21 : decode cX12_takes 21 = .ok (.istore_n 3, 1) := by decide +kernel
theorem dX12_takes_22 : decode cX12_takes 22 = .ok (.iload_n 3, 1) := by decide +kernel
theorem dX12_takes_23 : decode cX12_takes 23 = .ok (.aload_n 0, 1) := by decide +kernel
theorem dX12_takes_24 : decode cX12_takes 24 = .ok (.getfield 190, 3) := by decide +kernel
theorem dX12_takes_27 : decode cX12_takes 27 = .ok (.iload_n 1, 1) := by decide +kernel
theorem dX12_takes_28 : decode cX12_takes 28 = .ok (.iaload, 1) := by decide +kernel
theorem dX12_takes_29 : decode cX12_takes 29 = .ok (.if_icmp .ge 33, 3) := by decide +kernel
theorem dX12_takes_32 : decode cX12_takes 32 = .ok (.aload_n 0, 1) := by decide +kernel
theorem dX12_takes_33 : decode cX12_takes 33 = .ok (.getfield 193, 3) := by decide +kernel
theorem dX12_takes_36 : decode cX12_takes 36 = .ok (.bipush 8, 2) := by decide +kernel
theorem dX12_takes_38 : decode cX12_takes 38 = .ok (.iload_n 1, 1) := by decide +kernel
theorem dX12_takes_39 : decode cX12_takes 39 = .ok (.imul, 1) := by decide +kernel
theorem dX12_takes_40 : decode cX12_takes 40 = .ok (.iload_n 3, 1) := by decide +kernel
theorem dX12_takes_41 : decode cX12_takes 41 = .ok (.iadd, 1) := by decide +kernel
theorem dX12_takes_42 : decode cX12_takes 42 = .ok (.aload_n 0, 1) := by decide +kernel
theorem dX12_takes_43 : decode cX12_takes 43 = .ok (.getfield 193, 3) := by decide +kernel
theorem dX12_takes_46 : decode cX12_takes 46 = .ok (.bipush 8, 2) := by decide +kernel
theorem dX12_takes_48 : decode cX12_takes 48 = .ok (.iload_n 1, 1) := by decide +kernel
theorem dX12_takes_49 : decode cX12_takes 49 = .ok (.imul, 1) := by decide +kernel
theorem dX12_takes_50 : decode cX12_takes 50 = .ok (.iload_n 3, 1) := by decide +kernel
theorem dX12_takes_51 : decode cX12_takes 51 = .ok (.iadd, 1) := by decide +kernel
theorem dX12_takes_52 : decode cX12_takes 52 = .ok (.iconst 1, 1) := by decide +kernel
theorem dX12_takes_53 : decode cX12_takes 53 = .ok (.iadd, 1) := by decide +kernel
theorem dX12_takes_54 : decode cX12_takes 54 = .ok (.iaload, 1) := by decide +kernel
theorem dX12_takes_55 : decode cX12_takes 55 = .ok (.iastore, 1) := by decide +kernel
theorem dX12_takes_56 : decode cX12_takes 56 = .ok (.iinc 3 1, 3) := by decide +kernel
theorem dX12_takes_59 : decode cX12_takes 59 = .ok (.goto (-37), 3) := by decide +kernel
theorem dX12_takes_62 : decode cX12_takes 62 = .ok (.aload_n 0, 1) := by decide +kernel
theorem dX12_takes_63 : decode cX12_takes 63 = .ok (.dup, 1) := by decide +kernel
theorem dX12_takes_64 : decode cX12_takes 64 = .ok (.getfield 575, 3) := by decide +kernel
theorem dX12_takes_67 : decode cX12_takes 67 = .ok (.iconst 1, 1) := by decide +kernel
theorem dX12_takes_68 : decode cX12_takes 68 = .ok (.isub, 1) := by decide +kernel
theorem dX12_takes_69 : decode cX12_takes 69 = .ok (.putfield 575, 3) := by decide +kernel
theorem dX12_takes_72 : decode cX12_takes 72 = .ok (.iload_n 2, 1) := by decide +kernel
theorem dX12_takes_73 : decode cX12_takes 73 = .ok (.ireturn, 1) := by decide +kernel
def bX12_takes_22 (k22 : Int32 → Int32 → Int32 → zS → zR) (x1 : Int32) (x2 : Int32) (x3 : Int32) (t : zS) : zR := zrd t 56 3500 x1 fun v4448 => if v4448 ≤ x3 then zpt t 0 101 ((t 0 101) - 1) fun t4450 => some (x2, t4450) else zrd t 57 28000 (((8 * x1) + x3) + 1) fun v4451 => zwr t 57 28000 ((8 * x1) + x3) v4451 fun t4454 => zlet (x3 + 1) fun v4455 => k22 x1 x2 v4455 t4454
def lX12_takes_22 : Nat → Int32 → Int32 → Int32 → zS → zR
  | 0, _, _, _, _ => none
  | fu + 1, x1, x2, x3, t => bX12_takes_22 (lX12_takes_22  fu) x1 x2 x3 t
def mX12_takes (x1 : Int32) (t : zS) : zR := zrd t 57 28000 (8 * x1) fun v4456 => zrd t 56 3500 x1 fun v4458 => zwr t 56 3500 x1 (v4458 - 1) fun t4461 => lX12_takes_22  zFU x1 v4456 0 t4461
set_option maxHeartbeats 4000000 in
set_option maxRecDepth 20000 in
theorem wbX12_takes_22 {E : zE} {C : zC} {f : Nat} {ro : Int32 × zS} (hf : 1 ≤ f) (k22 : Int32 → Int32 → Int32 → zS → zR) (hk22 : ∀ (x1 x2 x3 : Int32) (t : zS), k22 x1 x2 x3 t = some ro → zJ E shM C cX12_takes RX12 4 f (some .int) ro t 22 [(0, .ref (za E 0)), (1, .int x1), (2, .int x2), (3, .int x3)] []) (x1 : Int32) (x2 : Int32) (x3 : Int32) (t : zS) (hF : bX12_takes_22 k22 x1 x2 x3 t = some ro) : zJ E shM C cX12_takes RX12 4 f (some .int) ro t 22 [(0, .ref (za E 0)), (1, .int x1), (2, .int x2), (3, .int x3)] [] := by
  unfold bX12_takes_22 at hF
  refine z_iload_n 3 dX12_takes_22 rfl rfl ?_
  refine z_aload_n 0 dX12_takes_23 rfl rfl ?_
  refine z_getr fr_RX12_190 dX12_takes_24 ?_
  refine z_iload_n 1 dX12_takes_27 rfl rfl ?_
  obtain ⟨hi4449, hF⟩ := zrd_at hF
  refine z_iald (n := 3500) rfl hi4449 dX12_takes_28 ?_
  generalize t 56 (Int32.toNatClampNeg x1) = v4448 at hF ⊢
  refine z_icmp_ge (tgt := 62) dX12_takes_29 (by decide) (fun hc => ?_) (fun hc => ?_)
  · have hF := zif_t hc hF
    refine z_aload_n 0 dX12_takes_62 rfl rfl ?_
    refine z_dup dX12_takes_63 rfl ?_
    refine z_geti fi_RX12_575 dX12_takes_64 ?_
    refine z_iconst (v := 1) dX12_takes_67 (by decide) ?_
    refine z_isub dX12_takes_68 ?_
    refine z_puti fw_RX12_575 dX12_takes_69 (fun t4450 et4450 => ?_)
    have hF := zpt_at hF t4450 et4450
    refine z_iload_n 2 dX12_takes_72 rfl rfl ?_
    exact z_iret hF dX12_takes_73
  · have hF := zif_f hc hF
    refine z_aload_n 0 dX12_takes_32 rfl rfl ?_
    refine z_getr fr_RX12_193 dX12_takes_33 ?_
    refine z_bipush (v := 8) dX12_takes_36 (by decide) ?_
    refine z_iload_n 1 dX12_takes_38 rfl rfl ?_
    refine z_imul dX12_takes_39 ?_
    refine z_iload_n 3 dX12_takes_40 rfl rfl ?_
    refine z_iadd dX12_takes_41 ?_
    refine z_aload_n 0 dX12_takes_42 rfl rfl ?_
    refine z_getr fr_RX12_193 dX12_takes_43 ?_
    refine z_bipush (v := 8) dX12_takes_46 (by decide) ?_
    refine z_iload_n 1 dX12_takes_48 rfl rfl ?_
    refine z_imul dX12_takes_49 ?_
    refine z_iload_n 3 dX12_takes_50 rfl rfl ?_
    refine z_iadd dX12_takes_51 ?_
    refine z_iconst (v := 1) dX12_takes_52 (by decide) ?_
    refine z_iadd dX12_takes_53 ?_
    obtain ⟨hi4452, hF⟩ := zrd_at hF
    refine z_iald (n := 28000) rfl hi4452 dX12_takes_54 ?_
    generalize t 57 (Int32.toNatClampNeg (((8 * x1) + x3) + 1)) = v4451 at hF ⊢
    obtain ⟨hi4453, hF⟩ := zwr_at hF
    refine z_iast (n := 28000) rfl hi4453 dX12_takes_55 (fun t4454 et4454 => ?_)
    have hF := hF t4454 et4454
    obtain ⟨v4455, ev4455⟩ : ∃ y : Int32, y = (x3 + 1) := ⟨_, rfl⟩
    have hF := zlet_at ev4455 hF
    refine z_iinc (v := v4455) (lv' := [(3, .int v4455), (0, .ref (za E 0)), (1, .int x1), (2, .int x2)]) (k := 3) dX12_takes_56 rfl (by rw [ev4455]; rfl) (by decide) rfl ?_
    refine z_goto (tgt := 22) dX12_takes_59 (by decide) ?_
    refine z_sub [1, 2, 3, 0] rfl ?_
    exact hk22 x1 x2 v4455 _ hF
set_option maxHeartbeats 4000000 in
set_option maxRecDepth 20000 in
theorem wlX12_takes_22 {E : zE} {C : zC} {f : Nat} {ro : Int32 × zS} (hf : 1 ≤ f) (fu : Nat) : ∀ (x1 x2 x3 : Int32) (t : zS), lX12_takes_22  fu x1 x2 x3 t = some ro → zJ E shM C cX12_takes RX12 4 f (some .int) ro t 22 [(0, .ref (za E 0)), (1, .int x1), (2, .int x2), (3, .int x3)] [] := by
  induction fu with
  | zero => intro x1 x2 x3 t hF; cases hF
  | succ fu ih => intro x1 x2 x3 t hF; exact wbX12_takes_22 hf (lX12_takes_22  fu) ih x1 x2 x3 t hF
set_option maxHeartbeats 4000000 in
set_option maxRecDepth 20000 in
theorem ctX12_takes {E : zE} {f : Nat} (hf : 1 ≤ f) {x1 : Int32} {t : zS} {ro : Int32 × zS} (hF : mX12_takes  x1 t = some ro) : zM E shM f yX12_takes cX12_takes 4 (some .int) [.ref (za E 0), .int x1] t ro := by
  refine zM_of (by decide) (Nat.le_of_ble_eq_true rfl) (fun C => ?_)
  show zJ E shM C cX12_takes RX12 4 f (some .int) ro t 0 [(0, .ref (za E 0)), (1, .int x1)] []
  unfold mX12_takes at hF
  refine z_aload_n 0 dX12_takes_0 rfl rfl ?_
  refine z_getr fr_RX12_193 dX12_takes_1 ?_
  refine z_bipush (v := 8) dX12_takes_4 (by decide) ?_
  refine z_iload_n 1 dX12_takes_6 rfl rfl ?_
  refine z_imul dX12_takes_7 ?_
  obtain ⟨hi4457, hF⟩ := zrd_at hF
  refine z_iald (n := 28000) rfl hi4457 dX12_takes_8 ?_
  generalize t 57 (Int32.toNatClampNeg (8 * x1)) = v4456 at hF ⊢
  refine z_istore_n (lv' := [(2, .int v4456), (0, .ref (za E 0)), (1, .int x1)]) dX12_takes_9 rfl (by decide) rfl ?_
  refine z_aload_n 1 dX12_takes_10 rfl rfl ?_
  refine z_getr fr_RX12_190 dX12_takes_11 ?_
  refine z_iload_n 2 dX12_takes_14 rfl rfl ?_
  refine z_dup2 dX12_takes_15 rfl rfl ?_
  obtain ⟨hi4459, hF⟩ := zrd_at hF
  refine z_iald (n := 3500) rfl hi4459 dX12_takes_16 ?_
  generalize t 56 (Int32.toNatClampNeg x1) = v4458 at hF ⊢
  refine z_iconst (v := 1) dX12_takes_17 (by decide) ?_
  refine z_isub dX12_takes_18 ?_
  obtain ⟨hi4460, hF⟩ := zwr_at hF
  refine z_iast (n := 3500) rfl hi4460 dX12_takes_19 (fun t4461 et4461 => ?_)
  have hF := hF t4461 et4461
  refine z_iconst (v := 0) dX12_takes_20 (by decide) ?_
  refine z_istore_n (lv' := [(3, .int 0), (2, .int v4456), (0, .ref (za E 0)), (1, .int x1)]) dX12_takes_21 rfl (by decide) rfl ?_
  refine z_sub [2, 3, 1, 0] rfl ?_
  exact wlX12_takes_22 hf  zFU x1 v4456 0 _ hF
-- SessionHouseModel.ends(I)Z
theorem dX12_ends_0 : decode cX12_ends 0 = .ok (.aload_n 0, 1) := by decide +kernel
theorem dX12_ends_1 : decode cX12_ends 1 = .ok (.iload_n 1, 1) := by decide +kernel
theorem dX12_ends_2 : decode cX12_ends 2 = .ok (.putfield 607, 3) := by decide +kernel
theorem dX12_ends_5 : decode cX12_ends 5 = .ok (.iconst 0, 1) := by decide +kernel
theorem dX12_ends_6 : decode cX12_ends 6 = .ok (.ireturn, 1) := by decide +kernel
def mX12_ends (x1 : Int32) (t : zS) : zR := zpt t 0 72 x1 fun t4462 => some (0, t4462)
set_option maxHeartbeats 4000000 in
set_option maxRecDepth 20000 in
theorem ctX12_ends {E : zE} {f : Nat} (hf : 1 ≤ f) {x1 : Int32} {t : zS} {ro : Int32 × zS} (hF : mX12_ends  x1 t = some ro) : zM E shM f yX12_ends cX12_ends 2 (some .boolean) [.ref (za E 0), .int x1] t ro := by
  refine zM_of (by decide) (Nat.le_of_ble_eq_true rfl) (fun C => ?_)
  show zJ E shM C cX12_ends RX12 2 f (some .boolean) ro t 0 [(0, .ref (za E 0)), (1, .int x1)] []
  unfold mX12_ends at hF
  refine z_aload_n 0 dX12_ends_0 rfl rfl ?_
  refine z_iload_n 1 dX12_ends_1 rfl rfl ?_
  refine z_puti fw_RX12_607 dX12_ends_2 (fun t4462 et4462 => ?_)
  have hF := zpt_at hF t4462 et4462
  refine z_iconst (v := 0) dX12_ends_5 (by decide) ?_
  exact z_zret hF (by decide) dX12_ends_6
-- SessionHouseModel.calls(II)Z
theorem dX12_calls_0 : decode cX12_calls 0 = .ok (.aload_n 0, 1) := by decide +kernel
theorem dX12_calls_1 : decode cX12_calls 1 = .ok (.getfield 58, 3) := by decide +kernel
theorem dX12_calls_4 : decode cX12_calls 4 = .ok (.iload_n 2, 1) := by decide +kernel
theorem dX12_calls_5 : decode cX12_calls 5 = .ok (.iaload, 1) := by decide +kernel
theorem dX12_calls_6 : decode cX12_calls 6 = .ok (.istore_n 3, 1) := by decide +kernel
theorem dX12_calls_7 : decode cX12_calls 7 = .ok (.aload_n 0, 1) := by decide +kernel
theorem dX12_calls_8 : decode cX12_calls 8 = .ok (.getfield 49, 3) := by decide +kernel
theorem dX12_calls_11 : decode cX12_calls 11 = .ok (.iload_n 2, 1) := by decide +kernel
theorem dX12_calls_12 : decode cX12_calls 12 = .ok (.iaload, 1) := by decide +kernel
theorem dX12_calls_13 : decode cX12_calls 13 = .ok (.bipush 8, 2) := by decide +kernel
theorem dX12_calls_15 : decode cX12_calls 15 = .ok (.if_icmp .ne 7, 3) := by decide +kernel
theorem dX12_calls_18 : decode cX12_calls 18 = .ok (.iconst 1, 1) := by decide +kernel
theorem dX12_calls_19 : decode cX12_calls 19 = .ok (.goto 4, 3) := by decide +kernel
theorem dX12_calls_22 : decode cX12_calls 22 = .ok (.iconst 0, 1) := by decide +kernel
theorem dX12_calls_23 : decode cX12_calls 23 = .ok (.istore 4, 2) := by decide +kernel
theorem dX12_calls_25 : decode cX12_calls 25 = .ok (.aload_n 0, 1) := by decide +kernel
theorem dX12_calls_26 : decode cX12_calls 26 = .ok (.getfield 49, 3) := by decide +kernel
theorem dX12_calls_29 : decode cX12_calls 29 = .ok (.iload_n 2, 1) := by decide +kernel
theorem dX12_calls_30 : decode cX12_calls 30 = .ok (.iaload, 1) := by decide +kernel
theorem dX12_calls_31 : decode cX12_calls 31 = .ok (.bipush 9, 2) := by decide +kernel
theorem dX12_calls_33 : decode cX12_calls 33 = .ok (.if_icmp .ne 7, 3) := by decide +kernel
theorem dX12_calls_36 : decode cX12_calls 36 = .ok (.iconst 1, 1) := by decide +kernel
theorem dX12_calls_37 : decode cX12_calls 37 = .ok (.goto 4, 3) := by decide +kernel
theorem dX12_calls_40 : decode cX12_calls 40 = .ok (.iconst 0, 1) := by decide +kernel
theorem dX12_calls_41 : decode cX12_calls 41 = .ok (.istore 5, 2) := by decide +kernel
theorem dX12_calls_43 : decode cX12_calls 43 = .ok (.iload 4, 2) := by decide +kernel
theorem dX12_calls_45 : decode cX12_calls 45 = .ok (.ifCond .eq 7, 3) := by decide +kernel
theorem dX12_calls_48 : decode cX12_calls 48 = .ok (.iconst 1, 1) := by decide +kernel
theorem dX12_calls_49 : decode cX12_calls 49 = .ok (.goto 4, 3) := by decide +kernel
theorem dX12_calls_52 : decode cX12_calls 52 = .ok (.iconst 0, 1) := by decide +kernel
theorem dX12_calls_53 : decode cX12_calls 53 = .ok (.istore 6, 2) := by decide +kernel
theorem dX12_calls_55 : decode cX12_calls 55 = .ok (.aload_n 0, 1) := by decide +kernel
theorem dX12_calls_56 : decode cX12_calls 56 = .ok (.getfield 100, 3) := by decide +kernel
theorem dX12_calls_59 : decode cX12_calls 59 = .ok (.iload_n 3, 1) := by decide +kernel
theorem dX12_calls_60 : decode cX12_calls 60 = .ok (.iaload, 1) := by decide +kernel
theorem dX12_calls_61 : decode cX12_calls 61 = .ok (.istore 7, 2) := by decide +kernel
theorem dX12_calls_63 : decode cX12_calls 63 = .ok (.aload_n 0, 1) := by decide +kernel
theorem dX12_calls_64 : decode cX12_calls 64 = .ok (.getfield 169, 3) := by decide +kernel
theorem dX12_calls_67 : decode cX12_calls 67 = .ok (.iload_n 1, 1) := by decide +kernel
theorem dX12_calls_68 : decode cX12_calls 68 = .ok (.iload_n 2, 1) := by decide +kernel
theorem dX12_calls_69 : decode cX12_calls 69 = .ok (.iastore, 1) := by decide +kernel
theorem dX12_calls_70 : decode cX12_calls 70 = .ok (.iconst 0, 1) := by decide +kernel
theorem dX12_calls_71 : decode cX12_calls 71 = .ok (.istore 8, 2) := by decide +kernel
theorem dX12_calls_73 : decode cX12_calls 73 = .ok (.iload 8, 2) := by decide +kernel
theorem dX12_calls_75 : decode cX12_calls 75 = .ok (.aload_n 0, 1) := by decide +kernel
theorem dX12_calls_76 : decode cX12_calls 76 = .ok (.getfield 67, 3) := by decide +kernel
theorem dX12_calls_79 : decode cX12_calls 79 = .ok (.iload_n 2, 1) := by decide +kernel
theorem dX12_calls_80 : decode cX12_calls 80 = .ok (.iaload, 1) := by decide +kernel
theorem dX12_calls_81 : decode cX12_calls 81 = .ok (.if_icmp .ge 113, 3) := by decide +kernel
theorem dX12_calls_84 : decode cX12_calls 84 = .ok (.aload_n 0, 1) := by decide +kernel
theorem dX12_calls_85 : decode cX12_calls 85 = .ok (.getfield 64, 3) := by decide +kernel
theorem dX12_calls_88 : decode cX12_calls 88 = .ok (.iload_n 2, 1) := by decide +kernel
theorem dX12_calls_89 : decode cX12_calls 89 = .ok (.iaload, 1) := by decide +kernel
theorem dX12_calls_90 : decode cX12_calls 90 = .ok (.iload 8, 2) := by decide +kernel
theorem dX12_calls_92 : decode cX12_calls 92 = .ok (.iadd, 1) := by decide +kernel
theorem dX12_calls_93 : decode cX12_calls 93 = .ok (.istore 9, 2) := by decide +kernel
theorem dX12_calls_95 : decode cX12_calls 95 = .ok (.aload_n 0, 1) := by decide +kernel
theorem dX12_calls_96 : decode cX12_calls 96 = .ok (.getfield 202, 3) := by decide +kernel
theorem dX12_calls_99 : decode cX12_calls 99 = .ok (.iload 8, 2) := by decide +kernel
theorem dX12_calls_101 : decode cX12_calls 101 = .ok (.iconst (-1), 1) := by decide +kernel
theorem dX12_calls_102 : decode cX12_calls 102 = .ok (.iastore, 1) := by decide +kernel
theorem dX12_calls_103 : decode cX12_calls 103 = .ok (.aload_n 0, 1) := by decide +kernel
theorem dX12_calls_104 : decode cX12_calls 104 = .ok (.getfield 199, 3) := by decide +kernel
theorem dX12_calls_107 : decode cX12_calls 107 = .ok (.iload 8, 2) := by decide +kernel
theorem dX12_calls_109 : decode cX12_calls 109 = .ok (.iconst 0, 1) := by decide +kernel
theorem dX12_calls_110 : decode cX12_calls 110 = .ok (.iastore, 1) := by decide +kernel
theorem dX12_calls_111 : decode cX12_calls 111 = .ok (.aload_n 0, 1) := by decide +kernel
theorem dX12_calls_112 : decode cX12_calls 112 = .ok (.getfield 109, 3) := by decide +kernel
theorem dX12_calls_115 : decode cX12_calls 115 = .ok (.iload 7, 2) := by decide +kernel
theorem dX12_calls_117 : decode cX12_calls 117 = .ok (.iload 6, 2) := by decide +kernel
theorem dX12_calls_119 : decode cX12_calls 119 = .ok (.iadd, 1) := by decide +kernel
theorem dX12_calls_120 : decode cX12_calls 120 = .ok (.iload 8, 2) := by decide +kernel
theorem dX12_calls_122 : decode cX12_calls 122 = .ok (.iadd, 1) := by decide +kernel
theorem dX12_calls_123 : decode cX12_calls 123 = .ok (.iaload, 1) := by decide +kernel
theorem dX12_calls_124 : decode cX12_calls 124 = .ok (.ifCond .lt 32, 3) := by decide +kernel
theorem dX12_calls_127 : decode cX12_calls 127 = .ok (.aload_n 0, 1) := by decide +kernel
theorem dX12_calls_128 : decode cX12_calls 128 = .ok (.getfield 202, 3) := by decide +kernel
theorem dX12_calls_131 : decode cX12_calls 131 = .ok (.iload 8, 2) := by decide +kernel
theorem dX12_calls_133 : decode cX12_calls 133 = .ok (.aload_n 0, 1) := by decide +kernel
theorem dX12_calls_134 : decode cX12_calls 134 = .ok (.getfield 181, 3) := by decide +kernel
theorem dX12_calls_137 : decode cX12_calls 137 = .ok (.aload_n 0, 1) := by decide +kernel
theorem dX12_calls_138 : decode cX12_calls 138 = .ok (.getfield 175, 3) := by decide +kernel
theorem dX12_calls_141 : decode cX12_calls 141 = .ok (.iload_n 1, 1) := by decide +kernel
theorem dX12_calls_142 : decode cX12_calls 142 = .ok (.iaload, 1) := by decide +kernel
theorem dX12_calls_143 : decode cX12_calls 143 = .ok (.aload_n 0, 1) := by decide +kernel
theorem dX12_calls_144 : decode cX12_calls 144 = .ok (.getfield 85, 3) := by decide +kernel
theorem dX12_calls_147 : decode cX12_calls 147 = .ok (.iload 9, 2) := by decide +kernel
theorem dX12_calls_149 : decode cX12_calls 149 = .ok (.iaload, 1) := by decide +kernel
theorem dX12_calls_150 : decode cX12_calls 150 = .ok (.iadd, 1) := by decide +kernel
theorem dX12_calls_151 : decode cX12_calls 151 = .ok (.iaload, 1) := by decide +kernel
theorem dX12_calls_152 : decode cX12_calls 152 = .ok (.iastore, 1) := by decide +kernel
theorem dX12_calls_153 : decode cX12_calls 153 = .ok (.goto 35, 3) := by decide +kernel
theorem dX12_calls_156 : decode cX12_calls 156 = .ok (.aload_n 0, 1) := by decide +kernel
theorem dX12_calls_157 : decode cX12_calls 157 = .ok (.getfield 199, 3) := by decide +kernel
theorem dX12_calls_160 : decode cX12_calls 160 = .ok (.iload 8, 2) := by decide +kernel
theorem dX12_calls_162 : decode cX12_calls 162 = .ok (.aload_n 0, 1) := by decide +kernel
theorem dX12_calls_163 : decode cX12_calls 163 = .ok (.iload_n 1, 1) := by decide +kernel
theorem dX12_calls_164 : decode cX12_calls 164 = .ok (.aload_n 0, 1) := by decide +kernel
theorem dX12_calls_165 : decode cX12_calls 165 = .ok (.getfield 82, 3) := by decide +kernel
theorem dX12_calls_168 : decode cX12_calls 168 = .ok (.iload 9, 2) := by decide +kernel
theorem dX12_calls_170 : decode cX12_calls 170 = .ok (.iaload, 1) := by decide +kernel
theorem dX12_calls_171 : decode cX12_calls 171 = .ok (.invokevirtual 578, 3) := by decide +kernel
theorem dX12_calls_174 : decode cX12_calls 174 = .ok (.iastore, 1) := by decide +kernel
theorem dX12_calls_175 : decode cX12_calls 175 = .ok (.aload_n 0, 1) := by decide +kernel
theorem dX12_calls_176 : decode cX12_calls 176 = .ok (.getfield 569, 3) := by decide +kernel
theorem dX12_calls_179 : decode cX12_calls 179 = .ok (.ifCond .eq 9, 3) := by decide +kernel
theorem dX12_calls_182 : decode cX12_calls 182 = .ok (.aload_n 0, 1) := by decide +kernel
theorem dX12_calls_183 : decode cX12_calls 183 = .ok (.iconst 3, 1) := by decide +kernel
theorem dX12_calls_184 : decode cX12_calls 184 = .ok (.invokevirtual 581, 3) := by decide +kernel
theorem dX12_calls_187 : decode cX12_calls 187 = .ok (.ireturn, 1) := by decide +kernel
theorem dX12_calls_188 : decode cX12_calls 188 = .ok (.iinc 8 1, 3) := by decide +kernel
theorem dX12_calls_191 : decode cX12_calls 191 = .ok (.goto (-118), 3) := by decide +kernel
theorem dX12_calls_194 : decode cX12_calls 194 = .ok (.iload 4, 2) := by decide +kernel
theorem dX12_calls_196 : decode cX12_calls 196 = .ok (.ifCond .eq 19, 3) := by decide +kernel
theorem dX12_calls_199 : decode cX12_calls 199 = .ok (.aload_n 0, 1) := by decide +kernel
theorem dX12_calls_200 : decode cX12_calls 200 = .ok (.iconst 2, 1) := by decide +kernel
theorem dX12_calls_201 : decode cX12_calls 201 = .ok (.aload_n 0, 1) := by decide +kernel
theorem dX12_calls_202 : decode cX12_calls 202 = .ok (.getfield 109, 3) := by decide +kernel
theorem dX12_calls_205 : decode cX12_calls 205 = .ok (.iload 7, 2) := by decide +kernel
theorem dX12_calls_207 : decode cX12_calls 207 = .ok (.iaload, 1) := by decide +kernel
theorem dX12_calls_208 : decode cX12_calls 208 = .ok (.imul, 1) := by decide +kernel
theorem dX12_calls_209 : decode cX12_calls 209 = .ok (.invokevirtual 432, 3) := by decide +kernel
theorem dX12_calls_212 : decode cX12_calls 212 = .ok (.goto 4, 3) := by decide +kernel
theorem dX12_calls_215 : decode cX12_calls 215 = .ok (.iconst (-1), 1) := by decide +kernel
theorem dX12_calls_216 : decode cX12_calls 216 = .ok (.istore 8, 2) := by decide +kernel
theorem dX12_calls_218 : decode cX12_calls 218 = .ok (.iload 4, 2) := by decide +kernel
theorem dX12_calls_220 : decode cX12_calls 220 = .ok (.ifCond .eq 16, 3) := by decide +kernel
theorem dX12_calls_223 : decode cX12_calls 223 = .ok (.aload_n 0, 1) := by decide +kernel
theorem dX12_calls_224 : decode cX12_calls 224 = .ok (.iload 8, 2) := by decide +kernel
theorem dX12_calls_226 : decode cX12_calls 226 = .ok (.invokevirtual 445, 3) := by decide +kernel
theorem dX12_calls_229 : decode cX12_calls 229 = .ok (.ifCond .eq 7, 3) := by decide +kernel
theorem dX12_calls_232 : decode cX12_calls 232 = .ok (.iconst 1, 1) := by decide +kernel
theorem dX12_calls_233 : decode cX12_calls 233 = .ok (.goto 4, 3) := by decide +kernel
theorem dX12_calls_236 : decode cX12_calls 236 = .ok (.iconst 0, 1) := by decide +kernel
theorem dX12_calls_237 : decode cX12_calls 237 = .ok (.istore 9, 2) := by decide +kernel
theorem dX12_calls_239 : decode cX12_calls 239 = .ok (.aload_n 0, 1) := by decide +kernel
theorem dX12_calls_240 : decode cX12_calls 240 = .ok (.iload_n 3, 1) := by decide +kernel
theorem dX12_calls_241 : decode cX12_calls 241 = .ok (.invokevirtual 554, 3) := by decide +kernel
theorem dX12_calls_244 : decode cX12_calls 244 = .ok (.iload 5, 2) := by decide +kernel
theorem dX12_calls_246 : decode cX12_calls 246 = .ok (.ifCond .eq 16, 3) := by decide +kernel
theorem dX12_calls_249 : decode cX12_calls 249 = .ok (.aload_n 0, 1) := by decide +kernel
theorem dX12_calls_250 : decode cX12_calls 250 = .ok (.aload_n 0, 1) := by decide +kernel
theorem dX12_calls_251 : decode cX12_calls 251 = .ok (.getfield 166, 3) := by decide +kernel
theorem dX12_calls_254 : decode cX12_calls 254 = .ok (.iload_n 1, 1) := by decide +kernel
theorem dX12_calls_255 : decode cX12_calls 255 = .ok (.iaload, 1) := by decide +kernel
theorem dX12_calls_256 : decode cX12_calls 256 = .ok (.invokevirtual 554, 3) := by decide +kernel
theorem dX12_calls_259 : decode cX12_calls 259 = .ok (.goto 4, 3) := by decide +kernel
theorem dX12_calls_262 : decode cX12_calls 262 = .ok (.iconst 0, 1) := by decide +kernel
theorem dX12_calls_263 : decode cX12_calls 263 = .ok (.isub, 1) := by decide +kernel
theorem dX12_calls_264 : decode cX12_calls 264 = .ok (.iload 9, 2) := by decide +kernel
theorem dX12_calls_266 : decode cX12_calls 266 = .ok (.ifCond .eq 10, 3) := by decide +kernel
theorem dX12_calls_269 : decode cX12_calls 269 = .ok (.aload_n 0, 1) := by decide +kernel
theorem dX12_calls_270 : decode cX12_calls 270 = .ok (.invokevirtual 566, 3) := by decide +kernel
theorem dX12_calls_273 : decode cX12_calls 273 = .ok (.goto 4, 3) := by decide +kernel
theorem dX12_calls_276 : decode cX12_calls 276 = .ok (.iconst 0, 1) := by decide +kernel
theorem dX12_calls_277 : decode cX12_calls 277 = .ok (.iadd, 1) := by decide +kernel
theorem dX12_calls_278 : decode cX12_calls 278 = .ok (.istore 10, 2) := by decide +kernel
theorem dX12_calls_280 : decode cX12_calls 280 = .ok (.aload_n 0, 1) := by decide +kernel
theorem dX12_calls_281 : decode cX12_calls 281 = .ok (.getfield 551, 3) := by decide +kernel
theorem dX12_calls_284 : decode cX12_calls 284 = .ok (.iload 10, 2) := by decide +kernel
theorem dX12_calls_286 : decode cX12_calls 286 = .ok (.iadd, 1) := by decide +kernel
theorem dX12_calls_287 : decode cX12_calls 287 = .ok (.aload_n 0, 1) := by decide +kernel
theorem dX12_calls_288 : decode cX12_calls 288 = .ok (.getfield 145, 3) := by decide +kernel
theorem dX12_calls_291 : decode cX12_calls 291 = .ok (.if_icmp .le 9, 3) := by decide +kernel
theorem dX12_calls_294 : decode cX12_calls 294 = .ok (.aload_n 0, 1) := by decide +kernel
theorem dX12_calls_295 : decode cX12_calls 295 = .ok (.iconst 4, 1) := by decide +kernel
theorem dX12_calls_296 : decode cX12_calls 296 = .ok (.invokevirtual 581, 3) := by decide +kernel
theorem dX12_calls_299 : decode cX12_calls 299 = .ok (.ireturn, 1) := by decide +kernel
theorem dX12_calls_300 : decode cX12_calls 300 = .ok (.iconst 0, 1) := by decide +kernel
theorem dX12_calls_301 : decode cX12_calls 301 = .ok (.istore 11, 2) := by decide +kernel
theorem dX12_calls_303 : decode cX12_calls 303 = .ok (.iload 11, 2) := by decide +kernel
theorem dX12_calls_305 : decode cX12_calls 305 = .ok (.aload_n 0, 1) := by decide +kernel
theorem dX12_calls_306 : decode cX12_calls 306 = .ok (.getfield 67, 3) := by decide +kernel
theorem dX12_calls_309 : decode cX12_calls 309 = .ok (.iload_n 2, 1) := by decide +kernel
theorem dX12_calls_310 : decode cX12_calls 310 = .ok (.iaload, 1) := by decide +kernel
theorem dX12_calls_311 : decode cX12_calls 311 = .ok (.if_icmp .ge 51, 3) := by decide +kernel
theorem dX12_calls_314 : decode cX12_calls 314 = .ok (.iload 5, 2) := by decide +kernel
theorem dX12_calls_316 : decode cX12_calls 316 = .ok (.ifCond .ne 46, 3) := by decide +kernel
theorem dX12_calls_319 : decode cX12_calls 319 = .ok (.aload_n 0, 1) := by decide +kernel
theorem dX12_calls_320 : decode cX12_calls 320 = .ok (.getfield 202, 3) := by decide +kernel
theorem dX12_calls_323 : decode cX12_calls 323 = .ok (.iload 11, 2) := by decide +kernel
theorem dX12_calls_325 : decode cX12_calls 325 = .ok (.iaload, 1) := by decide +kernel
theorem dX12_calls_326 : decode cX12_calls 326 = .ok (.ifCond .lt 30, 3) := by decide +kernel
theorem dX12_calls_329 : decode cX12_calls 329 = .ok (.aload_n 0, 1) := by decide +kernel
theorem dX12_calls_330 : decode cX12_calls 330 = .ok (.getfield 181, 3) := by decide +kernel
theorem dX12_calls_333 : decode cX12_calls 333 = .ok (.aload_n 0, 1) := by decide +kernel
theorem dX12_calls_334 : decode cX12_calls 334 = .ok (.getfield 175, 3) := by decide +kernel
theorem dX12_calls_337 : decode cX12_calls 337 = .ok (.iload_n 1, 1) := by decide +kernel
theorem dX12_calls_338 : decode cX12_calls 338 = .ok (.iaload, 1) := by decide +kernel
theorem dX12_calls_339 : decode cX12_calls 339 = .ok (.aload_n 0, 1) := by decide +kernel
theorem dX12_calls_340 : decode cX12_calls 340 = .ok (.getfield 85, 3) := by decide +kernel
theorem dX12_calls_343 : decode cX12_calls 343 = .ok (.aload_n 0, 1) := by decide +kernel
theorem dX12_calls_344 : decode cX12_calls 344 = .ok (.getfield 64, 3) := by decide +kernel
theorem dX12_calls_347 : decode cX12_calls 347 = .ok (.iload_n 2, 1) := by decide +kernel
theorem dX12_calls_348 : decode cX12_calls 348 = .ok (.iaload, 1) := by decide +kernel
theorem dX12_calls_349 : decode cX12_calls 349 = .ok (.iload 11, 2) := by decide +kernel
theorem dX12_calls_351 : decode cX12_calls 351 = .ok (.iadd, 1) := by decide +kernel
theorem dX12_calls_352 : decode cX12_calls 352 = .ok (.iaload, 1) := by decide +kernel
theorem dX12_calls_353 : decode cX12_calls 353 = .ok (.iadd, 1) := by decide +kernel
theorem dX12_calls_354 : decode cX12_calls 354 = .ok (.iconst (-1), 1) := by decide +kernel
theorem dX12_calls_355 : decode cX12_calls 355 = .ok (.iastore, 1) := by decide +kernel
theorem dX12_calls_356 : decode cX12_calls 356 = .ok (.iinc 11 1, 3) := by decide +kernel
theorem dX12_calls_359 : decode cX12_calls 359 = .ok (.goto (-56), 3) := by decide +kernel
theorem dX12_calls_362 : decode cX12_calls 362 = .ok (.aload_n 0, 1) := by decide +kernel
theorem dX12_calls_363 : decode cX12_calls 363 = .ok (.getfield 169, 3) := by decide +kernel
theorem dX12_calls_366 : decode cX12_calls 366 = .ok (.iload_n 1, 1) := by decide +kernel
theorem dX12_calls_367 : decode cX12_calls 367 = .ok (.aload_n 0, 1) := by decide +kernel
theorem dX12_calls_368 : decode cX12_calls 368 = .ok (.getfield 70, 3) := by decide +kernel
theorem dX12_calls_371 : decode cX12_calls 371 = .ok (.iload_n 2, 1) := by decide +kernel
theorem dX12_calls_372 : decode cX12_calls 372 = .ok (.iaload, 1) := by decide +kernel
theorem dX12_calls_373 : decode cX12_calls 373 = .ok (.iastore, 1) := by decide +kernel
theorem dX12_calls_374 : decode cX12_calls 374 = .ok (.iload_n 1, 1) := by decide +kernel
theorem dX12_calls_375 : decode cX12_calls 375 = .ok (.istore 11, 2) := by decide +kernel
theorem dX12_calls_377 : decode cX12_calls 377 = .ok (.iload 5, 2) := by decide +kernel
theorem dX12_calls_379 : decode cX12_calls 379 = .ok (.ifCond .eq 62, 3) := by decide +kernel
theorem dX12_calls_382 : decode cX12_calls 382 = .ok (.aload_n 0, 1) := by decide +kernel
theorem dX12_calls_383 : decode cX12_calls 383 = .ok (.dup, 1) := by decide +kernel
theorem dX12_calls_384 : decode cX12_calls 384 = .ok (.getfield 551, 3) := by decide +kernel
theorem dX12_calls_387 : decode cX12_calls 387 = .ok (.iload 10, 2) := by decide +kernel
theorem dX12_calls_389 : decode cX12_calls 389 = .ok (.iadd, 1) := by decide +kernel
theorem dX12_calls_390 : decode cX12_calls 390 = .ok (.putfield 551, 3) := by decide +kernel
theorem dX12_calls_393 : decode cX12_calls 393 = .ok (.aload_n 0, 1) := by decide +kernel
theorem dX12_calls_394 : decode cX12_calls 394 = .ok (.getfield 166, 3) := by decide +kernel
theorem dX12_calls_397 : decode cX12_calls 397 = .ok (.iload_n 1, 1) := by decide +kernel
theorem dX12_calls_398 : decode cX12_calls 398 = .ok (.iload_n 3, 1) := by decide +kernel
theorem dX12_calls_399 : decode cX12_calls 399 = .ok (.iastore, 1) := by decide +kernel
theorem dX12_calls_400 : decode cX12_calls 400 = .ok (.aload_n 0, 1) := by decide +kernel
theorem dX12_calls_401 : decode cX12_calls 401 = .ok (.getfield 169, 3) := by decide +kernel
theorem dX12_calls_404 : decode cX12_calls 404 = .ok (.iload_n 1, 1) := by decide +kernel
theorem dX12_calls_405 : decode cX12_calls 405 = .ok (.aload_n 0, 1) := by decide +kernel
theorem dX12_calls_406 : decode cX12_calls 406 = .ok (.getfield 94, 3) := by decide +kernel
theorem dX12_calls_409 : decode cX12_calls 409 = .ok (.iload_n 3, 1) := by decide +kernel
theorem dX12_calls_410 : decode cX12_calls 410 = .ok (.iaload, 1) := by decide +kernel
theorem dX12_calls_411 : decode cX12_calls 411 = .ok (.iastore, 1) := by decide +kernel
theorem dX12_calls_412 : decode cX12_calls 412 = .ok (.aload_n 0, 1) := by decide +kernel
theorem dX12_calls_413 : decode cX12_calls 413 = .ok (.getfield 175, 3) := by decide +kernel
theorem dX12_calls_416 : decode cX12_calls 416 = .ok (.iload_n 1, 1) := by decide +kernel
theorem dX12_calls_417 : decode cX12_calls 417 = .ok (.iaload, 1) := by decide +kernel
theorem dX12_calls_418 : decode cX12_calls 418 = .ok (.istore 12, 2) := by decide +kernel
theorem dX12_calls_420 : decode cX12_calls 420 = .ok (.aload_n 0, 1) := by decide +kernel
theorem dX12_calls_421 : decode cX12_calls 421 = .ok (.getfield 175, 3) := by decide +kernel
theorem dX12_calls_424 : decode cX12_calls 424 = .ok (.iload_n 1, 1) := by decide +kernel
theorem dX12_calls_425 : decode cX12_calls 425 = .ok (.iconst (-1), 1) := by decide +kernel
theorem dX12_calls_426 : decode cX12_calls 426 = .ok (.iastore, 1) := by decide +kernel
theorem dX12_calls_427 : decode cX12_calls 427 = .ok (.aload_n 0, 1) := by decide +kernel
theorem dX12_calls_428 : decode cX12_calls 428 = .ok (.getfield 175, 3) := by decide +kernel
theorem dX12_calls_431 : decode cX12_calls 431 = .ok (.iload_n 1, 1) := by decide +kernel
theorem dX12_calls_432 : decode cX12_calls 432 = .ok (.aload_n 0, 1) := by decide +kernel
theorem dX12_calls_433 : decode cX12_calls 433 = .ok (.iload_n 3, 1) := by decide +kernel
theorem dX12_calls_434 : decode cX12_calls 434 = .ok (.invokevirtual 545, 3) := by decide +kernel
theorem dX12_calls_437 : decode cX12_calls 437 = .ok (.iastore, 1) := by decide +kernel
theorem dX12_calls_438 : decode cX12_calls 438 = .ok (.goto 10, 3) := by decide +kernel
theorem dX12_calls_441 : decode cX12_calls 441 = .ok (.aload_n 0, 1) := by decide +kernel
theorem dX12_calls_442 : decode cX12_calls 442 = .ok (.iload_n 3, 1) := by decide +kernel
theorem dX12_calls_443 : decode cX12_calls 443 = .ok (.invokevirtual 601, 3) := by decide +kernel
theorem dX12_calls_446 : decode cX12_calls 446 = .ok (.istore 11, 2) := by decide +kernel
theorem dX12_calls_448 : decode cX12_calls 448 = .ok (.iconst 0, 1) := by decide +kernel
theorem dX12_calls_449 : decode cX12_calls 449 = .ok (.istore 12, 2) := by decide +kernel
theorem dX12_calls_451 : decode cX12_calls 451 = .ok (.iload 12, 2) := by decide +kernel
theorem dX12_calls_453 : decode cX12_calls 453 = .ok (.aload_n 0, 1) := by decide +kernel
theorem dX12_calls_454 : decode cX12_calls 454 = .ok (.getfield 67, 3) := by decide +kernel
theorem dX12_calls_457 : decode cX12_calls 457 = .ok (.iload_n 2, 1) := by decide +kernel
theorem dX12_calls_458 : decode cX12_calls 458 = .ok (.iaload, 1) := by decide +kernel
theorem dX12_calls_459 : decode cX12_calls 459 = .ok (.if_icmp .ge 59, 3) := by decide +kernel
theorem dX12_calls_462 : decode cX12_calls 462 = .ok (.aload_n 0, 1) := by decide +kernel
theorem dX12_calls_463 : decode cX12_calls 463 = .ok (.getfield 178, 3) := by decide +kernel
theorem dX12_calls_466 : decode cX12_calls 466 = .ok (.aload_n 0, 1) := by decide +kernel
theorem dX12_calls_467 : decode cX12_calls 467 = .ok (.getfield 175, 3) := by decide +kernel
theorem dX12_calls_470 : decode cX12_calls 470 = .ok (.iload 11, 2) := by decide +kernel
theorem dX12_calls_472 : decode cX12_calls 472 = .ok (.iaload, 1) := by decide +kernel
theorem dX12_calls_473 : decode cX12_calls 473 = .ok (.iload 6, 2) := by decide +kernel
theorem dX12_calls_475 : decode cX12_calls 475 = .ok (.iadd, 1) := by decide +kernel
theorem dX12_calls_476 : decode cX12_calls 476 = .ok (.iload 12, 2) := by decide +kernel
theorem dX12_calls_478 : decode cX12_calls 478 = .ok (.iadd, 1) := by decide +kernel
theorem dX12_calls_479 : decode cX12_calls 479 = .ok (.aload_n 0, 1) := by decide +kernel
theorem dX12_calls_480 : decode cX12_calls 480 = .ok (.getfield 199, 3) := by decide +kernel
theorem dX12_calls_483 : decode cX12_calls 483 = .ok (.iload 12, 2) := by decide +kernel
theorem dX12_calls_485 : decode cX12_calls 485 = .ok (.iaload, 1) := by decide +kernel
theorem dX12_calls_486 : decode cX12_calls 486 = .ok (.iastore, 1) := by decide +kernel
theorem dX12_calls_487 : decode cX12_calls 487 = .ok (.aload_n 0, 1) := by decide +kernel
theorem dX12_calls_488 : decode cX12_calls 488 = .ok (.getfield 181, 3) := by decide +kernel
theorem dX12_calls_491 : decode cX12_calls 491 = .ok (.aload_n 0, 1) := by decide +kernel
theorem dX12_calls_492 : decode cX12_calls 492 = .ok (.getfield 175, 3) := by decide +kernel
theorem dX12_calls_495 : decode cX12_calls 495 = .ok (.iload 11, 2) := by decide +kernel
theorem dX12_calls_497 : decode cX12_calls 497 = .ok (.iaload, 1) := by decide +kernel
theorem dX12_calls_498 : decode cX12_calls 498 = .ok (.iload 6, 2) := by decide +kernel
theorem dX12_calls_500 : decode cX12_calls 500 = .ok (.iadd, 1) := by decide +kernel
theorem dX12_calls_501 : decode cX12_calls 501 = .ok (.iload 12, 2) := by decide +kernel
theorem dX12_calls_503 : decode cX12_calls 503 = .ok (.iadd, 1) := by decide +kernel
theorem dX12_calls_504 : decode cX12_calls 504 = .ok (.aload_n 0, 1) := by decide +kernel
theorem dX12_calls_505 : decode cX12_calls 505 = .ok (.getfield 202, 3) := by decide +kernel
theorem dX12_calls_508 : decode cX12_calls 508 = .ok (.iload 12, 2) := by decide +kernel
theorem dX12_calls_510 : decode cX12_calls 510 = .ok (.iaload, 1) := by decide +kernel
theorem dX12_calls_511 : decode cX12_calls 511 = .ok (.iastore, 1) := by decide +kernel
theorem dX12_calls_512 : decode cX12_calls 512 = .ok (.iinc 12 1, 3) := by decide +kernel
theorem dX12_calls_515 : decode cX12_calls 515 = .ok (.goto (-64), 3) := by decide +kernel
theorem dX12_calls_518 : decode cX12_calls 518 = .ok (.iload 9, 2) := by decide +kernel
theorem dX12_calls_520 : decode cX12_calls 520 = .ok (.ifCond .eq 47, 3) := by decide +kernel
theorem dX12_calls_523 : decode cX12_calls 523 = .ok (.aload_n 0, 1) := by decide +kernel
theorem dX12_calls_524 : decode cX12_calls 524 = .ok (.iload 8, 2) := by decide +kernel
theorem dX12_calls_526 : decode cX12_calls 526 = .ok (.invokevirtual 604, 3) := by decide +kernel
theorem dX12_calls_529 : decode cX12_calls 529 = .ok (.istore 12, 2) := by decide +kernel
theorem dX12_calls_531 : decode cX12_calls 531 = .ok (.aload_n 0, 1) := by decide +kernel
theorem dX12_calls_532 : decode cX12_calls 532 = .ok (.getfield 181, 3) := by decide +kernel
theorem dX12_calls_535 : decode cX12_calls 535 = .ok (.aload_n 0, 1) := by decide +kernel
theorem dX12_calls_536 : decode cX12_calls 536 = .ok (.getfield 175, 3) := by decide +kernel
theorem dX12_calls_539 : decode cX12_calls 539 = .ok (.iload 11, 2) := by decide +kernel
theorem dX12_calls_541 : decode cX12_calls 541 = .ok (.iaload, 1) := by decide +kernel
theorem dX12_calls_542 : decode cX12_calls 542 = .ok (.iload 12, 2) := by decide +kernel
theorem dX12_calls_544 : decode cX12_calls 544 = .ok (.iastore, 1) := by decide +kernel
theorem dX12_calls_545 : decode cX12_calls 545 = .ok (.aload_n 0, 1) := by decide +kernel
theorem dX12_calls_546 : decode cX12_calls 546 = .ok (.getfield 181, 3) := by decide +kernel
theorem dX12_calls_549 : decode cX12_calls 549 = .ok (.aload_n 0, 1) := by decide +kernel
theorem dX12_calls_550 : decode cX12_calls 550 = .ok (.getfield 175, 3) := by decide +kernel
theorem dX12_calls_553 : decode cX12_calls 553 = .ok (.iload_n 1, 1) := by decide +kernel
theorem dX12_calls_554 : decode cX12_calls 554 = .ok (.iaload, 1) := by decide +kernel
theorem dX12_calls_555 : decode cX12_calls 555 = .ok (.aload_n 0, 1) := by decide +kernel
theorem dX12_calls_556 : decode cX12_calls 556 = .ok (.getfield 55, 3) := by decide +kernel
theorem dX12_calls_559 : decode cX12_calls 559 = .ok (.iload_n 2, 1) := by decide +kernel
theorem dX12_calls_560 : decode cX12_calls 560 = .ok (.iaload, 1) := by decide +kernel
theorem dX12_calls_561 : decode cX12_calls 561 = .ok (.iadd, 1) := by decide +kernel
theorem dX12_calls_562 : decode cX12_calls 562 = .ok (.iload 12, 2) := by decide +kernel
theorem dX12_calls_564 : decode cX12_calls 564 = .ok (.iconst 1, 1) := by decide +kernel
theorem dX12_calls_565 : decode cX12_calls 565 = .ok (.iadd, 1) := by decide +kernel
theorem dX12_calls_566 : decode cX12_calls 566 = .ok (.iastore, 1) := by decide +kernel
theorem dX12_calls_567 : decode cX12_calls 567 = .ok (.iconst 1, 1) := by decide +kernel
theorem dX12_calls_568 : decode cX12_calls 568 = .ok (.ireturn, 1) := by decide +kernel
def bX12_calls_188 (k73 : Int32 → Int32 → Int32 → Int32 → Int32 → Int32 → Int32 → Int32 → zS → zR) (x1 : Int32) (x2 : Int32) (x3 : Int32) (x4 : Int32) (x5 : Int32) (x6 : Int32) (x7 : Int32) (x8 : Int32) (t : zS) : zR := zlet (x8 + 1) fun v4463 => k73 x1 x2 x3 x4 x5 x6 x7 v4463 t
def bX12_calls_356 (k303 : Int32 → Int32 → Int32 → Int32 → Int32 → Int32 → Int32 → Int32 → Int32 → zS → zR) (x1 : Int32) (x2 : Int32) (x3 : Int32) (x5 : Int32) (x6 : Int32) (x8 : Int32) (x9 : Int32) (x10 : Int32) (x11 : Int32) (t : zS) : zR := zlet (x11 + 1) fun v4464 => k303 x1 x2 x3 x5 x6 x8 x9 x10 v4464 t
def bX12_calls_451 (k451 : Int32 → Int32 → Int32 → Int32 → Int32 → Int32 → Int32 → zS → zR) (x1 : Int32) (x2 : Int32) (x6 : Int32) (x8 : Int32) (x9 : Int32) (x11 : Int32) (x12 : Int32) (t : zS) : zR := zrd t 20 1600 x2 fun v4465 => if v4465 ≤ x12 then if x9 = 0 then some (1, t) else zbd (mX12_newChannel x8 t) fun r4467 t4468 => zrd t4468 51 2600 x11 fun v4470 => zwr t4468 53 24000 v4470 r4467 fun t4473 => zrd t4473 51 2600 x1 fun v4474 => zrd t4473 16 1600 x2 fun v4476 => zwr t4473 53 24000 (v4474 + v4476) (r4467 + 1) fun t4479 => some (1, t4479) else zrd t 51 2600 x11 fun v4480 => zrd t 59 1600 x12 fun v4482 => zwr t 52 24000 ((v4480 + x6) + x12) v4482 fun t4485 => zrd t4485 51 2600 x11 fun v4486 => zrd t4485 60 1600 x12 fun v4488 => zwr t4485 53 24000 ((v4486 + x6) + x12) v4488 fun t4491 => zlet (x12 + 1) fun v4492 => k451 x1 x2 x6 x8 x9 x11 v4492 t4491
def lX12_calls_451 : Nat → Int32 → Int32 → Int32 → Int32 → Int32 → Int32 → Int32 → zS → zR
  | 0, _, _, _, _, _, _, _, _ => none
  | fu + 1, x1, x2, x6, x8, x9, x11, x12, t => bX12_calls_451 (lX12_calls_451  fu) x1 x2 x6 x8 x9 x11 x12 t
def bX12_calls_448 (x1 : Int32) (x2 : Int32) (x6 : Int32) (x8 : Int32) (x9 : Int32) (x11 : Int32) (t : zS) : zR := lX12_calls_451  zFU x1 x2 x6 x8 x9 x11 0 t
def bX12_calls_362 (x1 : Int32) (x2 : Int32) (x3 : Int32) (x5 : Int32) (x6 : Int32) (x8 : Int32) (x9 : Int32) (x10 : Int32) (t : zS) : zR := zrd t 21 1600 x2 fun v4493 => zwr t 49 2600 x1 v4493 fun t4496 => if x5 = 0 then zbd (mX12_newProcess x3 t4496) fun r4497 t4498 => bX12_calls_448  x1 x2 x6 x8 x9 r4497 t4498 else zpt t4496 0 80 ((t4496 0 80) + x10) fun t4500 => zwr t4500 48 2600 x1 x3 fun t4502 => zrd t4502 29 300 x3 fun v4503 => zwr t4502 49 2600 x1 v4503 fun t4506 => zrd t4506 51 2600 x1 fun v4507 => zwr t4506 51 2600 x1 (-1) fun t4510 => zbd (mX12_rooms x3 t4510) fun r4511 t4512 => zwr t4512 51 2600 x1 r4511 fun t4515 => bX12_calls_448  x1 x2 x6 x8 x9 x1 t4515
def bX12_calls_303 (k303 : Int32 → Int32 → Int32 → Int32 → Int32 → Int32 → Int32 → Int32 → Int32 → zS → zR) (x1 : Int32) (x2 : Int32) (x3 : Int32) (x5 : Int32) (x6 : Int32) (x8 : Int32) (x9 : Int32) (x10 : Int32) (x11 : Int32) (t : zS) : zR := zrd t 20 1600 x2 fun v4516 => if v4516 ≤ x11 then bX12_calls_362  x1 x2 x3 x5 x6 x8 x9 x10 t else if x5 = 0 then zrd t 60 1600 x11 fun v4518 => if v4518 < 0 then bX12_calls_356 k303 x1 x2 x3 x5 x6 x8 x9 x10 x11 t else zrd t 51 2600 x1 fun v4520 => zrd t 19 1600 x2 fun v4522 => zrd t 26 1600 (v4522 + x11) fun v4524 => zwr t 53 24000 (v4520 + v4524) (-1) fun t4527 => bX12_calls_356 k303 x1 x2 x3 x5 x6 x8 x9 x10 x11 t4527 else bX12_calls_362  x1 x2 x3 x5 x6 x8 x9 x10 t
def lX12_calls_303 : Nat → Int32 → Int32 → Int32 → Int32 → Int32 → Int32 → Int32 → Int32 → Int32 → zS → zR
  | 0, _, _, _, _, _, _, _, _, _, _ => none
  | fu + 1, x1, x2, x3, x5, x6, x8, x9, x10, x11, t => bX12_calls_303 (lX12_calls_303  fu) x1 x2 x3 x5 x6 x8 x9 x10 x11 t
def bX12_calls_277 (x1 : Int32) (x2 : Int32) (x3 : Int32) (x5 : Int32) (x6 : Int32) (x8 : Int32) (x9 : Int32) (y0 : Int32) (y1 : Int32) (t : zS) : zR := zlet (y1 + y0) fun v4528 => if ((t 0 80) + v4528) ≤ (t 0 74) then lX12_calls_303  zFU x1 x2 x3 x5 x6 x8 x9 v4528 0 t else zbd (mX12_ends 4 t) fun r4529 t4530 => z01 r4529 (some (r4529, t4530))
def bX12_calls_263 (x1 : Int32) (x2 : Int32) (x3 : Int32) (x5 : Int32) (x6 : Int32) (x8 : Int32) (x9 : Int32) (y0 : Int32) (y1 : Int32) (t : zS) : zR := if x9 = 0 then bX12_calls_277  x1 x2 x3 x5 x6 x8 x9 0 (y1 - y0) t else zbd (mX12_channelCells  t) fun r4533 t4534 => bX12_calls_277  x1 x2 x3 x5 x6 x8 x9 r4533 (y1 - y0) t4534
def bX12_calls_237 (x1 : Int32) (x2 : Int32) (x3 : Int32) (x5 : Int32) (x6 : Int32) (x8 : Int32) (y0 : Int32) (t : zS) : zR := zbd (mX12_processCells x3 t) fun r4536 t4537 => if x5 = 0 then bX12_calls_263  x1 x2 x3 x5 x6 x8 y0 0 r4536 t4537 else zrd t4537 48 2600 x1 fun v4539 => zbd (mX12_processCells v4539 t4537) fun r4541 t4542 => bX12_calls_263  x1 x2 x3 x5 x6 x8 y0 r4541 r4536 t4542
def bX12_calls_236 (x1 : Int32) (x2 : Int32) (x3 : Int32) (x5 : Int32) (x6 : Int32) (x8 : Int32) (t : zS) : zR := bX12_calls_237  x1 x2 x3 x5 x6 x8 0 t
def bX12_calls_216 (x1 : Int32) (x2 : Int32) (x3 : Int32) (x4 : Int32) (x5 : Int32) (x6 : Int32) (y0 : Int32) (t : zS) : zR := if x4 = 0 then bX12_calls_236  x1 x2 x3 x5 x6 y0 t else zbd (mX12_isOf y0 t) fun r4544 t4545 => if r4544 = 0 then bX12_calls_236  x1 x2 x3 x5 x6 y0 t4545 else bX12_calls_237  x1 x2 x3 x5 x6 y0 1 t4545
def bX12_calls_73 (k73 : Int32 → Int32 → Int32 → Int32 → Int32 → Int32 → Int32 → Int32 → zS → zR) (x1 : Int32) (x2 : Int32) (x3 : Int32) (x4 : Int32) (x5 : Int32) (x6 : Int32) (x7 : Int32) (x8 : Int32) (t : zS) : zR := zrd t 20 1600 x2 fun v4547 => if v4547 ≤ x8 then if x4 = 0 then bX12_calls_216  x1 x2 x3 x4 x5 x6 (-1) t else zrd t 34 3000 x7 fun v4549 => zbd (mX12_plain (2 * v4549) t) fun r4551 t4552 => bX12_calls_216  x1 x2 x3 x4 x5 x6 r4551 t4552 else zrd t 19 1600 x2 fun v4554 => zlet (v4554 + x8) fun v4556 => zwr t 60 1600 x8 (-1) fun t4558 => zwr t4558 59 1600 x8 0 fun t4560 => zrd t4560 34 3000 ((x7 + x6) + x8) fun v4561 => if v4561 < 0 then zrd t4560 25 1600 v4556 fun v4563 => zbd (mX12_worth x1 v4563 t4560) fun r4565 t4566 => zwr t4566 59 1600 x8 r4565 fun t4569 => if (t4569 0 107) = 0 then bX12_calls_188 k73 x1 x2 x3 x4 x5 x6 x7 x8 t4569 else zbd (mX12_ends 3 t4569) fun r4570 t4571 => z01 r4570 (some (r4570, t4571)) else zrd t4560 51 2600 x1 fun v4574 => zrd t4560 26 1600 v4556 fun v4576 => zrd t4560 53 24000 (v4574 + v4576) fun v4578 => zwr t4560 60 1600 x8 v4578 fun t4581 => bX12_calls_188 k73 x1 x2 x3 x4 x5 x6 x7 x8 t4581
def lX12_calls_73 : Nat → Int32 → Int32 → Int32 → Int32 → Int32 → Int32 → Int32 → Int32 → zS → zR
  | 0, _, _, _, _, _, _, _, _, _ => none
  | fu + 1, x1, x2, x3, x4, x5, x6, x7, x8, t => bX12_calls_73 (lX12_calls_73  fu) x1 x2 x3 x4 x5 x6 x7 x8 t
def bX12_calls_53 (x1 : Int32) (x2 : Int32) (x3 : Int32) (x4 : Int32) (x5 : Int32) (y0 : Int32) (t : zS) : zR := zrd t 31 301 x3 fun v4582 => zwr t 49 2600 x1 x2 fun t4585 => lX12_calls_73  zFU x1 x2 x3 x4 x5 y0 v4582 0 t4585
def bX12_calls_41 (x1 : Int32) (x2 : Int32) (x3 : Int32) (x4 : Int32) (y0 : Int32) (t : zS) : zR := if x4 = 0 then bX12_calls_53  x1 x2 x3 x4 y0 0 t else bX12_calls_53  x1 x2 x3 x4 y0 1 t
def bX12_calls_23 (x1 : Int32) (x2 : Int32) (x3 : Int32) (y0 : Int32) (t : zS) : zR := zrd t 14 1600 x2 fun v4586 => if v4586 = 9 then bX12_calls_41  x1 x2 x3 y0 1 t else bX12_calls_41  x1 x2 x3 y0 0 t
def mX12_calls (x1 : Int32) (x2 : Int32) (t : zS) : zR := zrd t 17 1600 x2 fun v4588 => zrd t 14 1600 x2 fun v4590 => if v4590 = 8 then bX12_calls_23  x1 x2 v4588 1 t else bX12_calls_23  x1 x2 v4588 0 t
set_option maxHeartbeats 4000000 in
set_option maxRecDepth 20000 in
theorem wbX12_calls_188 {E : zE} {C : zC} {f : Nat} {ro : Int32 × zS} (hf : 5 ≤ f) (k73 : Int32 → Int32 → Int32 → Int32 → Int32 → Int32 → Int32 → Int32 → zS → zR) (hk73 : ∀ (x1 x2 x3 x4 x5 x6 x7 x8 : Int32) (t : zS), k73 x1 x2 x3 x4 x5 x6 x7 x8 t = some ro → zJ E shM C cX12_calls RX12 13 f (some .boolean) ro t 73 [(0, .ref (za E 0)), (1, .int x1), (2, .int x2), (3, .int x3), (4, .int x4), (5, .int x5), (6, .int x6), (7, .int x7), (8, .int x8)] []) (x1 : Int32) (x2 : Int32) (x3 : Int32) (x4 : Int32) (x5 : Int32) (x6 : Int32) (x7 : Int32) (x8 : Int32) (t : zS) (hF : bX12_calls_188 k73 x1 x2 x3 x4 x5 x6 x7 x8 t = some ro) : zJ E shM C cX12_calls RX12 13 f (some .boolean) ro t 188 [(0, .ref (za E 0)), (1, .int x1), (2, .int x2), (3, .int x3), (4, .int x4), (5, .int x5), (6, .int x6), (7, .int x7), (8, .int x8)] [] := by
  unfold bX12_calls_188 at hF
  obtain ⟨v4463, ev4463⟩ : ∃ y : Int32, y = (x8 + 1) := ⟨_, rfl⟩
  have hF := zlet_at ev4463 hF
  refine z_iinc (v := v4463) (lv' := [(8, .int v4463), (0, .ref (za E 0)), (1, .int x1), (2, .int x2), (3, .int x3), (4, .int x4), (5, .int x5), (6, .int x6), (7, .int x7)]) (k := 8) dX12_calls_188 rfl (by rw [ev4463]; rfl) (by decide) rfl ?_
  refine z_goto (tgt := 73) dX12_calls_191 (by decide) ?_
  refine z_sub [1, 2, 3, 4, 5, 6, 7, 8, 0] rfl ?_
  exact hk73 x1 x2 x3 x4 x5 x6 x7 v4463 _ hF
set_option maxHeartbeats 4000000 in
set_option maxRecDepth 20000 in
theorem wbX12_calls_356 {E : zE} {C : zC} {f : Nat} {ro : Int32 × zS} (hf : 5 ≤ f) (k303 : Int32 → Int32 → Int32 → Int32 → Int32 → Int32 → Int32 → Int32 → Int32 → zS → zR) (hk303 : ∀ (x1 x2 x3 x5 x6 x8 x9 x10 x11 : Int32) (t : zS), k303 x1 x2 x3 x5 x6 x8 x9 x10 x11 t = some ro → zJ E shM C cX12_calls RX12 13 f (some .boolean) ro t 303 [(0, .ref (za E 0)), (1, .int x1), (2, .int x2), (3, .int x3), (5, .int x5), (6, .int x6), (8, .int x8), (9, .int x9), (10, .int x10), (11, .int x11)] []) (x1 : Int32) (x2 : Int32) (x3 : Int32) (x5 : Int32) (x6 : Int32) (x8 : Int32) (x9 : Int32) (x10 : Int32) (x11 : Int32) (t : zS) (hF : bX12_calls_356 k303 x1 x2 x3 x5 x6 x8 x9 x10 x11 t = some ro) : zJ E shM C cX12_calls RX12 13 f (some .boolean) ro t 356 [(0, .ref (za E 0)), (1, .int x1), (2, .int x2), (3, .int x3), (5, .int x5), (6, .int x6), (8, .int x8), (9, .int x9), (10, .int x10), (11, .int x11)] [] := by
  unfold bX12_calls_356 at hF
  obtain ⟨v4464, ev4464⟩ : ∃ y : Int32, y = (x11 + 1) := ⟨_, rfl⟩
  have hF := zlet_at ev4464 hF
  refine z_iinc (v := v4464) (lv' := [(11, .int v4464), (0, .ref (za E 0)), (1, .int x1), (2, .int x2), (3, .int x3), (5, .int x5), (6, .int x6), (8, .int x8), (9, .int x9), (10, .int x10)]) (k := 9) dX12_calls_356 rfl (by rw [ev4464]; rfl) (by decide) rfl ?_
  refine z_goto (tgt := 303) dX12_calls_359 (by decide) ?_
  refine z_sub [1, 2, 3, 4, 5, 6, 7, 8, 9, 0] rfl ?_
  exact hk303 x1 x2 x3 x5 x6 x8 x9 x10 v4464 _ hF
set_option maxHeartbeats 4000000 in
set_option maxRecDepth 20000 in
theorem wbX12_calls_451 {E : zE} {C : zC} {f : Nat} {ro : Int32 × zS} (hf : 5 ≤ f) (k451 : Int32 → Int32 → Int32 → Int32 → Int32 → Int32 → Int32 → zS → zR) (hk451 : ∀ (x1 x2 x6 x8 x9 x11 x12 : Int32) (t : zS), k451 x1 x2 x6 x8 x9 x11 x12 t = some ro → zJ E shM C cX12_calls RX12 13 f (some .boolean) ro t 451 [(0, .ref (za E 0)), (1, .int x1), (2, .int x2), (6, .int x6), (8, .int x8), (9, .int x9), (11, .int x11), (12, .int x12)] []) (x1 : Int32) (x2 : Int32) (x6 : Int32) (x8 : Int32) (x9 : Int32) (x11 : Int32) (x12 : Int32) (t : zS) (hF : bX12_calls_451 k451 x1 x2 x6 x8 x9 x11 x12 t = some ro) : zJ E shM C cX12_calls RX12 13 f (some .boolean) ro t 451 [(0, .ref (za E 0)), (1, .int x1), (2, .int x2), (6, .int x6), (8, .int x8), (9, .int x9), (11, .int x11), (12, .int x12)] [] := by
  unfold bX12_calls_451 at hF
  refine z_iload 7 dX12_calls_451 rfl ?_
  refine z_aload_n 0 dX12_calls_453 rfl rfl ?_
  refine z_getr fr_RX12_67 dX12_calls_454 ?_
  refine z_iload_n 2 dX12_calls_457 rfl rfl ?_
  obtain ⟨hi4466, hF⟩ := zrd_at hF
  refine z_iald (n := 1600) rfl hi4466 dX12_calls_458 ?_
  generalize t 20 (Int32.toNatClampNeg x2) = v4465 at hF ⊢
  refine z_icmp_ge (tgt := 518) dX12_calls_459 (by decide) (fun hc => ?_) (fun hc => ?_)
  · have hF := zif_t hc hF
    refine z_iload 5 dX12_calls_518 rfl ?_
    refine z_if_eq (tgt := 567) dX12_calls_520 (by decide) (fun hc => ?_) (fun hc => ?_)
    · have hF := zif_t hc hF
      refine z_iconst (v := 1) dX12_calls_567 (by decide) ?_
      exact z_zret hF (by decide) dX12_calls_568
    · have hF := zif_f hc hF
      refine z_aload_n 0 dX12_calls_523 rfl rfl ?_
      refine z_iload 4 dX12_calls_524 rfl ?_
      obtain ⟨r4467, t4468, hc4469, hF⟩ := zbd_at hF
      refine z_callVi (ctX12_newChannel (E := E) (f := f - 1) (by omega) hc4469) yy_X12_newChannel yv_X12_newChannel ob_M_0 lk_RX12_604 (by omega) rfl rfl (Nat.le_of_ble_eq_true rfl) dX12_calls_526 ?_
      refine z_istore (lv' := [(12, .int r4467), (0, .ref (za E 0)), (1, .int x1), (2, .int x2), (6, .int x6), (8, .int x8), (9, .int x9), (11, .int x11)]) dX12_calls_529 (by decide) rfl ?_
      refine z_aload_n 1 dX12_calls_531 rfl rfl ?_
      refine z_getr fr_RX12_181 dX12_calls_532 ?_
      refine z_aload_n 1 dX12_calls_535 rfl rfl ?_
      refine z_getr fr_RX12_175 dX12_calls_536 ?_
      refine z_iload 7 dX12_calls_539 rfl ?_
      obtain ⟨hi4471, hF⟩ := zrd_at hF
      refine z_iald (n := 2600) rfl hi4471 dX12_calls_541 ?_
      generalize t4468 51 (Int32.toNatClampNeg x11) = v4470 at hF ⊢
      refine z_iload 0 dX12_calls_542 rfl ?_
      obtain ⟨hi4472, hF⟩ := zwr_at hF
      refine z_iast (n := 24000) rfl hi4472 dX12_calls_544 (fun t4473 et4473 => ?_)
      have hF := hF t4473 et4473
      refine z_aload_n 1 dX12_calls_545 rfl rfl ?_
      refine z_getr fr_RX12_181 dX12_calls_546 ?_
      refine z_aload_n 1 dX12_calls_549 rfl rfl ?_
      refine z_getr fr_RX12_175 dX12_calls_550 ?_
      refine z_iload_n 2 dX12_calls_553 rfl rfl ?_
      obtain ⟨hi4475, hF⟩ := zrd_at hF
      refine z_iald (n := 2600) rfl hi4475 dX12_calls_554 ?_
      generalize t4473 51 (Int32.toNatClampNeg x1) = v4474 at hF ⊢
      refine z_aload_n 1 dX12_calls_555 rfl rfl ?_
      refine z_getr fr_RX12_55 dX12_calls_556 ?_
      refine z_iload_n 3 dX12_calls_559 rfl rfl ?_
      obtain ⟨hi4477, hF⟩ := zrd_at hF
      refine z_iald (n := 1600) rfl hi4477 dX12_calls_560 ?_
      generalize t4473 16 (Int32.toNatClampNeg x2) = v4476 at hF ⊢
      refine z_iadd dX12_calls_561 ?_
      refine z_iload 0 dX12_calls_562 rfl ?_
      refine z_iconst (v := 1) dX12_calls_564 (by decide) ?_
      refine z_iadd dX12_calls_565 ?_
      obtain ⟨hi4478, hF⟩ := zwr_at hF
      refine z_iast (n := 24000) rfl hi4478 dX12_calls_566 (fun t4479 et4479 => ?_)
      have hF := hF t4479 et4479
      refine z_iconst (v := 1) dX12_calls_567 (by decide) ?_
      exact z_zret hF (by decide) dX12_calls_568
  · have hF := zif_f hc hF
    refine z_aload_n 0 dX12_calls_462 rfl rfl ?_
    refine z_getr fr_RX12_178 dX12_calls_463 ?_
    refine z_aload_n 0 dX12_calls_466 rfl rfl ?_
    refine z_getr fr_RX12_175 dX12_calls_467 ?_
    refine z_iload 6 dX12_calls_470 rfl ?_
    obtain ⟨hi4481, hF⟩ := zrd_at hF
    refine z_iald (n := 2600) rfl hi4481 dX12_calls_472 ?_
    generalize t 51 (Int32.toNatClampNeg x11) = v4480 at hF ⊢
    refine z_iload 3 dX12_calls_473 rfl ?_
    refine z_iadd dX12_calls_475 ?_
    refine z_iload 7 dX12_calls_476 rfl ?_
    refine z_iadd dX12_calls_478 ?_
    refine z_aload_n 0 dX12_calls_479 rfl rfl ?_
    refine z_getr fr_RX12_199 dX12_calls_480 ?_
    refine z_iload 7 dX12_calls_483 rfl ?_
    obtain ⟨hi4483, hF⟩ := zrd_at hF
    refine z_iald (n := 1600) rfl hi4483 dX12_calls_485 ?_
    generalize t 59 (Int32.toNatClampNeg x12) = v4482 at hF ⊢
    obtain ⟨hi4484, hF⟩ := zwr_at hF
    refine z_iast (n := 24000) rfl hi4484 dX12_calls_486 (fun t4485 et4485 => ?_)
    have hF := hF t4485 et4485
    refine z_aload_n 0 dX12_calls_487 rfl rfl ?_
    refine z_getr fr_RX12_181 dX12_calls_488 ?_
    refine z_aload_n 0 dX12_calls_491 rfl rfl ?_
    refine z_getr fr_RX12_175 dX12_calls_492 ?_
    refine z_iload 6 dX12_calls_495 rfl ?_
    obtain ⟨hi4487, hF⟩ := zrd_at hF
    refine z_iald (n := 2600) rfl hi4487 dX12_calls_497 ?_
    generalize t4485 51 (Int32.toNatClampNeg x11) = v4486 at hF ⊢
    refine z_iload 3 dX12_calls_498 rfl ?_
    refine z_iadd dX12_calls_500 ?_
    refine z_iload 7 dX12_calls_501 rfl ?_
    refine z_iadd dX12_calls_503 ?_
    refine z_aload_n 0 dX12_calls_504 rfl rfl ?_
    refine z_getr fr_RX12_202 dX12_calls_505 ?_
    refine z_iload 7 dX12_calls_508 rfl ?_
    obtain ⟨hi4489, hF⟩ := zrd_at hF
    refine z_iald (n := 1600) rfl hi4489 dX12_calls_510 ?_
    generalize t4485 60 (Int32.toNatClampNeg x12) = v4488 at hF ⊢
    obtain ⟨hi4490, hF⟩ := zwr_at hF
    refine z_iast (n := 24000) rfl hi4490 dX12_calls_511 (fun t4491 et4491 => ?_)
    have hF := hF t4491 et4491
    obtain ⟨v4492, ev4492⟩ : ∃ y : Int32, y = (x12 + 1) := ⟨_, rfl⟩
    have hF := zlet_at ev4492 hF
    refine z_iinc (v := v4492) (lv' := [(12, .int v4492), (0, .ref (za E 0)), (1, .int x1), (2, .int x2), (6, .int x6), (8, .int x8), (9, .int x9), (11, .int x11)]) (k := 7) dX12_calls_512 rfl (by rw [ev4492]; rfl) (by decide) rfl ?_
    refine z_goto (tgt := 451) dX12_calls_515 (by decide) ?_
    refine z_sub [1, 2, 3, 4, 5, 6, 7, 0] rfl ?_
    exact hk451 x1 x2 x6 x8 x9 x11 v4492 _ hF
set_option maxHeartbeats 4000000 in
set_option maxRecDepth 20000 in
theorem wlX12_calls_451 {E : zE} {C : zC} {f : Nat} {ro : Int32 × zS} (hf : 5 ≤ f) (fu : Nat) : ∀ (x1 x2 x6 x8 x9 x11 x12 : Int32) (t : zS), lX12_calls_451  fu x1 x2 x6 x8 x9 x11 x12 t = some ro → zJ E shM C cX12_calls RX12 13 f (some .boolean) ro t 451 [(0, .ref (za E 0)), (1, .int x1), (2, .int x2), (6, .int x6), (8, .int x8), (9, .int x9), (11, .int x11), (12, .int x12)] [] := by
  induction fu with
  | zero => intro x1 x2 x6 x8 x9 x11 x12 t hF; cases hF
  | succ fu ih => intro x1 x2 x6 x8 x9 x11 x12 t hF; exact wbX12_calls_451 hf (lX12_calls_451  fu) ih x1 x2 x6 x8 x9 x11 x12 t hF
set_option maxHeartbeats 4000000 in
set_option maxRecDepth 20000 in
theorem wbX12_calls_448 {E : zE} {C : zC} {f : Nat} {ro : Int32 × zS} (hf : 5 ≤ f) (x1 : Int32) (x2 : Int32) (x6 : Int32) (x8 : Int32) (x9 : Int32) (x11 : Int32) (t : zS) (hF : bX12_calls_448  x1 x2 x6 x8 x9 x11 t = some ro) : zJ E shM C cX12_calls RX12 13 f (some .boolean) ro t 448 [(0, .ref (za E 0)), (1, .int x1), (2, .int x2), (6, .int x6), (8, .int x8), (9, .int x9), (11, .int x11)] [] := by
  unfold bX12_calls_448 at hF
  refine z_iconst (v := 0) dX12_calls_448 (by decide) ?_
  refine z_istore (lv' := [(12, .int 0), (0, .ref (za E 0)), (1, .int x1), (2, .int x2), (6, .int x6), (8, .int x8), (9, .int x9), (11, .int x11)]) dX12_calls_449 (by decide) rfl ?_
  refine z_sub [1, 2, 3, 4, 5, 6, 7, 0] rfl ?_
  exact wlX12_calls_451 hf  zFU x1 x2 x6 x8 x9 x11 0 _ hF
set_option maxHeartbeats 4000000 in
set_option maxRecDepth 20000 in
theorem wbX12_calls_362 {E : zE} {C : zC} {f : Nat} {ro : Int32 × zS} (hf : 5 ≤ f) (x1 : Int32) (x2 : Int32) (x3 : Int32) (x5 : Int32) (x6 : Int32) (x8 : Int32) (x9 : Int32) (x10 : Int32) (t : zS) (hF : bX12_calls_362  x1 x2 x3 x5 x6 x8 x9 x10 t = some ro) : zJ E shM C cX12_calls RX12 13 f (some .boolean) ro t 362 [(0, .ref (za E 0)), (1, .int x1), (2, .int x2), (3, .int x3), (5, .int x5), (6, .int x6), (8, .int x8), (9, .int x9), (10, .int x10)] [] := by
  unfold bX12_calls_362 at hF
  refine z_aload_n 0 dX12_calls_362 rfl rfl ?_
  refine z_getr fr_RX12_169 dX12_calls_363 ?_
  refine z_iload_n 1 dX12_calls_366 rfl rfl ?_
  refine z_aload_n 0 dX12_calls_367 rfl rfl ?_
  refine z_getr fr_RX12_70 dX12_calls_368 ?_
  refine z_iload_n 2 dX12_calls_371 rfl rfl ?_
  obtain ⟨hi4494, hF⟩ := zrd_at hF
  refine z_iald (n := 1600) rfl hi4494 dX12_calls_372 ?_
  generalize t 21 (Int32.toNatClampNeg x2) = v4493 at hF ⊢
  obtain ⟨hi4495, hF⟩ := zwr_at hF
  refine z_iast (n := 2600) rfl hi4495 dX12_calls_373 (fun t4496 et4496 => ?_)
  have hF := hF t4496 et4496
  refine z_iload_n 1 dX12_calls_374 rfl rfl ?_
  refine z_istore (lv' := [(11, .int x1), (0, .ref (za E 0)), (1, .int x1), (2, .int x2), (3, .int x3), (5, .int x5), (6, .int x6), (8, .int x8), (9, .int x9), (10, .int x10)]) dX12_calls_375 (by decide) rfl ?_
  refine z_iload 5 dX12_calls_377 rfl ?_
  refine z_if_eq (tgt := 441) dX12_calls_379 (by decide) (fun hc => ?_) (fun hc => ?_)
  · have hF := zif_t hc hF
    refine z_aload_n 1 dX12_calls_441 rfl rfl ?_
    refine z_iload_n 4 dX12_calls_442 rfl rfl ?_
    obtain ⟨r4497, t4498, hc4499, hF⟩ := zbd_at hF
    refine z_callVi (ctX12_newProcess (E := E) (f := f - 1) (by omega) hc4499) yy_X12_newProcess yv_X12_newProcess ob_M_0 lk_RX12_601 (by omega) rfl rfl (Nat.le_of_ble_eq_true rfl) dX12_calls_443 ?_
    refine z_istore (lv' := [(11, .int r4497), (0, .ref (za E 0)), (1, .int x1), (2, .int x2), (3, .int x3), (5, .int x5), (6, .int x6), (8, .int x8), (9, .int x9), (10, .int x10)]) dX12_calls_446 (by decide) rfl ?_
    refine z_sub [1, 2, 3, 6, 7, 8, 0] rfl ?_
    exact wbX12_calls_448 hf  x1 x2 x6 x8 x9 r4497 _ hF
  · have hF := zif_f hc hF
    refine z_aload_n 1 dX12_calls_382 rfl rfl ?_
    refine z_dup dX12_calls_383 rfl ?_
    refine z_geti fi_RX12_551 dX12_calls_384 ?_
    refine z_iload 9 dX12_calls_387 rfl ?_
    refine z_iadd dX12_calls_389 ?_
    refine z_puti fw_RX12_551 dX12_calls_390 (fun t4500 et4500 => ?_)
    have hF := zpt_at hF t4500 et4500
    refine z_aload_n 1 dX12_calls_393 rfl rfl ?_
    refine z_getr fr_RX12_166 dX12_calls_394 ?_
    refine z_iload_n 2 dX12_calls_397 rfl rfl ?_
    refine z_iload_n 4 dX12_calls_398 rfl rfl ?_
    obtain ⟨hi4501, hF⟩ := zwr_at hF
    refine z_iast (n := 2600) rfl hi4501 dX12_calls_399 (fun t4502 et4502 => ?_)
    have hF := hF t4502 et4502
    refine z_aload_n 1 dX12_calls_400 rfl rfl ?_
    refine z_getr fr_RX12_169 dX12_calls_401 ?_
    refine z_iload_n 2 dX12_calls_404 rfl rfl ?_
    refine z_aload_n 1 dX12_calls_405 rfl rfl ?_
    refine z_getr fr_RX12_94 dX12_calls_406 ?_
    refine z_iload_n 4 dX12_calls_409 rfl rfl ?_
    obtain ⟨hi4504, hF⟩ := zrd_at hF
    refine z_iald (n := 300) rfl hi4504 dX12_calls_410 ?_
    generalize t4502 29 (Int32.toNatClampNeg x3) = v4503 at hF ⊢
    obtain ⟨hi4505, hF⟩ := zwr_at hF
    refine z_iast (n := 2600) rfl hi4505 dX12_calls_411 (fun t4506 et4506 => ?_)
    have hF := hF t4506 et4506
    refine z_aload_n 1 dX12_calls_412 rfl rfl ?_
    refine z_getr fr_RX12_175 dX12_calls_413 ?_
    refine z_iload_n 2 dX12_calls_416 rfl rfl ?_
    obtain ⟨hi4508, hF⟩ := zrd_at hF
    refine z_iald (n := 2600) rfl hi4508 dX12_calls_417 ?_
    generalize t4506 51 (Int32.toNatClampNeg x1) = v4507 at hF ⊢
    refine z_istore (lv' := [(12, .int v4507), (11, .int x1), (0, .ref (za E 0)), (1, .int x1), (2, .int x2), (3, .int x3), (5, .int x5), (6, .int x6), (8, .int x8), (9, .int x9), (10, .int x10)]) dX12_calls_418 (by decide) rfl ?_
    refine z_aload_n 2 dX12_calls_420 rfl rfl ?_
    refine z_getr fr_RX12_175 dX12_calls_421 ?_
    refine z_iload_n 3 dX12_calls_424 rfl rfl ?_
    refine z_iconst (v := (-1)) dX12_calls_425 (by decide) ?_
    obtain ⟨hi4509, hF⟩ := zwr_at hF
    refine z_iast (n := 2600) rfl hi4509 dX12_calls_426 (fun t4510 et4510 => ?_)
    have hF := hF t4510 et4510
    refine z_aload_n 2 dX12_calls_427 rfl rfl ?_
    refine z_getr fr_RX12_175 dX12_calls_428 ?_
    refine z_iload_n 3 dX12_calls_431 rfl rfl ?_
    refine z_aload_n 2 dX12_calls_432 rfl rfl ?_
    refine z_iload_n 5 dX12_calls_433 rfl rfl ?_
    obtain ⟨r4511, t4512, hc4513, hF⟩ := zbd_at hF
    refine z_callVi (ctX12_rooms (E := E) (f := f - 1) (by omega) hc4513) yy_X12_rooms yv_X12_rooms ob_M_0 lk_RX12_545 (by omega) rfl rfl (Nat.le_of_ble_eq_true rfl) dX12_calls_434 ?_
    obtain ⟨hi4514, hF⟩ := zwr_at hF
    refine z_iast (n := 2600) rfl hi4514 dX12_calls_437 (fun t4515 et4515 => ?_)
    have hF := hF t4515 et4515
    refine z_goto (tgt := 448) dX12_calls_438 (by decide) ?_
    refine z_sub [2, 3, 4, 7, 8, 9, 1] rfl ?_
    exact wbX12_calls_448 hf  x1 x2 x6 x8 x9 x1 _ hF
set_option maxHeartbeats 4000000 in
set_option maxRecDepth 20000 in
theorem wbX12_calls_303 {E : zE} {C : zC} {f : Nat} {ro : Int32 × zS} (hf : 5 ≤ f) (k303 : Int32 → Int32 → Int32 → Int32 → Int32 → Int32 → Int32 → Int32 → Int32 → zS → zR) (hk303 : ∀ (x1 x2 x3 x5 x6 x8 x9 x10 x11 : Int32) (t : zS), k303 x1 x2 x3 x5 x6 x8 x9 x10 x11 t = some ro → zJ E shM C cX12_calls RX12 13 f (some .boolean) ro t 303 [(0, .ref (za E 0)), (1, .int x1), (2, .int x2), (3, .int x3), (5, .int x5), (6, .int x6), (8, .int x8), (9, .int x9), (10, .int x10), (11, .int x11)] []) (x1 : Int32) (x2 : Int32) (x3 : Int32) (x5 : Int32) (x6 : Int32) (x8 : Int32) (x9 : Int32) (x10 : Int32) (x11 : Int32) (t : zS) (hF : bX12_calls_303 k303 x1 x2 x3 x5 x6 x8 x9 x10 x11 t = some ro) : zJ E shM C cX12_calls RX12 13 f (some .boolean) ro t 303 [(0, .ref (za E 0)), (1, .int x1), (2, .int x2), (3, .int x3), (5, .int x5), (6, .int x6), (8, .int x8), (9, .int x9), (10, .int x10), (11, .int x11)] [] := by
  unfold bX12_calls_303 at hF
  refine z_iload 9 dX12_calls_303 rfl ?_
  refine z_aload_n 0 dX12_calls_305 rfl rfl ?_
  refine z_getr fr_RX12_67 dX12_calls_306 ?_
  refine z_iload_n 2 dX12_calls_309 rfl rfl ?_
  obtain ⟨hi4517, hF⟩ := zrd_at hF
  refine z_iald (n := 1600) rfl hi4517 dX12_calls_310 ?_
  generalize t 20 (Int32.toNatClampNeg x2) = v4516 at hF ⊢
  refine z_icmp_ge (tgt := 362) dX12_calls_311 (by decide) (fun hc => ?_) (fun hc => ?_)
  · have hF := zif_t hc hF
    refine z_sub [0, 1, 2, 3, 4, 5, 6, 7, 8] rfl ?_
    exact wbX12_calls_362 hf  x1 x2 x3 x5 x6 x8 x9 x10 _ hF
  · have hF := zif_f hc hF
    refine z_iload 4 dX12_calls_314 rfl ?_
    refine z_if_ne (tgt := 362) dX12_calls_316 (by decide) (fun hc => ?_) (fun hc => ?_)
    · have hF := zif_f hc hF
      refine z_sub [0, 1, 2, 3, 4, 5, 6, 7, 8] rfl ?_
      exact wbX12_calls_362 hf  x1 x2 x3 x5 x6 x8 x9 x10 _ hF
    · have hF := zif_t hc hF
      refine z_aload_n 0 dX12_calls_319 rfl rfl ?_
      refine z_getr fr_RX12_202 dX12_calls_320 ?_
      refine z_iload 9 dX12_calls_323 rfl ?_
      obtain ⟨hi4519, hF⟩ := zrd_at hF
      refine z_iald (n := 1600) rfl hi4519 dX12_calls_325 ?_
      generalize t 60 (Int32.toNatClampNeg x11) = v4518 at hF ⊢
      refine z_if_lt (tgt := 356) dX12_calls_326 (by decide) (fun hc => ?_) (fun hc => ?_)
      · have hF := zif_t hc hF
        exact wbX12_calls_356 hf k303 hk303 x1 x2 x3 x5 x6 x8 x9 x10 x11 _ hF
      · have hF := zif_f hc hF
        refine z_aload_n 0 dX12_calls_329 rfl rfl ?_
        refine z_getr fr_RX12_181 dX12_calls_330 ?_
        refine z_aload_n 0 dX12_calls_333 rfl rfl ?_
        refine z_getr fr_RX12_175 dX12_calls_334 ?_
        refine z_iload_n 1 dX12_calls_337 rfl rfl ?_
        obtain ⟨hi4521, hF⟩ := zrd_at hF
        refine z_iald (n := 2600) rfl hi4521 dX12_calls_338 ?_
        generalize t 51 (Int32.toNatClampNeg x1) = v4520 at hF ⊢
        refine z_aload_n 0 dX12_calls_339 rfl rfl ?_
        refine z_getr fr_RX12_85 dX12_calls_340 ?_
        refine z_aload_n 0 dX12_calls_343 rfl rfl ?_
        refine z_getr fr_RX12_64 dX12_calls_344 ?_
        refine z_iload_n 2 dX12_calls_347 rfl rfl ?_
        obtain ⟨hi4523, hF⟩ := zrd_at hF
        refine z_iald (n := 1600) rfl hi4523 dX12_calls_348 ?_
        generalize t 19 (Int32.toNatClampNeg x2) = v4522 at hF ⊢
        refine z_iload 9 dX12_calls_349 rfl ?_
        refine z_iadd dX12_calls_351 ?_
        obtain ⟨hi4525, hF⟩ := zrd_at hF
        refine z_iald (n := 1600) rfl hi4525 dX12_calls_352 ?_
        generalize t 26 (Int32.toNatClampNeg (v4522 + x11)) = v4524 at hF ⊢
        refine z_iadd dX12_calls_353 ?_
        refine z_iconst (v := (-1)) dX12_calls_354 (by decide) ?_
        obtain ⟨hi4526, hF⟩ := zwr_at hF
        refine z_iast (n := 24000) rfl hi4526 dX12_calls_355 (fun t4527 et4527 => ?_)
        have hF := hF t4527 et4527
        exact wbX12_calls_356 hf k303 hk303 x1 x2 x3 x5 x6 x8 x9 x10 x11 _ hF
set_option maxHeartbeats 4000000 in
set_option maxRecDepth 20000 in
theorem wlX12_calls_303 {E : zE} {C : zC} {f : Nat} {ro : Int32 × zS} (hf : 5 ≤ f) (fu : Nat) : ∀ (x1 x2 x3 x5 x6 x8 x9 x10 x11 : Int32) (t : zS), lX12_calls_303  fu x1 x2 x3 x5 x6 x8 x9 x10 x11 t = some ro → zJ E shM C cX12_calls RX12 13 f (some .boolean) ro t 303 [(0, .ref (za E 0)), (1, .int x1), (2, .int x2), (3, .int x3), (5, .int x5), (6, .int x6), (8, .int x8), (9, .int x9), (10, .int x10), (11, .int x11)] [] := by
  induction fu with
  | zero => intro x1 x2 x3 x5 x6 x8 x9 x10 x11 t hF; cases hF
  | succ fu ih => intro x1 x2 x3 x5 x6 x8 x9 x10 x11 t hF; exact wbX12_calls_303 hf (lX12_calls_303  fu) ih x1 x2 x3 x5 x6 x8 x9 x10 x11 t hF
set_option maxHeartbeats 4000000 in
set_option maxRecDepth 20000 in
theorem wbX12_calls_277 {E : zE} {C : zC} {f : Nat} {ro : Int32 × zS} (hf : 5 ≤ f) (x1 : Int32) (x2 : Int32) (x3 : Int32) (x5 : Int32) (x6 : Int32) (x8 : Int32) (x9 : Int32) (y0 : Int32) (y1 : Int32) (t : zS) (hF : bX12_calls_277  x1 x2 x3 x5 x6 x8 x9 y0 y1 t = some ro) : zJ E shM C cX12_calls RX12 13 f (some .boolean) ro t 277 [(0, .ref (za E 0)), (1, .int x1), (2, .int x2), (3, .int x3), (5, .int x5), (6, .int x6), (8, .int x8), (9, .int x9)] [.int y0, .int y1] := by
  unfold bX12_calls_277 at hF
  refine z_iadd dX12_calls_277 ?_
  refine z_topi (fun v4528 ev4528 => ?_)
  have hF := zlet_at ev4528 hF
  refine z_istore (lv' := [(10, .int v4528), (0, .ref (za E 0)), (1, .int x1), (2, .int x2), (3, .int x3), (5, .int x5), (6, .int x6), (8, .int x8), (9, .int x9)]) dX12_calls_278 (by decide) rfl ?_
  refine z_aload_n 1 dX12_calls_280 rfl rfl ?_
  refine z_geti fi_RX12_551 dX12_calls_281 ?_
  refine z_iload 0 dX12_calls_284 rfl ?_
  refine z_iadd dX12_calls_286 ?_
  refine z_aload_n 1 dX12_calls_287 rfl rfl ?_
  refine z_geti fi_RX12_145 dX12_calls_288 ?_
  refine z_icmp_le (tgt := 300) dX12_calls_291 (by decide) (fun hc => ?_) (fun hc => ?_)
  · have hF := zif_t hc hF
    refine z_iconst (v := 0) dX12_calls_300 (by decide) ?_
    refine z_istore (lv' := [(11, .int 0), (10, .int v4528), (0, .ref (za E 0)), (1, .int x1), (2, .int x2), (3, .int x3), (5, .int x5), (6, .int x6), (8, .int x8), (9, .int x9)]) dX12_calls_301 (by decide) rfl ?_
    refine z_sub [2, 3, 4, 5, 6, 7, 8, 9, 1, 0] rfl ?_
    exact wlX12_calls_303 hf  zFU x1 x2 x3 x5 x6 x8 x9 v4528 0 _ hF
  · have hF := zif_f hc hF
    refine z_aload_n 1 dX12_calls_294 rfl rfl ?_
    refine z_iconst (v := 4) dX12_calls_295 (by decide) ?_
    obtain ⟨r4529, t4530, hc4531, hF⟩ := zbd_at hF
    refine z_callVi (ctX12_ends (E := E) (f := f - 1) (by omega) hc4531) yy_X12_ends yv_X12_ends ob_M_0 lk_RX12_581 (by omega) rfl rfl (Nat.le_of_ble_eq_true rfl) dX12_calls_296 ?_
    obtain ⟨hz4532, hF⟩ := z01_at hF
    exact z_zret hF hz4532 dX12_calls_299
set_option maxHeartbeats 4000000 in
set_option maxRecDepth 20000 in
theorem wbX12_calls_263 {E : zE} {C : zC} {f : Nat} {ro : Int32 × zS} (hf : 5 ≤ f) (x1 : Int32) (x2 : Int32) (x3 : Int32) (x5 : Int32) (x6 : Int32) (x8 : Int32) (x9 : Int32) (y0 : Int32) (y1 : Int32) (t : zS) (hF : bX12_calls_263  x1 x2 x3 x5 x6 x8 x9 y0 y1 t = some ro) : zJ E shM C cX12_calls RX12 13 f (some .boolean) ro t 263 [(0, .ref (za E 0)), (1, .int x1), (2, .int x2), (3, .int x3), (5, .int x5), (6, .int x6), (8, .int x8), (9, .int x9)] [.int y0, .int y1] := by
  unfold bX12_calls_263 at hF
  refine z_isub dX12_calls_263 ?_
  refine z_iload 7 dX12_calls_264 rfl ?_
  refine z_if_eq (tgt := 276) dX12_calls_266 (by decide) (fun hc => ?_) (fun hc => ?_)
  · have hF := zif_t hc hF
    refine z_iconst (v := 0) dX12_calls_276 (by decide) ?_
    exact wbX12_calls_277 hf  x1 x2 x3 x5 x6 x8 x9 0 (y1 - y0) _ hF
  · have hF := zif_f hc hF
    refine z_aload_n 0 dX12_calls_269 rfl rfl ?_
    obtain ⟨r4533, t4534, hc4535, hF⟩ := zbd_at hF
    refine z_callVi (ctX12_channelCells (E := E) (f := f - 1) (by omega) hc4535) yy_X12_channelCells yv_X12_channelCells ob_M_0 lk_RX12_566 (by omega) rfl rfl (Nat.le_of_ble_eq_true rfl) dX12_calls_270 ?_
    refine z_goto (tgt := 277) dX12_calls_273 (by decide) ?_
    exact wbX12_calls_277 hf  x1 x2 x3 x5 x6 x8 x9 r4533 (y1 - y0) _ hF
set_option maxHeartbeats 4000000 in
set_option maxRecDepth 20000 in
theorem wbX12_calls_237 {E : zE} {C : zC} {f : Nat} {ro : Int32 × zS} (hf : 5 ≤ f) (x1 : Int32) (x2 : Int32) (x3 : Int32) (x5 : Int32) (x6 : Int32) (x8 : Int32) (y0 : Int32) (t : zS) (hF : bX12_calls_237  x1 x2 x3 x5 x6 x8 y0 t = some ro) : zJ E shM C cX12_calls RX12 13 f (some .boolean) ro t 237 [(0, .ref (za E 0)), (1, .int x1), (2, .int x2), (3, .int x3), (5, .int x5), (6, .int x6), (8, .int x8)] [.int y0] := by
  unfold bX12_calls_237 at hF
  refine z_istore (lv' := [(9, .int y0), (0, .ref (za E 0)), (1, .int x1), (2, .int x2), (3, .int x3), (5, .int x5), (6, .int x6), (8, .int x8)]) dX12_calls_237 (by decide) rfl ?_
  refine z_aload_n 1 dX12_calls_239 rfl rfl ?_
  refine z_iload_n 4 dX12_calls_240 rfl rfl ?_
  obtain ⟨r4536, t4537, hc4538, hF⟩ := zbd_at hF
  refine z_callVi (ctX12_processCells (E := E) (f := f - 1) (by omega) hc4538) yy_X12_processCells yv_X12_processCells ob_M_0 lk_RX12_554 (by omega) rfl rfl (Nat.le_of_ble_eq_true rfl) dX12_calls_241 ?_
  refine z_iload 5 dX12_calls_244 rfl ?_
  refine z_if_eq (tgt := 262) dX12_calls_246 (by decide) (fun hc => ?_) (fun hc => ?_)
  · have hF := zif_t hc hF
    refine z_iconst (v := 0) dX12_calls_262 (by decide) ?_
    refine z_sub [1, 2, 3, 4, 5, 6, 7, 0] rfl ?_
    exact wbX12_calls_263 hf  x1 x2 x3 x5 x6 x8 y0 0 r4536 _ hF
  · have hF := zif_f hc hF
    refine z_aload_n 1 dX12_calls_249 rfl rfl ?_
    refine z_aload_n 1 dX12_calls_250 rfl rfl ?_
    refine z_getr fr_RX12_166 dX12_calls_251 ?_
    refine z_iload_n 2 dX12_calls_254 rfl rfl ?_
    obtain ⟨hi4540, hF⟩ := zrd_at hF
    refine z_iald (n := 2600) rfl hi4540 dX12_calls_255 ?_
    generalize t4537 48 (Int32.toNatClampNeg x1) = v4539 at hF ⊢
    obtain ⟨r4541, t4542, hc4543, hF⟩ := zbd_at hF
    refine z_callVi (ctX12_processCells (E := E) (f := f - 1) (by omega) hc4543) yy_X12_processCells yv_X12_processCells ob_M_0 lk_RX12_554 (by omega) rfl rfl (Nat.le_of_ble_eq_true rfl) dX12_calls_256 ?_
    refine z_goto (tgt := 263) dX12_calls_259 (by decide) ?_
    refine z_sub [1, 2, 3, 4, 5, 6, 7, 0] rfl ?_
    exact wbX12_calls_263 hf  x1 x2 x3 x5 x6 x8 y0 r4541 r4536 _ hF
set_option maxHeartbeats 4000000 in
set_option maxRecDepth 20000 in
theorem wbX12_calls_236 {E : zE} {C : zC} {f : Nat} {ro : Int32 × zS} (hf : 5 ≤ f) (x1 : Int32) (x2 : Int32) (x3 : Int32) (x5 : Int32) (x6 : Int32) (x8 : Int32) (t : zS) (hF : bX12_calls_236  x1 x2 x3 x5 x6 x8 t = some ro) : zJ E shM C cX12_calls RX12 13 f (some .boolean) ro t 236 [(0, .ref (za E 0)), (1, .int x1), (2, .int x2), (3, .int x3), (5, .int x5), (6, .int x6), (8, .int x8)] [] := by
  unfold bX12_calls_236 at hF
  refine z_iconst (v := 0) dX12_calls_236 (by decide) ?_
  exact wbX12_calls_237 hf  x1 x2 x3 x5 x6 x8 0 _ hF
set_option maxHeartbeats 4000000 in
set_option maxRecDepth 20000 in
theorem wbX12_calls_216 {E : zE} {C : zC} {f : Nat} {ro : Int32 × zS} (hf : 5 ≤ f) (x1 : Int32) (x2 : Int32) (x3 : Int32) (x4 : Int32) (x5 : Int32) (x6 : Int32) (y0 : Int32) (t : zS) (hF : bX12_calls_216  x1 x2 x3 x4 x5 x6 y0 t = some ro) : zJ E shM C cX12_calls RX12 13 f (some .boolean) ro t 216 [(0, .ref (za E 0)), (1, .int x1), (2, .int x2), (3, .int x3), (4, .int x4), (5, .int x5), (6, .int x6)] [.int y0] := by
  unfold bX12_calls_216 at hF
  refine z_istore (lv' := [(8, .int y0), (0, .ref (za E 0)), (1, .int x1), (2, .int x2), (3, .int x3), (4, .int x4), (5, .int x5), (6, .int x6)]) dX12_calls_216 (by decide) rfl ?_
  refine z_iload 5 dX12_calls_218 rfl ?_
  refine z_if_eq (tgt := 236) dX12_calls_220 (by decide) (fun hc => ?_) (fun hc => ?_)
  · have hF := zif_t hc hF
    refine z_sub [1, 2, 3, 4, 6, 7, 0] rfl ?_
    exact wbX12_calls_236 hf  x1 x2 x3 x5 x6 y0 _ hF
  · have hF := zif_f hc hF
    refine z_aload_n 1 dX12_calls_223 rfl rfl ?_
    refine z_iload 0 dX12_calls_224 rfl ?_
    obtain ⟨r4544, t4545, hc4546, hF⟩ := zbd_at hF
    refine z_callVi (ctX12_isOf (E := E) (f := f - 1) (by omega) hc4546) yy_X12_isOf yv_X12_isOf ob_M_0 lk_RX12_445 (by omega) rfl rfl (Nat.le_of_ble_eq_true rfl) dX12_calls_226 ?_
    refine z_if_eq (tgt := 236) dX12_calls_229 (by decide) (fun hc => ?_) (fun hc => ?_)
    · have hF := zif_t hc hF
      refine z_sub [1, 2, 3, 4, 6, 7, 0] rfl ?_
      exact wbX12_calls_236 hf  x1 x2 x3 x5 x6 y0 _ hF
    · have hF := zif_f hc hF
      refine z_iconst (v := 1) dX12_calls_232 (by decide) ?_
      refine z_goto (tgt := 237) dX12_calls_233 (by decide) ?_
      refine z_sub [1, 2, 3, 4, 6, 7, 0] rfl ?_
      exact wbX12_calls_237 hf  x1 x2 x3 x5 x6 y0 1 _ hF
set_option maxHeartbeats 4000000 in
set_option maxRecDepth 20000 in
theorem wbX12_calls_73 {E : zE} {C : zC} {f : Nat} {ro : Int32 × zS} (hf : 5 ≤ f) (k73 : Int32 → Int32 → Int32 → Int32 → Int32 → Int32 → Int32 → Int32 → zS → zR) (hk73 : ∀ (x1 x2 x3 x4 x5 x6 x7 x8 : Int32) (t : zS), k73 x1 x2 x3 x4 x5 x6 x7 x8 t = some ro → zJ E shM C cX12_calls RX12 13 f (some .boolean) ro t 73 [(0, .ref (za E 0)), (1, .int x1), (2, .int x2), (3, .int x3), (4, .int x4), (5, .int x5), (6, .int x6), (7, .int x7), (8, .int x8)] []) (x1 : Int32) (x2 : Int32) (x3 : Int32) (x4 : Int32) (x5 : Int32) (x6 : Int32) (x7 : Int32) (x8 : Int32) (t : zS) (hF : bX12_calls_73 k73 x1 x2 x3 x4 x5 x6 x7 x8 t = some ro) : zJ E shM C cX12_calls RX12 13 f (some .boolean) ro t 73 [(0, .ref (za E 0)), (1, .int x1), (2, .int x2), (3, .int x3), (4, .int x4), (5, .int x5), (6, .int x6), (7, .int x7), (8, .int x8)] [] := by
  unfold bX12_calls_73 at hF
  refine z_iload 8 dX12_calls_73 rfl ?_
  refine z_aload_n 0 dX12_calls_75 rfl rfl ?_
  refine z_getr fr_RX12_67 dX12_calls_76 ?_
  refine z_iload_n 2 dX12_calls_79 rfl rfl ?_
  obtain ⟨hi4548, hF⟩ := zrd_at hF
  refine z_iald (n := 1600) rfl hi4548 dX12_calls_80 ?_
  generalize t 20 (Int32.toNatClampNeg x2) = v4547 at hF ⊢
  refine z_icmp_ge (tgt := 194) dX12_calls_81 (by decide) (fun hc => ?_) (fun hc => ?_)
  · have hF := zif_t hc hF
    refine z_iload 4 dX12_calls_194 rfl ?_
    refine z_if_eq (tgt := 215) dX12_calls_196 (by decide) (fun hc => ?_) (fun hc => ?_)
    · have hF := zif_t hc hF
      refine z_iconst (v := (-1)) dX12_calls_215 (by decide) ?_
      refine z_sub [0, 1, 2, 3, 4, 5, 6] rfl ?_
      exact wbX12_calls_216 hf  x1 x2 x3 x4 x5 x6 (-1) _ hF
    · have hF := zif_f hc hF
      refine z_aload_n 0 dX12_calls_199 rfl rfl ?_
      refine z_iconst (v := 2) dX12_calls_200 (by decide) ?_
      refine z_aload_n 0 dX12_calls_201 rfl rfl ?_
      refine z_getr fr_RX12_109 dX12_calls_202 ?_
      refine z_iload 7 dX12_calls_205 rfl ?_
      obtain ⟨hi4550, hF⟩ := zrd_at hF
      refine z_iald (n := 3000) rfl hi4550 dX12_calls_207 ?_
      generalize t 34 (Int32.toNatClampNeg x7) = v4549 at hF ⊢
      refine z_imul dX12_calls_208 ?_
      obtain ⟨r4551, t4552, hc4553, hF⟩ := zbd_at hF
      refine z_callVi (ctX12_plain (E := E) (f := f - 1) (by omega) hc4553) yy_X12_plain yv_X12_plain ob_M_0 lk_RX12_432 (by omega) rfl rfl (Nat.le_of_ble_eq_true rfl) dX12_calls_209 ?_
      refine z_goto (tgt := 216) dX12_calls_212 (by decide) ?_
      refine z_sub [0, 1, 2, 3, 4, 5, 6] rfl ?_
      exact wbX12_calls_216 hf  x1 x2 x3 x4 x5 x6 r4551 _ hF
  · have hF := zif_f hc hF
    refine z_aload_n 0 dX12_calls_84 rfl rfl ?_
    refine z_getr fr_RX12_64 dX12_calls_85 ?_
    refine z_iload_n 2 dX12_calls_88 rfl rfl ?_
    obtain ⟨hi4555, hF⟩ := zrd_at hF
    refine z_iald (n := 1600) rfl hi4555 dX12_calls_89 ?_
    generalize t 19 (Int32.toNatClampNeg x2) = v4554 at hF ⊢
    refine z_iload 8 dX12_calls_90 rfl ?_
    refine z_iadd dX12_calls_92 ?_
    refine z_topi (fun v4556 ev4556 => ?_)
    have hF := zlet_at ev4556 hF
    refine z_istore (lv' := [(9, .int v4556), (0, .ref (za E 0)), (1, .int x1), (2, .int x2), (3, .int x3), (4, .int x4), (5, .int x5), (6, .int x6), (7, .int x7), (8, .int x8)]) dX12_calls_93 (by decide) rfl ?_
    refine z_aload_n 1 dX12_calls_95 rfl rfl ?_
    refine z_getr fr_RX12_202 dX12_calls_96 ?_
    refine z_iload 9 dX12_calls_99 rfl ?_
    refine z_iconst (v := (-1)) dX12_calls_101 (by decide) ?_
    obtain ⟨hi4557, hF⟩ := zwr_at hF
    refine z_iast (n := 1600) rfl hi4557 dX12_calls_102 (fun t4558 et4558 => ?_)
    have hF := hF t4558 et4558
    refine z_aload_n 1 dX12_calls_103 rfl rfl ?_
    refine z_getr fr_RX12_199 dX12_calls_104 ?_
    refine z_iload 9 dX12_calls_107 rfl ?_
    refine z_iconst (v := 0) dX12_calls_109 (by decide) ?_
    obtain ⟨hi4559, hF⟩ := zwr_at hF
    refine z_iast (n := 1600) rfl hi4559 dX12_calls_110 (fun t4560 et4560 => ?_)
    have hF := hF t4560 et4560
    refine z_aload_n 1 dX12_calls_111 rfl rfl ?_
    refine z_getr fr_RX12_109 dX12_calls_112 ?_
    refine z_iload 8 dX12_calls_115 rfl ?_
    refine z_iload 7 dX12_calls_117 rfl ?_
    refine z_iadd dX12_calls_119 ?_
    refine z_iload 9 dX12_calls_120 rfl ?_
    refine z_iadd dX12_calls_122 ?_
    obtain ⟨hi4562, hF⟩ := zrd_at hF
    refine z_iald (n := 3000) rfl hi4562 dX12_calls_123 ?_
    generalize t4560 34 (Int32.toNatClampNeg ((x7 + x6) + x8)) = v4561 at hF ⊢
    refine z_if_lt (tgt := 156) dX12_calls_124 (by decide) (fun hc => ?_) (fun hc => ?_)
    · have hF := zif_t hc hF
      refine z_aload_n 1 dX12_calls_156 rfl rfl ?_
      refine z_getr fr_RX12_199 dX12_calls_157 ?_
      refine z_iload 9 dX12_calls_160 rfl ?_
      refine z_aload_n 1 dX12_calls_162 rfl rfl ?_
      refine z_iload_n 2 dX12_calls_163 rfl rfl ?_
      refine z_aload_n 1 dX12_calls_164 rfl rfl ?_
      refine z_getr fr_RX12_82 dX12_calls_165 ?_
      refine z_iload 0 dX12_calls_168 rfl ?_
      obtain ⟨hi4564, hF⟩ := zrd_at hF
      refine z_iald (n := 1600) rfl hi4564 dX12_calls_170 ?_
      generalize t4560 25 (Int32.toNatClampNeg v4556) = v4563 at hF ⊢
      obtain ⟨r4565, t4566, hc4567, hF⟩ := zbd_at hF
      refine z_callVi (ctX12_worth (E := E) (f := f - 1) (by omega) hc4567) yy_X12_worth yv_X12_worth ob_M_0 lk_RX12_578 (by omega) rfl rfl (Nat.le_of_ble_eq_true rfl) dX12_calls_171 ?_
      obtain ⟨hi4568, hF⟩ := zwr_at hF
      refine z_iast (n := 1600) rfl hi4568 dX12_calls_174 (fun t4569 et4569 => ?_)
      have hF := hF t4569 et4569
      refine z_aload_n 1 dX12_calls_175 rfl rfl ?_
      refine z_geti fi_RX12_569 dX12_calls_176 ?_
      refine z_if_eq (tgt := 188) dX12_calls_179 (by decide) (fun hc => ?_) (fun hc => ?_)
      · have hF := zif_t hc hF
        refine z_sub [1, 2, 3, 4, 5, 6, 7, 8, 9] rfl ?_
        exact wbX12_calls_188 hf k73 hk73 x1 x2 x3 x4 x5 x6 x7 x8 _ hF
      · have hF := zif_f hc hF
        refine z_aload_n 1 dX12_calls_182 rfl rfl ?_
        refine z_iconst (v := 3) dX12_calls_183 (by decide) ?_
        obtain ⟨r4570, t4571, hc4572, hF⟩ := zbd_at hF
        refine z_callVi (ctX12_ends (E := E) (f := f - 1) (by omega) hc4572) yy_X12_ends yv_X12_ends ob_M_0 lk_RX12_581 (by omega) rfl rfl (Nat.le_of_ble_eq_true rfl) dX12_calls_184 ?_
        obtain ⟨hz4573, hF⟩ := z01_at hF
        exact z_zret hF hz4573 dX12_calls_187
    · have hF := zif_f hc hF
      refine z_aload_n 1 dX12_calls_127 rfl rfl ?_
      refine z_getr fr_RX12_202 dX12_calls_128 ?_
      refine z_iload 9 dX12_calls_131 rfl ?_
      refine z_aload_n 1 dX12_calls_133 rfl rfl ?_
      refine z_getr fr_RX12_181 dX12_calls_134 ?_
      refine z_aload_n 1 dX12_calls_137 rfl rfl ?_
      refine z_getr fr_RX12_175 dX12_calls_138 ?_
      refine z_iload_n 2 dX12_calls_141 rfl rfl ?_
      obtain ⟨hi4575, hF⟩ := zrd_at hF
      refine z_iald (n := 2600) rfl hi4575 dX12_calls_142 ?_
      generalize t4560 51 (Int32.toNatClampNeg x1) = v4574 at hF ⊢
      refine z_aload_n 1 dX12_calls_143 rfl rfl ?_
      refine z_getr fr_RX12_85 dX12_calls_144 ?_
      refine z_iload 0 dX12_calls_147 rfl ?_
      obtain ⟨hi4577, hF⟩ := zrd_at hF
      refine z_iald (n := 1600) rfl hi4577 dX12_calls_149 ?_
      generalize t4560 26 (Int32.toNatClampNeg v4556) = v4576 at hF ⊢
      refine z_iadd dX12_calls_150 ?_
      obtain ⟨hi4579, hF⟩ := zrd_at hF
      refine z_iald (n := 24000) rfl hi4579 dX12_calls_151 ?_
      generalize t4560 53 (Int32.toNatClampNeg (v4574 + v4576)) = v4578 at hF ⊢
      obtain ⟨hi4580, hF⟩ := zwr_at hF
      refine z_iast (n := 1600) rfl hi4580 dX12_calls_152 (fun t4581 et4581 => ?_)
      have hF := hF t4581 et4581
      refine z_goto (tgt := 188) dX12_calls_153 (by decide) ?_
      refine z_sub [1, 2, 3, 4, 5, 6, 7, 8, 9] rfl ?_
      exact wbX12_calls_188 hf k73 hk73 x1 x2 x3 x4 x5 x6 x7 x8 _ hF
set_option maxHeartbeats 4000000 in
set_option maxRecDepth 20000 in
theorem wlX12_calls_73 {E : zE} {C : zC} {f : Nat} {ro : Int32 × zS} (hf : 5 ≤ f) (fu : Nat) : ∀ (x1 x2 x3 x4 x5 x6 x7 x8 : Int32) (t : zS), lX12_calls_73  fu x1 x2 x3 x4 x5 x6 x7 x8 t = some ro → zJ E shM C cX12_calls RX12 13 f (some .boolean) ro t 73 [(0, .ref (za E 0)), (1, .int x1), (2, .int x2), (3, .int x3), (4, .int x4), (5, .int x5), (6, .int x6), (7, .int x7), (8, .int x8)] [] := by
  induction fu with
  | zero => intro x1 x2 x3 x4 x5 x6 x7 x8 t hF; cases hF
  | succ fu ih => intro x1 x2 x3 x4 x5 x6 x7 x8 t hF; exact wbX12_calls_73 hf (lX12_calls_73  fu) ih x1 x2 x3 x4 x5 x6 x7 x8 t hF
set_option maxHeartbeats 4000000 in
set_option maxRecDepth 20000 in
theorem wbX12_calls_53 {E : zE} {C : zC} {f : Nat} {ro : Int32 × zS} (hf : 5 ≤ f) (x1 : Int32) (x2 : Int32) (x3 : Int32) (x4 : Int32) (x5 : Int32) (y0 : Int32) (t : zS) (hF : bX12_calls_53  x1 x2 x3 x4 x5 y0 t = some ro) : zJ E shM C cX12_calls RX12 13 f (some .boolean) ro t 53 [(0, .ref (za E 0)), (1, .int x1), (2, .int x2), (3, .int x3), (4, .int x4), (5, .int x5)] [.int y0] := by
  unfold bX12_calls_53 at hF
  refine z_istore (lv' := [(6, .int y0), (0, .ref (za E 0)), (1, .int x1), (2, .int x2), (3, .int x3), (4, .int x4), (5, .int x5)]) dX12_calls_53 (by decide) rfl ?_
  refine z_aload_n 1 dX12_calls_55 rfl rfl ?_
  refine z_getr fr_RX12_100 dX12_calls_56 ?_
  refine z_iload_n 4 dX12_calls_59 rfl rfl ?_
  obtain ⟨hi4583, hF⟩ := zrd_at hF
  refine z_iald (n := 301) rfl hi4583 dX12_calls_60 ?_
  generalize t 31 (Int32.toNatClampNeg x3) = v4582 at hF ⊢
  refine z_istore (lv' := [(7, .int v4582), (6, .int y0), (0, .ref (za E 0)), (1, .int x1), (2, .int x2), (3, .int x3), (4, .int x4), (5, .int x5)]) dX12_calls_61 (by decide) rfl ?_
  refine z_aload_n 2 dX12_calls_63 rfl rfl ?_
  refine z_getr fr_RX12_169 dX12_calls_64 ?_
  refine z_iload_n 3 dX12_calls_67 rfl rfl ?_
  refine z_iload_n 4 dX12_calls_68 rfl rfl ?_
  obtain ⟨hi4584, hF⟩ := zwr_at hF
  refine z_iast (n := 2600) rfl hi4584 dX12_calls_69 (fun t4585 et4585 => ?_)
  have hF := hF t4585 et4585
  refine z_iconst (v := 0) dX12_calls_70 (by decide) ?_
  refine z_istore (lv' := [(8, .int 0), (7, .int v4582), (6, .int y0), (0, .ref (za E 0)), (1, .int x1), (2, .int x2), (3, .int x3), (4, .int x4), (5, .int x5)]) dX12_calls_71 (by decide) rfl ?_
  refine z_sub [3, 4, 5, 6, 7, 8, 2, 1, 0] rfl ?_
  exact wlX12_calls_73 hf  zFU x1 x2 x3 x4 x5 y0 v4582 0 _ hF
set_option maxHeartbeats 4000000 in
set_option maxRecDepth 20000 in
theorem wbX12_calls_41 {E : zE} {C : zC} {f : Nat} {ro : Int32 × zS} (hf : 5 ≤ f) (x1 : Int32) (x2 : Int32) (x3 : Int32) (x4 : Int32) (y0 : Int32) (t : zS) (hF : bX12_calls_41  x1 x2 x3 x4 y0 t = some ro) : zJ E shM C cX12_calls RX12 13 f (some .boolean) ro t 41 [(0, .ref (za E 0)), (1, .int x1), (2, .int x2), (3, .int x3), (4, .int x4)] [.int y0] := by
  unfold bX12_calls_41 at hF
  refine z_istore (lv' := [(5, .int y0), (0, .ref (za E 0)), (1, .int x1), (2, .int x2), (3, .int x3), (4, .int x4)]) dX12_calls_41 (by decide) rfl ?_
  refine z_iload 5 dX12_calls_43 rfl ?_
  refine z_if_eq (tgt := 52) dX12_calls_45 (by decide) (fun hc => ?_) (fun hc => ?_)
  · have hF := zif_t hc hF
    refine z_iconst (v := 0) dX12_calls_52 (by decide) ?_
    refine z_sub [1, 2, 3, 4, 5, 0] rfl ?_
    exact wbX12_calls_53 hf  x1 x2 x3 x4 y0 0 _ hF
  · have hF := zif_f hc hF
    refine z_iconst (v := 1) dX12_calls_48 (by decide) ?_
    refine z_goto (tgt := 53) dX12_calls_49 (by decide) ?_
    refine z_sub [1, 2, 3, 4, 5, 0] rfl ?_
    exact wbX12_calls_53 hf  x1 x2 x3 x4 y0 1 _ hF
set_option maxHeartbeats 4000000 in
set_option maxRecDepth 20000 in
theorem wbX12_calls_23 {E : zE} {C : zC} {f : Nat} {ro : Int32 × zS} (hf : 5 ≤ f) (x1 : Int32) (x2 : Int32) (x3 : Int32) (y0 : Int32) (t : zS) (hF : bX12_calls_23  x1 x2 x3 y0 t = some ro) : zJ E shM C cX12_calls RX12 13 f (some .boolean) ro t 23 [(0, .ref (za E 0)), (1, .int x1), (2, .int x2), (3, .int x3)] [.int y0] := by
  unfold bX12_calls_23 at hF
  refine z_istore (lv' := [(4, .int y0), (0, .ref (za E 0)), (1, .int x1), (2, .int x2), (3, .int x3)]) dX12_calls_23 (by decide) rfl ?_
  refine z_aload_n 1 dX12_calls_25 rfl rfl ?_
  refine z_getr fr_RX12_49 dX12_calls_26 ?_
  refine z_iload_n 3 dX12_calls_29 rfl rfl ?_
  obtain ⟨hi4587, hF⟩ := zrd_at hF
  refine z_iald (n := 1600) rfl hi4587 dX12_calls_30 ?_
  generalize t 14 (Int32.toNatClampNeg x2) = v4586 at hF ⊢
  refine z_bipush (v := 9) dX12_calls_31 (by decide) ?_
  refine z_icmp_ne (tgt := 40) dX12_calls_33 (by decide) (fun hc => ?_) (fun hc => ?_)
  · have hF := zif_f hc hF
    refine z_iconst (v := 0) dX12_calls_40 (by decide) ?_
    refine z_sub [1, 2, 3, 4, 0] rfl ?_
    exact wbX12_calls_41 hf  x1 x2 x3 y0 0 _ hF
  · have hF := zif_t hc hF
    refine z_iconst (v := 1) dX12_calls_36 (by decide) ?_
    refine z_goto (tgt := 41) dX12_calls_37 (by decide) ?_
    refine z_sub [1, 2, 3, 4, 0] rfl ?_
    exact wbX12_calls_41 hf  x1 x2 x3 y0 1 _ hF
set_option maxHeartbeats 4000000 in
set_option maxRecDepth 20000 in
theorem ctX12_calls {E : zE} {f : Nat} (hf : 5 ≤ f) {x1 : Int32} {x2 : Int32} {t : zS} {ro : Int32 × zS} (hF : mX12_calls  x1 x2 t = some ro) : zM E shM f yX12_calls cX12_calls 13 (some .boolean) [.ref (za E 0), .int x1, .int x2] t ro := by
  refine zM_of (by decide) (Nat.le_of_ble_eq_true rfl) (fun C => ?_)
  show zJ E shM C cX12_calls RX12 13 f (some .boolean) ro t 0 [(0, .ref (za E 0)), (1, .int x1), (2, .int x2)] []
  unfold mX12_calls at hF
  refine z_aload_n 0 dX12_calls_0 rfl rfl ?_
  refine z_getr fr_RX12_58 dX12_calls_1 ?_
  refine z_iload_n 2 dX12_calls_4 rfl rfl ?_
  obtain ⟨hi4589, hF⟩ := zrd_at hF
  refine z_iald (n := 1600) rfl hi4589 dX12_calls_5 ?_
  generalize t 17 (Int32.toNatClampNeg x2) = v4588 at hF ⊢
  refine z_istore_n (lv' := [(3, .int v4588), (0, .ref (za E 0)), (1, .int x1), (2, .int x2)]) dX12_calls_6 rfl (by decide) rfl ?_
  refine z_aload_n 1 dX12_calls_7 rfl rfl ?_
  refine z_getr fr_RX12_49 dX12_calls_8 ?_
  refine z_iload_n 3 dX12_calls_11 rfl rfl ?_
  obtain ⟨hi4591, hF⟩ := zrd_at hF
  refine z_iald (n := 1600) rfl hi4591 dX12_calls_12 ?_
  generalize t 14 (Int32.toNatClampNeg x2) = v4590 at hF ⊢
  refine z_bipush (v := 8) dX12_calls_13 (by decide) ?_
  refine z_icmp_ne (tgt := 22) dX12_calls_15 (by decide) (fun hc => ?_) (fun hc => ?_)
  · have hF := zif_f hc hF
    refine z_iconst (v := 0) dX12_calls_22 (by decide) ?_
    refine z_sub [1, 2, 3, 0] rfl ?_
    exact wbX12_calls_23 hf  x1 x2 v4588 0 _ hF
  · have hF := zif_t hc hF
    refine z_iconst (v := 1) dX12_calls_18 (by decide) ?_
    refine z_goto (tgt := 23) dX12_calls_19 (by decide) ?_
    refine z_sub [1, 2, 3, 0] rfl ?_
    exact wbX12_calls_23 hf  x1 x2 v4588 1 _ hF
