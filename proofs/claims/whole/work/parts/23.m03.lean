-- SessionHouse$Statements.addBranch(IIII)I
theorem dX9_addBranch_0 : decode cX9_addBranch 0 = .ok (.aload_n 0, 1) := by decide +kernel
theorem dX9_addBranch_1 : decode cX9_addBranch 1 = .ok (.getfield 50, 3) := by decide +kernel
theorem dX9_addBranch_4 : decode cX9_addBranch 4 = .ok (.aload_n 0, 1) := by decide +kernel
theorem dX9_addBranch_5 : decode cX9_addBranch 5 = .ok (.getfield 66, 3) := by decide +kernel
theorem dX9_addBranch_8 : decode cX9_addBranch 8 = .ok (.iload_n 3, 1) := by decide +kernel
theorem dX9_addBranch_9 : decode cX9_addBranch 9 = .ok (.invokevirtual 69, 3) := by decide +kernel
theorem dX9_addBranch_12 : decode cX9_addBranch 12 = .ok (.aload_n 0, 1) := by decide +kernel
theorem dX9_addBranch_13 : decode cX9_addBranch 13 = .ok (.getfield 53, 3) := by decide +kernel
theorem dX9_addBranch_16 : decode cX9_addBranch 16 = .ok (.aload_n 0, 1) := by decide +kernel
theorem dX9_addBranch_17 : decode cX9_addBranch 17 = .ok (.getfield 66, 3) := by decide +kernel
theorem dX9_addBranch_20 : decode cX9_addBranch 20 = .ok (.iload 4, 2) := by decide +kernel
theorem dX9_addBranch_22 : decode cX9_addBranch 22 = .ok (.invokevirtual 69, 3) := by decide +kernel
theorem dX9_addBranch_25 : decode cX9_addBranch 25 = .ok (.aload_n 0, 1) := by decide +kernel
theorem dX9_addBranch_26 : decode cX9_addBranch 26 = .ok (.getfield 56, 3) := by decide +kernel
theorem dX9_addBranch_29 : decode cX9_addBranch 29 = .ok (.aload_n 0, 1) := by decide +kernel
theorem dX9_addBranch_30 : decode cX9_addBranch 30 = .ok (.getfield 66, 3) := by decide +kernel
theorem dX9_addBranch_33 : decode cX9_addBranch 33 = .ok (.iconst 0, 1) := by decide +kernel
theorem dX9_addBranch_34 : decode cX9_addBranch 34 = .ok (.invokevirtual 69, 3) := by decide +kernel
theorem dX9_addBranch_37 : decode cX9_addBranch 37 = .ok (.aload_n 0, 1) := by decide +kernel
theorem dX9_addBranch_38 : decode cX9_addBranch 38 = .ok (.getfield 59, 3) := by decide +kernel
theorem dX9_addBranch_41 : decode cX9_addBranch 41 = .ok (.aload_n 0, 1) := by decide +kernel
theorem dX9_addBranch_42 : decode cX9_addBranch 42 = .ok (.getfield 66, 3) := by decide +kernel
theorem dX9_addBranch_45 : decode cX9_addBranch 45 = .ok (.iconst (-1), 1) := by decide +kernel
theorem dX9_addBranch_46 : decode cX9_addBranch 46 = .ok (.invokevirtual 69, 3) := by decide +kernel
theorem dX9_addBranch_49 : decode cX9_addBranch 49 = .ok (.iload_n 2, 1) := by decide +kernel
theorem dX9_addBranch_50 : decode cX9_addBranch 50 = .ok (.ifCond .ge 18, 3) := by decide +kernel
theorem dX9_addBranch_53 : decode cX9_addBranch 53 = .ok (.aload_n 0, 1) := by decide +kernel
theorem dX9_addBranch_54 : decode cX9_addBranch 54 = .ok (.getfield 44, 3) := by decide +kernel
theorem dX9_addBranch_57 : decode cX9_addBranch 57 = .ok (.iload_n 1, 1) := by decide +kernel
theorem dX9_addBranch_58 : decode cX9_addBranch 58 = .ok (.aload_n 0, 1) := by decide +kernel
theorem dX9_addBranch_59 : decode cX9_addBranch 59 = .ok (.getfield 66, 3) := by decide +kernel
theorem dX9_addBranch_62 : decode cX9_addBranch 62 = .ok (.invokevirtual 69, 3) := by decide +kernel
theorem dX9_addBranch_65 : decode cX9_addBranch 65 = .ok (.goto 15, 3) := by decide +kernel
theorem dX9_addBranch_68 : decode cX9_addBranch 68 = .ok (.aload_n 0, 1) := by decide +kernel
theorem dX9_addBranch_69 : decode cX9_addBranch 69 = .ok (.getfield 59, 3) := by decide +kernel
theorem dX9_addBranch_72 : decode cX9_addBranch 72 = .ok (.iload_n 2, 1) := by decide +kernel
theorem dX9_addBranch_73 : decode cX9_addBranch 73 = .ok (.aload_n 0, 1) := by decide +kernel
theorem dX9_addBranch_74 : decode cX9_addBranch 74 = .ok (.getfield 66, 3) := by decide +kernel
theorem dX9_addBranch_77 : decode cX9_addBranch 77 = .ok (.invokevirtual 69, 3) := by decide +kernel
theorem dX9_addBranch_80 : decode cX9_addBranch 80 = .ok (.aload_n 0, 1) := by decide +kernel
theorem dX9_addBranch_81 : decode cX9_addBranch 81 = .ok (.dup, 1) := by decide +kernel
theorem dX9_addBranch_82 : decode cX9_addBranch 82 = .ok (.getfield 66, 3) := by decide +kernel
theorem dX9_addBranch_85 : decode cX9_addBranch 85 = .ok (.iconst 1, 1) := by decide +kernel
theorem dX9_addBranch_86 : decode cX9_addBranch 86 = .ok (.iadd, 1) := by decide +kernel
theorem dX9_addBranch_87 : decode cX9_addBranch 87 = .ok (.putfield 66, 3) := by decide +kernel
theorem dX9_addBranch_90 : decode cX9_addBranch 90 = .ok (.aload_n 0, 1) := by decide +kernel
theorem dX9_addBranch_91 : decode cX9_addBranch 91 = .ok (.getfield 66, 3) := by decide +kernel
theorem dX9_addBranch_94 : decode cX9_addBranch 94 = .ok (.iconst 1, 1) := by decide +kernel
theorem dX9_addBranch_95 : decode cX9_addBranch 95 = .ok (.isub, 1) := by decide +kernel
theorem dX9_addBranch_96 : decode cX9_addBranch 96 = .ok (.ireturn, 1) := by decide +kernel
def bX9_addBranch_80 (t : zS) : zR := zpt t 52 16 ((t 52 16) + 1) fun t747 => some (((t747 52 16) - 1), t747)
def mX9_addBranch (x1 : Int32) (x2 : Int32) (x3 : Int32) (x4 : Int32) (t : zS) : zR := zbd (mX5_set 108 1600 (t 52 16) x3 t) fun r748 t749 => zbd (mX5_set 110 1600 (t749 52 16) x4 t749) fun r751 t752 => zbd (mX5_set 112 1600 (t752 52 16) 0 t752) fun r754 t755 => zbd (mX5_set 114 1600 (t755 52 16) (-1) t755) fun r757 t758 => if 0 ≤ x2 then zbd (mX5_set 114 1600 x2 (t758 52 16) t758) fun r760 t761 => bX9_addBranch_80   t761 else zbd (mX5_set 104 1000 x1 (t758 52 16) t758) fun r763 t764 => bX9_addBranch_80   t764
set_option maxHeartbeats 4000000 in
set_option maxRecDepth 20000 in
theorem wbX9_addBranch_80 {E : zE} {C : zC} {f : Nat} {ro : Int32 × zS} (hf : 2 ≤ f) (t : zS) (hF : bX9_addBranch_80   t = some ro) : zJ E shC C cX9_addBranch RX9 5 f (some .int) ro t 80 [(0, .ref (za E 52))] [] := by
  unfold bX9_addBranch_80 at hF
  refine z_aload_n 0 dX9_addBranch_80 rfl rfl ?_
  refine z_dup dX9_addBranch_81 rfl ?_
  refine z_geti fi_RX9_66 dX9_addBranch_82 ?_
  refine z_iconst (v := 1) dX9_addBranch_85 (by decide) ?_
  refine z_iadd dX9_addBranch_86 ?_
  refine z_puti fw_RX9_66 dX9_addBranch_87 (fun t747 et747 => ?_)
  have hF := zpt_at hF t747 et747
  refine z_aload_n 0 dX9_addBranch_90 rfl rfl ?_
  refine z_geti fi_RX9_66 dX9_addBranch_91 ?_
  refine z_iconst (v := 1) dX9_addBranch_94 (by decide) ?_
  refine z_isub dX9_addBranch_95 ?_
  exact z_iret hF dX9_addBranch_96
set_option maxHeartbeats 4000000 in
set_option maxRecDepth 20000 in
theorem ctX9_addBranch {E : zE} {f : Nat} (hf : 2 ≤ f) {x1 : Int32} {x2 : Int32} {x3 : Int32} {x4 : Int32} {t : zS} {ro : Int32 × zS} (hF : mX9_addBranch  x1 x2 x3 x4 t = some ro) : zM E shC f yX9_addBranch cX9_addBranch 5 (some .int) [.ref (za E 52), .int x1, .int x2, .int x3, .int x4] t ro := by
  refine zM_of (by decide) (Nat.le_of_ble_eq_true rfl) (fun C => ?_)
  show zJ E shC C cX9_addBranch RX9 5 f (some .int) ro t 0 [(0, .ref (za E 52)), (1, .int x1), (2, .int x2), (3, .int x3), (4, .int x4)] []
  unfold mX9_addBranch at hF
  refine z_aload_n 0 dX9_addBranch_0 rfl rfl ?_
  refine z_getr fr_RX9_50 dX9_addBranch_1 ?_
  refine z_aload_n 0 dX9_addBranch_4 rfl rfl ?_
  refine z_geti fi_RX9_66 dX9_addBranch_5 ?_
  refine z_iload_n 3 dX9_addBranch_8 rfl rfl ?_
  obtain ⟨r748, t749, hc750, hF⟩ := zbd_at hF
  refine z_callVv (ctX5_set (E := E) (sh := shC) (f := f - 1) (by omega) (k := 108) (n := 1600) rfl rfl hc750) yy_X5_set yv_X5_set ob_C_108 lk_RX9_69 (by omega) rfl rfl (Nat.le_of_ble_eq_true rfl) dX9_addBranch_9 ?_
  refine z_aload_n 0 dX9_addBranch_12 rfl rfl ?_
  refine z_getr fr_RX9_53 dX9_addBranch_13 ?_
  refine z_aload_n 0 dX9_addBranch_16 rfl rfl ?_
  refine z_geti fi_RX9_66 dX9_addBranch_17 ?_
  refine z_iload 4 dX9_addBranch_20 rfl ?_
  obtain ⟨r751, t752, hc753, hF⟩ := zbd_at hF
  refine z_callVv (ctX5_set (E := E) (sh := shC) (f := f - 1) (by omega) (k := 110) (n := 1600) rfl rfl hc753) yy_X5_set yv_X5_set ob_C_110 lk_RX9_69 (by omega) rfl rfl (Nat.le_of_ble_eq_true rfl) dX9_addBranch_22 ?_
  refine z_aload_n 0 dX9_addBranch_25 rfl rfl ?_
  refine z_getr fr_RX9_56 dX9_addBranch_26 ?_
  refine z_aload_n 0 dX9_addBranch_29 rfl rfl ?_
  refine z_geti fi_RX9_66 dX9_addBranch_30 ?_
  refine z_iconst (v := 0) dX9_addBranch_33 (by decide) ?_
  obtain ⟨r754, t755, hc756, hF⟩ := zbd_at hF
  refine z_callVv (ctX5_set (E := E) (sh := shC) (f := f - 1) (by omega) (k := 112) (n := 1600) rfl rfl hc756) yy_X5_set yv_X5_set ob_C_112 lk_RX9_69 (by omega) rfl rfl (Nat.le_of_ble_eq_true rfl) dX9_addBranch_34 ?_
  refine z_aload_n 0 dX9_addBranch_37 rfl rfl ?_
  refine z_getr fr_RX9_59 dX9_addBranch_38 ?_
  refine z_aload_n 0 dX9_addBranch_41 rfl rfl ?_
  refine z_geti fi_RX9_66 dX9_addBranch_42 ?_
  refine z_iconst (v := (-1)) dX9_addBranch_45 (by decide) ?_
  obtain ⟨r757, t758, hc759, hF⟩ := zbd_at hF
  refine z_callVv (ctX5_set (E := E) (sh := shC) (f := f - 1) (by omega) (k := 114) (n := 1600) rfl rfl hc759) yy_X5_set yv_X5_set ob_C_114 lk_RX9_69 (by omega) rfl rfl (Nat.le_of_ble_eq_true rfl) dX9_addBranch_46 ?_
  refine z_iload_n 2 dX9_addBranch_49 rfl rfl ?_
  refine z_if_ge (tgt := 68) dX9_addBranch_50 (by decide) (fun hc => ?_) (fun hc => ?_)
  · have hF := zif_t hc hF
    refine z_aload_n 0 dX9_addBranch_68 rfl rfl ?_
    refine z_getr fr_RX9_59 dX9_addBranch_69 ?_
    refine z_iload_n 2 dX9_addBranch_72 rfl rfl ?_
    refine z_aload_n 0 dX9_addBranch_73 rfl rfl ?_
    refine z_geti fi_RX9_66 dX9_addBranch_74 ?_
    obtain ⟨r760, t761, hc762, hF⟩ := zbd_at hF
    refine z_callVv (ctX5_set (E := E) (sh := shC) (f := f - 1) (by omega) (k := 114) (n := 1600) rfl rfl hc762) yy_X5_set yv_X5_set ob_C_114 lk_RX9_69 (by omega) rfl rfl (Nat.le_of_ble_eq_true rfl) dX9_addBranch_77 ?_
    refine z_sub [0] rfl ?_
    exact wbX9_addBranch_80 hf   _ hF
  · have hF := zif_f hc hF
    refine z_aload_n 0 dX9_addBranch_53 rfl rfl ?_
    refine z_getr fr_RX9_44 dX9_addBranch_54 ?_
    refine z_iload_n 1 dX9_addBranch_57 rfl rfl ?_
    refine z_aload_n 0 dX9_addBranch_58 rfl rfl ?_
    refine z_geti fi_RX9_66 dX9_addBranch_59 ?_
    obtain ⟨r763, t764, hc765, hF⟩ := zbd_at hF
    refine z_callVv (ctX5_set (E := E) (sh := shC) (f := f - 1) (by omega) (k := 104) (n := 1000) rfl rfl hc765) yy_X5_set yv_X5_set ob_C_104 lk_RX9_69 (by omega) rfl rfl (Nat.le_of_ble_eq_true rfl) dX9_addBranch_62 ?_
    refine z_goto (tgt := 80) dX9_addBranch_65 (by decide) ?_
    refine z_sub [0] rfl ?_
    exact wbX9_addBranch_80 hf   _ hF
-- SessionHouse$Reader.readFormula(I)V
theorem dX7_readFormula_0 : decode cX7_readFormula 0 = .ok (.aload_n 0, 1) := by decide +kernel
theorem dX7_readFormula_1 : decode cX7_readFormula 1 = .ok (.getfield 38, 3) := by decide +kernel
theorem dX7_readFormula_4 : decode cX7_readFormula 4 = .ok (.getfield 241, 3) := by decide +kernel
theorem dX7_readFormula_7 : decode cX7_readFormula 7 = .ok (.iload_n 1, 1) := by decide +kernel
theorem dX7_readFormula_8 : decode cX7_readFormula 8 = .ok (.aload_n 0, 1) := by decide +kernel
theorem dX7_readFormula_9 : decode cX7_readFormula 9 = .ok (.getfield 34, 3) := by decide +kernel
theorem dX7_readFormula_12 : decode cX7_readFormula 12 = .ok (.getfield 244, 3) := by decide +kernel
theorem dX7_readFormula_15 : decode cX7_readFormula 15 = .ok (.invokevirtual 127, 3) := by decide +kernel
theorem dX7_readFormula_18 : decode cX7_readFormula 18 = .ok (.aload_n 0, 1) := by decide +kernel
theorem dX7_readFormula_19 : decode cX7_readFormula 19 = .ok (.invokevirtual 247, 3) := by decide +kernel
theorem dX7_readFormula_22 : decode cX7_readFormula 22 = .ok (.aload_n 0, 1) := by decide +kernel
theorem dX7_readFormula_23 : decode cX7_readFormula 23 = .ok (.getfield 38, 3) := by decide +kernel
theorem dX7_readFormula_26 : decode cX7_readFormula 26 = .ok (.getfield 250, 3) := by decide +kernel
theorem dX7_readFormula_29 : decode cX7_readFormula 29 = .ok (.iload_n 1, 1) := by decide +kernel
theorem dX7_readFormula_30 : decode cX7_readFormula 30 = .ok (.aload_n 0, 1) := by decide +kernel
theorem dX7_readFormula_31 : decode cX7_readFormula 31 = .ok (.getfield 34, 3) := by decide +kernel
theorem dX7_readFormula_34 : decode cX7_readFormula 34 = .ok (.getfield 244, 3) := by decide +kernel
theorem dX7_readFormula_37 : decode cX7_readFormula 37 = .ok (.invokevirtual 127, 3) := by decide +kernel
theorem dX7_readFormula_40 : decode cX7_readFormula 40 = .ok (.return_, 1) := by decide +kernel
def mX7_readFormula (x1 : Int32) (t : zS) : zR := zbd (mX5_set 94 1000 x1 (t 51 6) t) fun r766 t767 => zbd (mX7_readExpressionr  t767) fun r769 t770 => zbd (mX5_set 96 1000 x1 (t770 51 6) t770) fun r772 t773 => some (0, t773)
set_option maxHeartbeats 4000000 in
set_option maxRecDepth 20000 in
theorem ctX7_readFormula {E : zE} {f : Nat} (hf : 304 ≤ f) {x1 : Int32} {t : zS} {ro : Int32 × zS} (hF : mX7_readFormula  x1 t = some ro) : zM E shC f yX7_readFormula cX7_readFormula 2 none [.ref (za E 5), .int x1] t ro := by
  refine zM_of (by decide) (Nat.le_of_ble_eq_true rfl) (fun C => ?_)
  show zJ E shC C cX7_readFormula RX7 2 f none ro t 0 [(0, .ref (za E 5)), (1, .int x1)] []
  unfold mX7_readFormula at hF
  refine z_aload_n 0 dX7_readFormula_0 rfl rfl ?_
  refine z_getr fr_RX7_38 dX7_readFormula_1 ?_
  refine z_getr fr_RX7_241 dX7_readFormula_4 ?_
  refine z_iload_n 1 dX7_readFormula_7 rfl rfl ?_
  refine z_aload_n 0 dX7_readFormula_8 rfl rfl ?_
  refine z_getr fr_RX7_34 dX7_readFormula_9 ?_
  refine z_geti fi_RX7_244 dX7_readFormula_12 ?_
  obtain ⟨r766, t767, hc768, hF⟩ := zbd_at hF
  refine z_callVv (ctX5_set (E := E) (sh := shC) (f := f - 1) (by omega) (k := 94) (n := 1000) rfl rfl hc768) yy_X5_set yv_X5_set ob_C_94 lk_RX7_127 (by omega) rfl rfl (Nat.le_of_ble_eq_true rfl) dX7_readFormula_15 ?_
  refine z_aload_n 0 dX7_readFormula_18 rfl rfl ?_
  obtain ⟨r769, t770, hc771, hF⟩ := zbd_at hF
  refine z_callVv (ctX7_readExpressionr (E := E) (f := f - 1) (by omega) hc771) yy_X7_readExpression yv_X7_readExpression ob_C_5 lk_RX7_247 (by omega) rfl rfl (Nat.le_of_ble_eq_true rfl) dX7_readFormula_19 ?_
  refine z_aload_n 0 dX7_readFormula_22 rfl rfl ?_
  refine z_getr fr_RX7_38 dX7_readFormula_23 ?_
  refine z_getr fr_RX7_250 dX7_readFormula_26 ?_
  refine z_iload_n 1 dX7_readFormula_29 rfl rfl ?_
  refine z_aload_n 0 dX7_readFormula_30 rfl rfl ?_
  refine z_getr fr_RX7_34 dX7_readFormula_31 ?_
  refine z_geti fi_RX7_244 dX7_readFormula_34 ?_
  obtain ⟨r772, t773, hc774, hF⟩ := zbd_at hF
  refine z_callVv (ctX5_set (E := E) (sh := shC) (f := f - 1) (by omega) (k := 96) (n := 1000) rfl rfl hc774) yy_X5_set yv_X5_set ob_C_96 lk_RX7_127 (by omega) rfl rfl (Nat.le_of_ble_eq_true rfl) dX7_readFormula_37 ?_
  exact z_vret hF dX7_readFormula_40
-- SessionHouse$Reader.readSecond(IZ)V
theorem dX7_readSecond_0 : decode cX7_readSecond 0 = .ok (.aload_n 0, 1) := by decide +kernel
theorem dX7_readSecond_1 : decode cX7_readSecond 1 = .ok (.getfield 80, 3) := by decide +kernel
theorem dX7_readSecond_4 : decode cX7_readSecond 4 = .ok (.bipush 17, 2) := by decide +kernel
theorem dX7_readSecond_6 : decode cX7_readSecond 6 = .ok (.if_icmp .eq 8, 3) := by decide +kernel
theorem dX7_readSecond_9 : decode cX7_readSecond 9 = .ok (.aload_n 0, 1) := by decide +kernel
theorem dX7_readSecond_10 : decode cX7_readSecond 10 = .ok (.invokevirtual 89, 3) := by decide +kernel
theorem dX7_readSecond_13 : decode cX7_readSecond 13 = .ok (.return_, 1) := by decide +kernel
theorem dX7_readSecond_14 : decode cX7_readSecond 14 = .ok (.aload_n 0, 1) := by decide +kernel
theorem dX7_readSecond_15 : decode cX7_readSecond 15 = .ok (.getfield 38, 3) := by decide +kernel
theorem dX7_readSecond_18 : decode cX7_readSecond 18 = .ok (.getfield 238, 3) := by decide +kernel
theorem dX7_readSecond_21 : decode cX7_readSecond 21 = .ok (.iload_n 1, 1) := by decide +kernel
theorem dX7_readSecond_22 : decode cX7_readSecond 22 = .ok (.iload_n 2, 1) := by decide +kernel
theorem dX7_readSecond_23 : decode cX7_readSecond 23 = .ok (.ifCond .eq 10, 3) := by decide +kernel
theorem dX7_readSecond_26 : decode cX7_readSecond 26 = .ok (.aload_n 0, 1) := by decide +kernel
theorem dX7_readSecond_27 : decode cX7_readSecond 27 = .ok (.getfield 121, 3) := by decide +kernel
theorem dX7_readSecond_30 : decode cX7_readSecond 30 = .ok (.goto 14, 3) := by decide +kernel
theorem dX7_readSecond_33 : decode cX7_readSecond 33 = .ok (.aload_n 0, 1) := by decide +kernel
theorem dX7_readSecond_34 : decode cX7_readSecond 34 = .ok (.getfield 42, 3) := by decide +kernel
theorem dX7_readSecond_37 : decode cX7_readSecond 37 = .ok (.aload_n 0, 1) := by decide +kernel
theorem dX7_readSecond_38 : decode cX7_readSecond 38 = .ok (.getfield 121, 3) := by decide +kernel
theorem dX7_readSecond_41 : decode cX7_readSecond 41 = .ok (.invokevirtual 197, 3) := by decide +kernel
theorem dX7_readSecond_44 : decode cX7_readSecond 44 = .ok (.invokevirtual 127, 3) := by decide +kernel
theorem dX7_readSecond_47 : decode cX7_readSecond 47 = .ok (.aload_n 0, 1) := by decide +kernel
theorem dX7_readSecond_48 : decode cX7_readSecond 48 = .ok (.invokevirtual 77, 3) := by decide +kernel
theorem dX7_readSecond_51 : decode cX7_readSecond 51 = .ok (.return_, 1) := by decide +kernel
def bX7_readSecond_44 (y0 : Int32) (y1 : Int32) (t : zS) : zR := zbd (mX5_set 92 1000 y1 y0 t) fun r775 t776 => zbd (mX7_step  t776) fun r778 t779 => some (0, t779)
def mX7_readSecond (x1 : Int32) (x2 : Int32) (t : zS) : zR := if (t 5 9) = 17 then if x2 = 0 then zbd (mX6_slotFor (t 5 11) t) fun r781 t782 => bX7_readSecond_44  r781 x1 t782 else bX7_readSecond_44  (t 5 11) x1 t else zbd (mX7_refuse  t) fun r784 t785 => some (0, t785)
set_option maxHeartbeats 4000000 in
set_option maxRecDepth 20000 in
theorem wbX7_readSecond_44 {E : zE} {C : zC} {f : Nat} {ro : Int32 × zS} (hf : 3 ≤ f) (y0 : Int32) (y1 : Int32) (t : zS) (hF : bX7_readSecond_44  y0 y1 t = some ro) : zJ E shC C cX7_readSecond RX7 3 f none ro t 44 [(0, .ref (za E 5))] [.int y0, .int y1, .ref (za E 92)] := by
  unfold bX7_readSecond_44 at hF
  obtain ⟨r775, t776, hc777, hF⟩ := zbd_at hF
  refine z_callVv (ctX5_set (E := E) (sh := shC) (f := f - 1) (by omega) (k := 92) (n := 1000) rfl rfl hc777) yy_X5_set yv_X5_set ob_C_92 lk_RX7_127 (by omega) rfl rfl (Nat.le_of_ble_eq_true rfl) dX7_readSecond_44 ?_
  refine z_aload_n 0 dX7_readSecond_47 rfl rfl ?_
  obtain ⟨r778, t779, hc780, hF⟩ := zbd_at hF
  refine z_callVv (ctX7_step (E := E) (f := f - 1) (by omega) hc780) yy_X7_step yv_X7_step ob_C_5 lk_RX7_77 (by omega) rfl rfl (Nat.le_of_ble_eq_true rfl) dX7_readSecond_48 ?_
  exact z_vret hF dX7_readSecond_51
set_option maxHeartbeats 4000000 in
set_option maxRecDepth 20000 in
theorem ctX7_readSecond {E : zE} {f : Nat} (hf : 3 ≤ f) {x1 : Int32} {x2 : Int32} {t : zS} {ro : Int32 × zS} (hF : mX7_readSecond  x1 x2 t = some ro) : zM E shC f yX7_readSecond cX7_readSecond 3 none [.ref (za E 5), .int x1, .int x2] t ro := by
  refine zM_of (by decide) (Nat.le_of_ble_eq_true rfl) (fun C => ?_)
  show zJ E shC C cX7_readSecond RX7 3 f none ro t 0 [(0, .ref (za E 5)), (1, .int x1), (2, .int x2)] []
  unfold mX7_readSecond at hF
  refine z_aload_n 0 dX7_readSecond_0 rfl rfl ?_
  refine z_geti fi_RX7_80 dX7_readSecond_1 ?_
  refine z_bipush (v := 17) dX7_readSecond_4 (by decide) ?_
  refine z_icmp_eq (tgt := 14) dX7_readSecond_6 (by decide) (fun hc => ?_) (fun hc => ?_)
  · have hF := zif_t hc hF
    refine z_aload_n 0 dX7_readSecond_14 rfl rfl ?_
    refine z_getr fr_RX7_38 dX7_readSecond_15 ?_
    refine z_getr fr_RX7_238 dX7_readSecond_18 ?_
    refine z_iload_n 1 dX7_readSecond_21 rfl rfl ?_
    refine z_iload_n 2 dX7_readSecond_22 rfl rfl ?_
    refine z_if_eq (tgt := 33) dX7_readSecond_23 (by decide) (fun hc => ?_) (fun hc => ?_)
    · have hF := zif_t hc hF
      refine z_aload_n 0 dX7_readSecond_33 rfl rfl ?_
      refine z_getr fr_RX7_42 dX7_readSecond_34 ?_
      refine z_aload_n 0 dX7_readSecond_37 rfl rfl ?_
      refine z_geti fi_RX7_121 dX7_readSecond_38 ?_
      obtain ⟨r781, t782, hc783, hF⟩ := zbd_at hF
      refine z_callVi (ctX6_slotFor (E := E) (f := f - 1) (by omega) hc783) yy_X6_slotFor yv_X6_slotFor ob_C_4 lk_RX7_197 (by omega) rfl rfl (Nat.le_of_ble_eq_true rfl) dX7_readSecond_41 ?_
      refine z_sub [0] rfl ?_
      exact wbX7_readSecond_44 hf  r781 x1 _ hF
    · have hF := zif_f hc hF
      refine z_aload_n 0 dX7_readSecond_26 rfl rfl ?_
      refine z_geti fi_RX7_121 dX7_readSecond_27 ?_
      refine z_goto (tgt := 44) dX7_readSecond_30 (by decide) ?_
      refine z_sub [0] rfl ?_
      exact wbX7_readSecond_44 hf  (t 5 11) x1 _ hF
  · have hF := zif_f hc hF
    refine z_aload_n 0 dX7_readSecond_9 rfl rfl ?_
    obtain ⟨r784, t785, hc786, hF⟩ := zbd_at hF
    refine z_callVv (ctX7_refuse (E := E) (f := f - 1) (by omega) hc786) yy_X7_refuse yv_X7_refuse ob_C_5 lk_RX7_89 (by omega) rfl rfl (Nat.le_of_ble_eq_true rfl) dX7_readSecond_10 ?_
    exact z_vret hF dX7_readSecond_13
-- SessionHouse$Reader.readNames(II)V
theorem dX7_readNames_0 : decode cX7_readNames 0 = .ok (.iload_n 2, 1) := by decide +kernel
theorem dX7_readNames_1 : decode cX7_readNames 1 = .ok (.bipush 13, 2) := by decide +kernel
theorem dX7_readNames_3 : decode cX7_readNames 3 = .ok (.if_icmp .eq 8, 3) := by decide +kernel
theorem dX7_readNames_6 : decode cX7_readNames 6 = .ok (.aload_n 0, 1) := by decide +kernel
theorem dX7_readNames_7 : decode cX7_readNames 7 = .ok (.iload_n 1, 1) := by decide +kernel
theorem dX7_readNames_8 : decode cX7_readNames 8 = .ok (.invokevirtual 216, 3) := by decide +kernel
theorem dX7_readNames_11 : decode cX7_readNames 11 = .ok (.iload_n 2, 1) := by decide +kernel
theorem dX7_readNames_12 : decode cX7_readNames 12 = .ok (.bipush 17, 2) := by decide +kernel
theorem dX7_readNames_14 : decode cX7_readNames 14 = .ok (.if_icmp .ne 12, 3) := by decide +kernel
theorem dX7_readNames_17 : decode cX7_readNames 17 = .ok (.aload_n 0, 1) := by decide +kernel
theorem dX7_readNames_18 : decode cX7_readNames 18 = .ok (.bipush 61, 2) := by decide +kernel
theorem dX7_readNames_20 : decode cX7_readNames 20 = .ok (.invokevirtual 135, 3) := by decide +kernel
theorem dX7_readNames_23 : decode cX7_readNames 23 = .ok (.goto 30, 3) := by decide +kernel
theorem dX7_readNames_26 : decode cX7_readNames 26 = .ok (.iload_n 2, 1) := by decide +kernel
theorem dX7_readNames_27 : decode cX7_readNames 27 = .ok (.iconst 3, 1) := by decide +kernel
theorem dX7_readNames_28 : decode cX7_readNames 28 = .ok (.if_icmp .lt 25, 3) := by decide +kernel
theorem dX7_readNames_31 : decode cX7_readNames 31 = .ok (.iload_n 2, 1) := by decide +kernel
theorem dX7_readNames_32 : decode cX7_readNames 32 = .ok (.bipush 6, 2) := by decide +kernel
theorem dX7_readNames_34 : decode cX7_readNames 34 = .ok (.if_icmp .gt 19, 3) := by decide +kernel
theorem dX7_readNames_37 : decode cX7_readNames 37 = .ok (.aload_n 0, 1) := by decide +kernel
theorem dX7_readNames_38 : decode cX7_readNames 38 = .ok (.iload_n 1, 1) := by decide +kernel
theorem dX7_readNames_39 : decode cX7_readNames 39 = .ok (.iload_n 2, 1) := by decide +kernel
theorem dX7_readNames_40 : decode cX7_readNames 40 = .ok (.bipush 6, 2) := by decide +kernel
theorem dX7_readNames_42 : decode cX7_readNames 42 = .ok (.if_icmp .ne 7, 3) := by decide +kernel
theorem dX7_readNames_45 : decode cX7_readNames 45 = .ok (.iconst 1, 1) := by decide +kernel
theorem dX7_readNames_46 : decode cX7_readNames 46 = .ok (.goto 4, 3) := by decide +kernel
theorem dX7_readNames_49 : decode cX7_readNames 49 = .ok (.iconst 0, 1) := by decide +kernel
theorem dX7_readNames_50 : decode cX7_readNames 50 = .ok (.invokevirtual 231, 3) := by decide +kernel
theorem dX7_readNames_53 : decode cX7_readNames 53 = .ok (.return_, 1) := by decide +kernel
def bX7_readNames_50 (y0 : Int32) (y1 : Int32) (t : zS) : zR := zbd (mX7_readSecond y1 y0 t) fun r787 t788 => some (0, t788)
def bX7_readNames_11 (x1 : Int32) (x2 : Int32) (t : zS) : zR := if x2 = 17 then zbd (mX7_expect 61 t) fun r790 t791 => some (0, t791) else if x2 < 3 then some (0, t) else if 6 < x2 then some (0, t) else if x2 = 6 then bX7_readNames_50  1 x1 t else bX7_readNames_50  0 x1 t
def mX7_readNames (x1 : Int32) (x2 : Int32) (t : zS) : zR := if x2 = 13 then bX7_readNames_11  x1 x2 t else zbd (mX7_readSlot x1 t) fun r793 t794 => bX7_readNames_11  x1 x2 t794
set_option maxHeartbeats 4000000 in
set_option maxRecDepth 20000 in
theorem wbX7_readNames_50 {E : zE} {C : zC} {f : Nat} {ro : Int32 × zS} (hf : 4 ≤ f) (y0 : Int32) (y1 : Int32) (t : zS) (hF : bX7_readNames_50  y0 y1 t = some ro) : zJ E shC C cX7_readNames RX7 3 f none ro t 50 [] [.int y0, .int y1, .ref (za E 5)] := by
  unfold bX7_readNames_50 at hF
  obtain ⟨r787, t788, hc789, hF⟩ := zbd_at hF
  refine z_callVv (ctX7_readSecond (E := E) (f := f - 1) (by omega) hc789) yy_X7_readSecond yv_X7_readSecond ob_C_5 lk_RX7_231 (by omega) rfl rfl (Nat.le_of_ble_eq_true rfl) dX7_readNames_50 ?_
  exact z_vret hF dX7_readNames_53
set_option maxHeartbeats 4000000 in
set_option maxRecDepth 20000 in
theorem wbX7_readNames_11 {E : zE} {C : zC} {f : Nat} {ro : Int32 × zS} (hf : 4 ≤ f) (x1 : Int32) (x2 : Int32) (t : zS) (hF : bX7_readNames_11  x1 x2 t = some ro) : zJ E shC C cX7_readNames RX7 3 f none ro t 11 [(0, .ref (za E 5)), (1, .int x1), (2, .int x2)] [] := by
  unfold bX7_readNames_11 at hF
  refine z_iload_n 2 dX7_readNames_11 rfl rfl ?_
  refine z_bipush (v := 17) dX7_readNames_12 (by decide) ?_
  refine z_icmp_ne (tgt := 26) dX7_readNames_14 (by decide) (fun hc => ?_) (fun hc => ?_)
  · have hF := zif_f hc hF
    refine z_iload_n 2 dX7_readNames_26 rfl rfl ?_
    refine z_iconst (v := 3) dX7_readNames_27 (by decide) ?_
    refine z_icmp_lt (tgt := 53) dX7_readNames_28 (by decide) (fun hc => ?_) (fun hc => ?_)
    · have hF := zif_t hc hF
      exact z_vret hF dX7_readNames_53
    · have hF := zif_f hc hF
      refine z_iload_n 2 dX7_readNames_31 rfl rfl ?_
      refine z_bipush (v := 6) dX7_readNames_32 (by decide) ?_
      refine z_icmp_gt (tgt := 53) dX7_readNames_34 (by decide) (fun hc => ?_) (fun hc => ?_)
      · have hF := zif_t hc hF
        exact z_vret hF dX7_readNames_53
      · have hF := zif_f hc hF
        refine z_aload_n 0 dX7_readNames_37 rfl rfl ?_
        refine z_iload_n 1 dX7_readNames_38 rfl rfl ?_
        refine z_iload_n 2 dX7_readNames_39 rfl rfl ?_
        refine z_bipush (v := 6) dX7_readNames_40 (by decide) ?_
        refine z_icmp_ne (tgt := 49) dX7_readNames_42 (by decide) (fun hc => ?_) (fun hc => ?_)
        · have hF := zif_f hc hF
          refine z_iconst (v := 0) dX7_readNames_49 (by decide) ?_
          refine z_sub [] rfl ?_
          exact wbX7_readNames_50 hf  0 x1 _ hF
        · have hF := zif_t hc hF
          refine z_iconst (v := 1) dX7_readNames_45 (by decide) ?_
          refine z_goto (tgt := 50) dX7_readNames_46 (by decide) ?_
          refine z_sub [] rfl ?_
          exact wbX7_readNames_50 hf  1 x1 _ hF
  · have hF := zif_t hc hF
    refine z_aload_n 0 dX7_readNames_17 rfl rfl ?_
    refine z_bipush (v := 61) dX7_readNames_18 (by decide) ?_
    obtain ⟨r790, t791, hc792, hF⟩ := zbd_at hF
    refine z_callVv (ctX7_expect (E := E) (f := f - 1) (by omega) hc792) yy_X7_expect yv_X7_expect ob_C_5 lk_RX7_135 (by omega) rfl rfl (Nat.le_of_ble_eq_true rfl) dX7_readNames_20 ?_
    refine z_goto (tgt := 53) dX7_readNames_23 (by decide) ?_
    exact z_vret hF dX7_readNames_53
set_option maxHeartbeats 4000000 in
set_option maxRecDepth 20000 in
theorem ctX7_readNames {E : zE} {f : Nat} (hf : 4 ≤ f) {x1 : Int32} {x2 : Int32} {t : zS} {ro : Int32 × zS} (hF : mX7_readNames  x1 x2 t = some ro) : zM E shC f yX7_readNames cX7_readNames 3 none [.ref (za E 5), .int x1, .int x2] t ro := by
  refine zM_of (by decide) (Nat.le_of_ble_eq_true rfl) (fun C => ?_)
  show zJ E shC C cX7_readNames RX7 3 f none ro t 0 [(0, .ref (za E 5)), (1, .int x1), (2, .int x2)] []
  unfold mX7_readNames at hF
  refine z_iload_n 2 dX7_readNames_0 rfl rfl ?_
  refine z_bipush (v := 13) dX7_readNames_1 (by decide) ?_
  refine z_icmp_eq (tgt := 11) dX7_readNames_3 (by decide) (fun hc => ?_) (fun hc => ?_)
  · have hF := zif_t hc hF
    exact wbX7_readNames_11 hf  x1 x2 _ hF
  · have hF := zif_f hc hF
    refine z_aload_n 0 dX7_readNames_6 rfl rfl ?_
    refine z_iload_n 1 dX7_readNames_7 rfl rfl ?_
    obtain ⟨r793, t794, hc795, hF⟩ := zbd_at hF
    refine z_callVv (ctX7_readSlot (E := E) (f := f - 1) (by omega) hc795) yy_X7_readSlot yv_X7_readSlot ob_C_5 lk_RX7_216 (by omega) rfl rfl (Nat.le_of_ble_eq_true rfl) dX7_readNames_8 ?_
    exact wbX7_readNames_11 hf  x1 x2 _ hF
abbrev GgX7_readBlock : Type := (Int32 → zS → zR) × (Int32 → zS → zR) × (Int32 → zS → zR)
def HgX7_readBlock (E : zE) (f : Nat) (g : GgX7_readBlock) : Prop := (∀ (x1 : Int32) (t : zS) (ro : Int32 × zS), g.1 x1 t = some ro → zM E shC f yX7_readBlock cX7_readBlock 6 (some .int) [.ref (za E 5), .int x1] t ro) ∧ (∀ (x1 : Int32) (t : zS) (ro : Int32 × zS), g.2.1 x1 t = some ro → zM E shC f yX7_readStatement cX7_readStatement 5 (some .int) [.ref (za E 5), .int x1] t ro) ∧ (∀ (x1 : Int32) (t : zS) (ro : Int32 × zS), g.2.2 x1 t = some ro → zM E shC f yX7_readCases cX7_readCases 5 none [.ref (za E 5), .int x1] t ro)
theorem z_hgX7_readBlock {E : zE} {f : Nat} {g : GgX7_readBlock} (hg : HgX7_readBlock E f g) {x1 : Int32} {t : zS} {ro : Int32 × zS} (h : g.1 x1 t = some ro) : zM E shC f yX7_readBlock cX7_readBlock 6 (some .int) [.ref (za E 5), .int x1] t ro := hg.1 _ _ _ h
theorem z_hgX7_readStatement {E : zE} {f : Nat} {g : GgX7_readBlock} (hg : HgX7_readBlock E f g) {x1 : Int32} {t : zS} {ro : Int32 × zS} (h : g.2.1 x1 t = some ro) : zM E shC f yX7_readStatement cX7_readStatement 5 (some .int) [.ref (za E 5), .int x1] t ro := hg.2.1 _ _ _ h
theorem z_hgX7_readCases {E : zE} {f : Nat} {g : GgX7_readBlock} (hg : HgX7_readBlock E f g) {x1 : Int32} {t : zS} {ro : Int32 × zS} (h : g.2.2 x1 t = some ro) : zM E shC f yX7_readCases cX7_readCases 5 none [.ref (za E 5), .int x1] t ro := hg.2.2 _ _ _ h
-- SessionHouse$Reader.readBlock(I)I
theorem dX7_readBlock_0 : decode cX7_readBlock 0 = .ok (.aload_n 0, 1) := by decide +kernel
theorem dX7_readBlock_1 : decode cX7_readBlock 1 = .ok (.bipush 123, 2) := by decide +kernel
theorem dX7_readBlock_3 : decode cX7_readBlock 3 = .ok (.invokevirtual 169, 3) := by decide +kernel
theorem dX7_readBlock_6 : decode cX7_readBlock 6 = .ok (.ifCond .ne 5, 3) := by decide +kernel
theorem dX7_readBlock_9 : decode cX7_readBlock 9 = .ok (.iconst (-1), 1) := by decide +kernel
theorem dX7_readBlock_10 : decode cX7_readBlock 10 = .ok (.ireturn, 1) := by decide +kernel
theorem dX7_readBlock_11 : decode cX7_readBlock 11 = .ok (.iconst (-1), 1) := by decide +kernel
theorem dX7_readBlock_12 : decode cX7_readBlock 12 = .ok (.istore_n 2, 1) := by decide +kernel
theorem dX7_readBlock_13 : decode cX7_readBlock 13 = .ok (.iconst (-1), 1) := by decide +kernel
theorem dX7_readBlock_14 : decode cX7_readBlock 14 = .ok (.istore_n 3, 1) := by decide +kernel
theorem dX7_readBlock_15 : decode cX7_readBlock 15 = .ok (.iconst 0, 1) := by decide +kernel
theorem dX7_readBlock_16 : decode cX7_readBlock 16 = .ok (.istore 4, 2) := by decide +kernel
theorem dX7_readBlock_18 : decode cX7_readBlock 18 = .ok (.iload 4, 2) := by decide +kernel
theorem dX7_readBlock_20 : decode cX7_readBlock 20 = .ok (.sipush 3000, 3) := by decide +kernel
theorem dX7_readBlock_23 : decode cX7_readBlock 23 = .ok (.if_icmp .ge 58, 3) := by decide +kernel
theorem dX7_readBlock_26 : decode cX7_readBlock 26 = .ok (.aload_n 0, 1) := by decide +kernel
theorem dX7_readBlock_27 : decode cX7_readBlock 27 = .ok (.getfield 68, 3) := by decide +kernel
theorem dX7_readBlock_30 : decode cX7_readBlock 30 = .ok (.ifCond .ge 51, 3) := by decide +kernel
theorem dX7_readBlock_33 : decode cX7_readBlock 33 = .ok (.aload_n 0, 1) := by decide +kernel
theorem dX7_readBlock_34 : decode cX7_readBlock 34 = .ok (.getfield 80, 3) := by decide +kernel
theorem dX7_readBlock_37 : decode cX7_readBlock 37 = .ok (.bipush 125, 2) := by decide +kernel
theorem dX7_readBlock_39 : decode cX7_readBlock 39 = .ok (.if_icmp .eq 42, 3) := by decide +kernel
theorem dX7_readBlock_42 : decode cX7_readBlock 42 = .ok (.aload_n 0, 1) := by decide +kernel
theorem dX7_readBlock_43 : decode cX7_readBlock 43 = .ok (.iload_n 1, 1) := by decide +kernel
theorem dX7_readBlock_44 : decode cX7_readBlock 44 = .ok (.invokevirtual 203, 3) := by decide +kernel
theorem dX7_readBlock_47 : decode cX7_readBlock 47 = .ok (.istore 5, 2) := by decide +kernel
theorem dX7_readBlock_49 : decode cX7_readBlock 49 = .ok (.iload_n 3, 1) := by decide +kernel
theorem dX7_readBlock_50 : decode cX7_readBlock 50 = .ok (.ifCond .ge 9, 3) := by decide +kernel
theorem dX7_readBlock_53 : decode cX7_readBlock 53 = .ok (.iload 5, 2) := by decide +kernel
theorem dX7_readBlock_55 : decode cX7_readBlock 55 = .ok (.istore_n 2, 1) := by decide +kernel
theorem dX7_readBlock_56 : decode cX7_readBlock 56 = .ok (.goto 16, 3) := by decide +kernel
theorem dX7_readBlock_59 : decode cX7_readBlock 59 = .ok (.aload_n 0, 1) := by decide +kernel
theorem dX7_readBlock_60 : decode cX7_readBlock 60 = .ok (.getfield 38, 3) := by decide +kernel
theorem dX7_readBlock_63 : decode cX7_readBlock 63 = .ok (.getfield 206, 3) := by decide +kernel
theorem dX7_readBlock_66 : decode cX7_readBlock 66 = .ok (.iload_n 3, 1) := by decide +kernel
theorem dX7_readBlock_67 : decode cX7_readBlock 67 = .ok (.iload 5, 2) := by decide +kernel
theorem dX7_readBlock_69 : decode cX7_readBlock 69 = .ok (.invokevirtual 127, 3) := by decide +kernel
theorem dX7_readBlock_72 : decode cX7_readBlock 72 = .ok (.iload 5, 2) := by decide +kernel
theorem dX7_readBlock_74 : decode cX7_readBlock 74 = .ok (.istore_n 3, 1) := by decide +kernel
theorem dX7_readBlock_75 : decode cX7_readBlock 75 = .ok (.iinc 4 1, 3) := by decide +kernel
theorem dX7_readBlock_78 : decode cX7_readBlock 78 = .ok (.goto (-60), 3) := by decide +kernel
theorem dX7_readBlock_81 : decode cX7_readBlock 81 = .ok (.aload_n 0, 1) := by decide +kernel
theorem dX7_readBlock_82 : decode cX7_readBlock 82 = .ok (.bipush 125, 2) := by decide +kernel
theorem dX7_readBlock_84 : decode cX7_readBlock 84 = .ok (.invokevirtual 172, 3) := by decide +kernel
theorem dX7_readBlock_87 : decode cX7_readBlock 87 = .ok (.iload_n 2, 1) := by decide +kernel
theorem dX7_readBlock_88 : decode cX7_readBlock 88 = .ok (.ireturn, 1) := by decide +kernel
def bX7_readBlock_72 (g : GgX7_readBlock) (k18 : Int32 → Int32 → Int32 → Int32 → zS → zR) (x1 : Int32) (x2 : Int32) (x4 : Int32) (x5 : Int32) (t : zS) : zR := zlet (x4 + 1) fun v796 => k18 x1 x2 x5 v796 t
def bX7_readBlock_81 (g : GgX7_readBlock) (x2 : Int32) (t : zS) : zR := zbd (mX7_leave 125 t) fun r797 t798 => some (x2, t798)
def bX7_readBlock_18 (g : GgX7_readBlock) (k18 : Int32 → Int32 → Int32 → Int32 → zS → zR) (x1 : Int32) (x2 : Int32) (x3 : Int32) (x4 : Int32) (t : zS) : zR := if 3000 ≤ x4 then bX7_readBlock_81 g x2 t else if 0 ≤ (t 5 12) then bX7_readBlock_81 g x2 t else if (t 5 9) = 125 then bX7_readBlock_81 g x2 t else zbd (g.2.1 x1 t) fun r800 t801 => if 0 ≤ x3 then zbd (mX5_set 98 1000 x3 r800 t801) fun r803 t804 => bX7_readBlock_72 g k18 x1 x2 x4 r800 t804 else bX7_readBlock_72 g k18 x1 r800 x4 r800 t801
def lX7_readBlock_18 (g : GgX7_readBlock) : Nat → Int32 → Int32 → Int32 → Int32 → zS → zR
  | 0, _, _, _, _, _ => none
  | fu + 1, x1, x2, x3, x4, t => bX7_readBlock_18 g (lX7_readBlock_18 g fu) x1 x2 x3 x4 t
def mX7_readBlock (g : GgX7_readBlock) (x1 : Int32) (t : zS) : zR := zbd (mX7_enter 123 t) fun r806 t807 => if r806 = 0 then some ((-1), t807) else lX7_readBlock_18 g zFU x1 (-1) (-1) 0 t807
set_option maxHeartbeats 4000000 in
set_option maxRecDepth 20000 in
theorem wbX7_readBlock_72 {E : zE} {C : zC} {f : Nat} {ro : Int32 × zS} (hf : 305 ≤ f) {g : GgX7_readBlock} (hg : HgX7_readBlock E (f - 1) g) (k18 : Int32 → Int32 → Int32 → Int32 → zS → zR) (hk18 : ∀ (x1 x2 x3 x4 : Int32) (t : zS), k18 x1 x2 x3 x4 t = some ro → zJ E shC C cX7_readBlock RX7 6 f (some .int) ro t 18 [(0, .ref (za E 5)), (1, .int x1), (2, .int x2), (3, .int x3), (4, .int x4)] []) (x1 : Int32) (x2 : Int32) (x4 : Int32) (x5 : Int32) (t : zS) (hF : bX7_readBlock_72 g k18 x1 x2 x4 x5 t = some ro) : zJ E shC C cX7_readBlock RX7 6 f (some .int) ro t 72 [(0, .ref (za E 5)), (1, .int x1), (2, .int x2), (4, .int x4), (5, .int x5)] [] := by
  unfold bX7_readBlock_72 at hF
  refine z_iload 4 dX7_readBlock_72 rfl ?_
  refine z_istore_n (lv' := [(3, .int x5), (0, .ref (za E 5)), (1, .int x1), (2, .int x2), (4, .int x4), (5, .int x5)]) dX7_readBlock_74 rfl (by decide) rfl ?_
  obtain ⟨v796, ev796⟩ : ∃ y : Int32, y = (x4 + 1) := ⟨_, rfl⟩
  have hF := zlet_at ev796 hF
  refine z_iinc (v := v796) (lv' := [(4, .int v796), (3, .int x5), (0, .ref (za E 5)), (1, .int x1), (2, .int x2), (5, .int x5)]) (k := 4) dX7_readBlock_75 rfl (by rw [ev796]; rfl) (by decide) rfl ?_
  refine z_goto (tgt := 18) dX7_readBlock_78 (by decide) ?_
  refine z_sub [2, 3, 4, 1, 0] rfl ?_
  exact hk18 x1 x2 x5 v796 _ hF
set_option maxHeartbeats 4000000 in
set_option maxRecDepth 20000 in
theorem wbX7_readBlock_81 {E : zE} {C : zC} {f : Nat} {ro : Int32 × zS} (hf : 305 ≤ f) {g : GgX7_readBlock} (hg : HgX7_readBlock E (f - 1) g) (x2 : Int32) (t : zS) (hF : bX7_readBlock_81 g x2 t = some ro) : zJ E shC C cX7_readBlock RX7 6 f (some .int) ro t 81 [(0, .ref (za E 5)), (2, .int x2)] [] := by
  unfold bX7_readBlock_81 at hF
  refine z_aload_n 0 dX7_readBlock_81 rfl rfl ?_
  refine z_bipush (v := 125) dX7_readBlock_82 (by decide) ?_
  obtain ⟨r797, t798, hc799, hF⟩ := zbd_at hF
  refine z_callVv (ctX7_leave (E := E) (f := f - 1) (by omega) hc799) yy_X7_leave yv_X7_leave ob_C_5 lk_RX7_172 (by omega) rfl rfl (Nat.le_of_ble_eq_true rfl) dX7_readBlock_84 ?_
  refine z_iload_n 1 dX7_readBlock_87 rfl rfl ?_
  exact z_iret hF dX7_readBlock_88
set_option maxHeartbeats 4000000 in
set_option maxRecDepth 20000 in
theorem wbX7_readBlock_18 {E : zE} {C : zC} {f : Nat} {ro : Int32 × zS} (hf : 305 ≤ f) {g : GgX7_readBlock} (hg : HgX7_readBlock E (f - 1) g) (k18 : Int32 → Int32 → Int32 → Int32 → zS → zR) (hk18 : ∀ (x1 x2 x3 x4 : Int32) (t : zS), k18 x1 x2 x3 x4 t = some ro → zJ E shC C cX7_readBlock RX7 6 f (some .int) ro t 18 [(0, .ref (za E 5)), (1, .int x1), (2, .int x2), (3, .int x3), (4, .int x4)] []) (x1 : Int32) (x2 : Int32) (x3 : Int32) (x4 : Int32) (t : zS) (hF : bX7_readBlock_18 g k18 x1 x2 x3 x4 t = some ro) : zJ E shC C cX7_readBlock RX7 6 f (some .int) ro t 18 [(0, .ref (za E 5)), (1, .int x1), (2, .int x2), (3, .int x3), (4, .int x4)] [] := by
  unfold bX7_readBlock_18 at hF
  refine z_iload 4 dX7_readBlock_18 rfl ?_
  refine z_sipush (v := 3000) dX7_readBlock_20 (by decide) ?_
  refine z_icmp_ge (tgt := 81) dX7_readBlock_23 (by decide) (fun hc => ?_) (fun hc => ?_)
  · have hF := zif_t hc hF
    refine z_sub [0, 2] rfl ?_
    exact wbX7_readBlock_81 hf hg x2 _ hF
  · have hF := zif_f hc hF
    refine z_aload_n 0 dX7_readBlock_26 rfl rfl ?_
    refine z_geti fi_RX7_68 dX7_readBlock_27 ?_
    refine z_if_ge (tgt := 81) dX7_readBlock_30 (by decide) (fun hc => ?_) (fun hc => ?_)
    · have hF := zif_t hc hF
      refine z_sub [0, 2] rfl ?_
      exact wbX7_readBlock_81 hf hg x2 _ hF
    · have hF := zif_f hc hF
      refine z_aload_n 0 dX7_readBlock_33 rfl rfl ?_
      refine z_geti fi_RX7_80 dX7_readBlock_34 ?_
      refine z_bipush (v := 125) dX7_readBlock_37 (by decide) ?_
      refine z_icmp_eq (tgt := 81) dX7_readBlock_39 (by decide) (fun hc => ?_) (fun hc => ?_)
      · have hF := zif_t hc hF
        refine z_sub [0, 2] rfl ?_
        exact wbX7_readBlock_81 hf hg x2 _ hF
      · have hF := zif_f hc hF
        refine z_aload_n 0 dX7_readBlock_42 rfl rfl ?_
        refine z_iload_n 1 dX7_readBlock_43 rfl rfl ?_
        obtain ⟨r800, t801, hc802, hF⟩ := zbd_at hF
        refine z_callVi (z_hgX7_readStatement hg hc802) yy_X7_readStatement yv_X7_readStatement ob_C_5 lk_RX7_203 (by omega) rfl rfl (Nat.le_of_ble_eq_true rfl) dX7_readBlock_44 ?_
        refine z_istore (lv' := [(5, .int r800), (0, .ref (za E 5)), (1, .int x1), (2, .int x2), (3, .int x3), (4, .int x4)]) dX7_readBlock_47 (by decide) rfl ?_
        refine z_iload_n 4 dX7_readBlock_49 rfl rfl ?_
        refine z_if_ge (tgt := 59) dX7_readBlock_50 (by decide) (fun hc => ?_) (fun hc => ?_)
        · have hF := zif_t hc hF
          refine z_aload_n 1 dX7_readBlock_59 rfl rfl ?_
          refine z_getr fr_RX7_38 dX7_readBlock_60 ?_
          refine z_getr fr_RX7_206 dX7_readBlock_63 ?_
          refine z_iload_n 4 dX7_readBlock_66 rfl rfl ?_
          refine z_iload 0 dX7_readBlock_67 rfl ?_
          obtain ⟨r803, t804, hc805, hF⟩ := zbd_at hF
          refine z_callVv (ctX5_set (E := E) (sh := shC) (f := f - 1) (by omega) (k := 98) (n := 1000) rfl rfl hc805) yy_X5_set yv_X5_set ob_C_98 lk_RX7_127 (by omega) rfl rfl (Nat.le_of_ble_eq_true rfl) dX7_readBlock_69 ?_
          refine z_sub [1, 2, 3, 5, 0] rfl ?_
          exact wbX7_readBlock_72 hf hg k18 hk18 x1 x2 x4 r800 _ hF
        · have hF := zif_f hc hF
          refine z_iload 0 dX7_readBlock_53 rfl ?_
          refine z_istore_n (lv' := [(2, .int r800), (5, .int r800), (0, .ref (za E 5)), (1, .int x1), (3, .int x3), (4, .int x4)]) dX7_readBlock_55 rfl (by decide) rfl ?_
          refine z_goto (tgt := 72) dX7_readBlock_56 (by decide) ?_
          refine z_sub [2, 3, 0, 5, 1] rfl ?_
          exact wbX7_readBlock_72 hf hg k18 hk18 x1 r800 x4 r800 _ hF
set_option maxHeartbeats 4000000 in
set_option maxRecDepth 20000 in
theorem wlX7_readBlock_18 {E : zE} {C : zC} {f : Nat} {ro : Int32 × zS} (hf : 305 ≤ f) {g : GgX7_readBlock} (hg : HgX7_readBlock E (f - 1) g) (fu : Nat) : ∀ (x1 x2 x3 x4 : Int32) (t : zS), lX7_readBlock_18 g fu x1 x2 x3 x4 t = some ro → zJ E shC C cX7_readBlock RX7 6 f (some .int) ro t 18 [(0, .ref (za E 5)), (1, .int x1), (2, .int x2), (3, .int x3), (4, .int x4)] [] := by
  induction fu with
  | zero => intro x1 x2 x3 x4 t hF; cases hF
  | succ fu ih => intro x1 x2 x3 x4 t hF; exact wbX7_readBlock_18 hf hg (lX7_readBlock_18 g fu) ih x1 x2 x3 x4 t hF
set_option maxHeartbeats 4000000 in
set_option maxRecDepth 20000 in
theorem ctX7_readBlock {E : zE} {f : Nat} (hf : 305 ≤ f) {g : GgX7_readBlock} (hg : HgX7_readBlock E (f - 1) g) {x1 : Int32} {t : zS} {ro : Int32 × zS} (hF : mX7_readBlock g x1 t = some ro) : zM E shC f yX7_readBlock cX7_readBlock 6 (some .int) [.ref (za E 5), .int x1] t ro := by
  refine zM_of (by decide) (Nat.le_of_ble_eq_true rfl) (fun C => ?_)
  show zJ E shC C cX7_readBlock RX7 6 f (some .int) ro t 0 [(0, .ref (za E 5)), (1, .int x1)] []
  unfold mX7_readBlock at hF
  refine z_aload_n 0 dX7_readBlock_0 rfl rfl ?_
  refine z_bipush (v := 123) dX7_readBlock_1 (by decide) ?_
  obtain ⟨r806, t807, hc808, hF⟩ := zbd_at hF
  refine z_callVi (ctX7_enter (E := E) (f := f - 1) (by omega) hc808) yy_X7_enter yv_X7_enter ob_C_5 lk_RX7_169 (by omega) rfl rfl (Nat.le_of_ble_eq_true rfl) dX7_readBlock_3 ?_
  refine z_if_ne (tgt := 11) dX7_readBlock_6 (by decide) (fun hc => ?_) (fun hc => ?_)
  · have hF := zif_f hc hF
    refine z_iconst (v := (-1)) dX7_readBlock_11 (by decide) ?_
    refine z_istore_n (lv' := [(2, .int (-1)), (0, .ref (za E 5)), (1, .int x1)]) dX7_readBlock_12 rfl (by decide) rfl ?_
    refine z_iconst (v := (-1)) dX7_readBlock_13 (by decide) ?_
    refine z_istore_n (lv' := [(3, .int (-1)), (2, .int (-1)), (0, .ref (za E 5)), (1, .int x1)]) dX7_readBlock_14 rfl (by decide) rfl ?_
    refine z_iconst (v := 0) dX7_readBlock_15 (by decide) ?_
    refine z_istore (lv' := [(4, .int 0), (3, .int (-1)), (2, .int (-1)), (0, .ref (za E 5)), (1, .int x1)]) dX7_readBlock_16 (by decide) rfl ?_
    refine z_sub [3, 4, 2, 1, 0] rfl ?_
    exact wlX7_readBlock_18 hf hg zFU x1 (-1) (-1) 0 _ hF
  · have hF := zif_t hc hF
    refine z_iconst (v := (-1)) dX7_readBlock_9 (by decide) ?_
    exact z_iret hF dX7_readBlock_10
-- SessionHouse$Reader.readStatement(I)I
theorem dX7_readStatement_0 : decode cX7_readStatement 0 = .ok (.aload_n 0, 1) := by decide +kernel
theorem dX7_readStatement_1 : decode cX7_readStatement 1 = .ok (.getfield 80, 3) := by decide +kernel
theorem dX7_readStatement_4 : decode cX7_readStatement 4 = .ok (.istore_n 2, 1) := by decide +kernel
theorem dX7_readStatement_5 : decode cX7_readStatement 5 = .ok (.iload_n 2, 1) := by decide +kernel
theorem dX7_readStatement_6 : decode cX7_readStatement 6 = .ok (.bipush 17, 2) := by decide +kernel
theorem dX7_readStatement_8 : decode cX7_readStatement 8 = .ok (.if_icmp .eq 26, 3) := by decide +kernel
theorem dX7_readStatement_11 : decode cX7_readStatement 11 = .ok (.iload_n 2, 1) := by decide +kernel
theorem dX7_readStatement_12 : decode cX7_readStatement 12 = .ok (.iconst 2, 1) := by decide +kernel
theorem dX7_readStatement_13 : decode cX7_readStatement 13 = .ok (.if_icmp .lt 15, 3) := by decide +kernel
theorem dX7_readStatement_16 : decode cX7_readStatement 16 = .ok (.iload_n 2, 1) := by decide +kernel
theorem dX7_readStatement_17 : decode cX7_readStatement 17 = .ok (.bipush 14, 2) := by decide +kernel
theorem dX7_readStatement_19 : decode cX7_readStatement 19 = .ok (.if_icmp .gt 9, 3) := by decide +kernel
theorem dX7_readStatement_22 : decode cX7_readStatement 22 = .ok (.iload_n 2, 1) := by decide +kernel
theorem dX7_readStatement_23 : decode cX7_readStatement 23 = .ok (.bipush 11, 2) := by decide +kernel
theorem dX7_readStatement_25 : decode cX7_readStatement 25 = .ok (.if_icmp .ne 9, 3) := by decide +kernel
theorem dX7_readStatement_28 : decode cX7_readStatement 28 = .ok (.aload_n 0, 1) := by decide +kernel
theorem dX7_readStatement_29 : decode cX7_readStatement 29 = .ok (.invokevirtual 89, 3) := by decide +kernel
theorem dX7_readStatement_32 : decode cX7_readStatement 32 = .ok (.iconst (-1), 1) := by decide +kernel
theorem dX7_readStatement_33 : decode cX7_readStatement 33 = .ok (.ireturn, 1) := by decide +kernel
theorem dX7_readStatement_34 : decode cX7_readStatement 34 = .ok (.aload_n 0, 1) := by decide +kernel
theorem dX7_readStatement_35 : decode cX7_readStatement 35 = .ok (.getfield 38, 3) := by decide +kernel
theorem dX7_readStatement_38 : decode cX7_readStatement 38 = .ok (.iload_n 2, 1) := by decide +kernel
theorem dX7_readStatement_39 : decode cX7_readStatement 39 = .ok (.aload_n 0, 1) := by decide +kernel
theorem dX7_readStatement_40 : decode cX7_readStatement 40 = .ok (.getfield 118, 3) := by decide +kernel
theorem dX7_readStatement_43 : decode cX7_readStatement 43 = .ok (.iload_n 1, 1) := by decide +kernel
theorem dX7_readStatement_44 : decode cX7_readStatement 44 = .ok (.invokevirtual 209, 3) := by decide +kernel
theorem dX7_readStatement_47 : decode cX7_readStatement 47 = .ok (.istore_n 3, 1) := by decide +kernel
theorem dX7_readStatement_48 : decode cX7_readStatement 48 = .ok (.iload_n 2, 1) := by decide +kernel
theorem dX7_readStatement_49 : decode cX7_readStatement 49 = .ok (.bipush 17, 2) := by decide +kernel
theorem dX7_readStatement_51 : decode cX7_readStatement 51 = .ok (.if_icmp .eq 7, 3) := by decide +kernel
theorem dX7_readStatement_54 : decode cX7_readStatement 54 = .ok (.aload_n 0, 1) := by decide +kernel
theorem dX7_readStatement_55 : decode cX7_readStatement 55 = .ok (.invokevirtual 77, 3) := by decide +kernel
theorem dX7_readStatement_58 : decode cX7_readStatement 58 = .ok (.iload_n 2, 1) := by decide +kernel
theorem dX7_readStatement_59 : decode cX7_readStatement 59 = .ok (.tableswitch 131 7 12 #[46, 37, 37, 59, 131, 107], 37) := by decide +kernel
theorem dX7_readStatement_96 : decode cX7_readStatement 96 = .ok (.aload_n 0, 1) := by decide +kernel
theorem dX7_readStatement_97 : decode cX7_readStatement 97 = .ok (.iload_n 3, 1) := by decide +kernel
theorem dX7_readStatement_98 : decode cX7_readStatement 98 = .ok (.iload_n 2, 1) := by decide +kernel
theorem dX7_readStatement_99 : decode cX7_readStatement 99 = .ok (.invokevirtual 213, 3) := by decide +kernel
theorem dX7_readStatement_102 : decode cX7_readStatement 102 = .ok (.goto 122, 3) := by decide +kernel
theorem dX7_readStatement_105 : decode cX7_readStatement 105 = .ok (.aload_n 0, 1) := by decide +kernel
theorem dX7_readStatement_106 : decode cX7_readStatement 106 = .ok (.iload_n 3, 1) := by decide +kernel
theorem dX7_readStatement_107 : decode cX7_readStatement 107 = .ok (.invokevirtual 216, 3) := by decide +kernel
theorem dX7_readStatement_110 : decode cX7_readStatement 110 = .ok (.aload_n 0, 1) := by decide +kernel
theorem dX7_readStatement_111 : decode cX7_readStatement 111 = .ok (.iload_n 3, 1) := by decide +kernel
theorem dX7_readStatement_112 : decode cX7_readStatement 112 = .ok (.invokevirtual 219, 3) := by decide +kernel
theorem dX7_readStatement_115 : decode cX7_readStatement 115 = .ok (.goto 109, 3) := by decide +kernel
theorem dX7_readStatement_118 : decode cX7_readStatement 118 = .ok (.aload_n 0, 1) := by decide +kernel
theorem dX7_readStatement_119 : decode cX7_readStatement 119 = .ok (.iload_n 3, 1) := by decide +kernel
theorem dX7_readStatement_120 : decode cX7_readStatement 120 = .ok (.invokevirtual 222, 3) := by decide +kernel
theorem dX7_readStatement_123 : decode cX7_readStatement 123 = .ok (.aload_n 0, 1) := by decide +kernel
theorem dX7_readStatement_124 : decode cX7_readStatement 124 = .ok (.getfield 38, 3) := by decide +kernel
theorem dX7_readStatement_127 : decode cX7_readStatement 127 = .ok (.iload_n 3, 1) := by decide +kernel
theorem dX7_readStatement_128 : decode cX7_readStatement 128 = .ok (.iconst (-1), 1) := by decide +kernel
theorem dX7_readStatement_129 : decode cX7_readStatement 129 = .ok (.iconst (-1), 1) := by decide +kernel
theorem dX7_readStatement_130 : decode cX7_readStatement 130 = .ok (.aload_n 0, 1) := by decide +kernel
theorem dX7_readStatement_131 : decode cX7_readStatement 131 = .ok (.iload_n 3, 1) := by decide +kernel
theorem dX7_readStatement_132 : decode cX7_readStatement 132 = .ok (.invokevirtual 188, 3) := by decide +kernel
theorem dX7_readStatement_135 : decode cX7_readStatement 135 = .ok (.invokevirtual 225, 3) := by decide +kernel
theorem dX7_readStatement_138 : decode cX7_readStatement 138 = .ok (.istore 4, 2) := by decide +kernel
theorem dX7_readStatement_140 : decode cX7_readStatement 140 = .ok (.aload_n 0, 1) := by decide +kernel
theorem dX7_readStatement_141 : decode cX7_readStatement 141 = .ok (.bipush 11, 2) := by decide +kernel
theorem dX7_readStatement_143 : decode cX7_readStatement 143 = .ok (.invokevirtual 135, 3) := by decide +kernel
theorem dX7_readStatement_146 : decode cX7_readStatement 146 = .ok (.aload_n 0, 1) := by decide +kernel
theorem dX7_readStatement_147 : decode cX7_readStatement 147 = .ok (.getfield 38, 3) := by decide +kernel
theorem dX7_readStatement_150 : decode cX7_readStatement 150 = .ok (.iload_n 3, 1) := by decide +kernel
theorem dX7_readStatement_151 : decode cX7_readStatement 151 = .ok (.iload 4, 2) := by decide +kernel
theorem dX7_readStatement_153 : decode cX7_readStatement 153 = .ok (.iconst (-1), 1) := by decide +kernel
theorem dX7_readStatement_154 : decode cX7_readStatement 154 = .ok (.aload_n 0, 1) := by decide +kernel
theorem dX7_readStatement_155 : decode cX7_readStatement 155 = .ok (.iload_n 3, 1) := by decide +kernel
theorem dX7_readStatement_156 : decode cX7_readStatement 156 = .ok (.invokevirtual 188, 3) := by decide +kernel
theorem dX7_readStatement_159 : decode cX7_readStatement 159 = .ok (.invokevirtual 225, 3) := by decide +kernel
theorem dX7_readStatement_162 : decode cX7_readStatement 162 = .ok (.pop, 1) := by decide +kernel
theorem dX7_readStatement_163 : decode cX7_readStatement 163 = .ok (.goto 61, 3) := by decide +kernel
theorem dX7_readStatement_166 : decode cX7_readStatement 166 = .ok (.aload_n 0, 1) := by decide +kernel
theorem dX7_readStatement_167 : decode cX7_readStatement 167 = .ok (.iload_n 3, 1) := by decide +kernel
theorem dX7_readStatement_168 : decode cX7_readStatement 168 = .ok (.invokevirtual 222, 3) := by decide +kernel
theorem dX7_readStatement_171 : decode cX7_readStatement 171 = .ok (.aload_n 0, 1) := by decide +kernel
theorem dX7_readStatement_172 : decode cX7_readStatement 172 = .ok (.getfield 38, 3) := by decide +kernel
theorem dX7_readStatement_175 : decode cX7_readStatement 175 = .ok (.iload_n 3, 1) := by decide +kernel
theorem dX7_readStatement_176 : decode cX7_readStatement 176 = .ok (.iconst (-1), 1) := by decide +kernel
theorem dX7_readStatement_177 : decode cX7_readStatement 177 = .ok (.iconst (-1), 1) := by decide +kernel
theorem dX7_readStatement_178 : decode cX7_readStatement 178 = .ok (.aload_n 0, 1) := by decide +kernel
theorem dX7_readStatement_179 : decode cX7_readStatement 179 = .ok (.iload_n 3, 1) := by decide +kernel
theorem dX7_readStatement_180 : decode cX7_readStatement 180 = .ok (.invokevirtual 188, 3) := by decide +kernel
theorem dX7_readStatement_183 : decode cX7_readStatement 183 = .ok (.invokevirtual 225, 3) := by decide +kernel
theorem dX7_readStatement_186 : decode cX7_readStatement 186 = .ok (.pop, 1) := by decide +kernel
theorem dX7_readStatement_187 : decode cX7_readStatement 187 = .ok (.goto 37, 3) := by decide +kernel
theorem dX7_readStatement_190 : decode cX7_readStatement 190 = .ok (.aload_n 0, 1) := by decide +kernel
theorem dX7_readStatement_191 : decode cX7_readStatement 191 = .ok (.iload_n 3, 1) := by decide +kernel
theorem dX7_readStatement_192 : decode cX7_readStatement 192 = .ok (.iload_n 2, 1) := by decide +kernel
theorem dX7_readStatement_193 : decode cX7_readStatement 193 = .ok (.invokevirtual 228, 3) := by decide +kernel
theorem dX7_readStatement_196 : decode cX7_readStatement 196 = .ok (.iload_n 2, 1) := by decide +kernel
theorem dX7_readStatement_197 : decode cX7_readStatement 197 = .ok (.bipush 17, 2) := by decide +kernel
theorem dX7_readStatement_199 : decode cX7_readStatement 199 = .ok (.if_icmp .eq 14, 3) := by decide +kernel
theorem dX7_readStatement_202 : decode cX7_readStatement 202 = .ok (.iload_n 2, 1) := by decide +kernel
theorem dX7_readStatement_203 : decode cX7_readStatement 203 = .ok (.iconst 2, 1) := by decide +kernel
theorem dX7_readStatement_204 : decode cX7_readStatement 204 = .ok (.if_icmp .eq 9, 3) := by decide +kernel
theorem dX7_readStatement_207 : decode cX7_readStatement 207 = .ok (.iload_n 2, 1) := by decide +kernel
theorem dX7_readStatement_208 : decode cX7_readStatement 208 = .ok (.bipush 13, 2) := by decide +kernel
theorem dX7_readStatement_210 : decode cX7_readStatement 210 = .ok (.if_icmp .ne 8, 3) := by decide +kernel
theorem dX7_readStatement_213 : decode cX7_readStatement 213 = .ok (.aload_n 0, 1) := by decide +kernel
theorem dX7_readStatement_214 : decode cX7_readStatement 214 = .ok (.iload_n 3, 1) := by decide +kernel
theorem dX7_readStatement_215 : decode cX7_readStatement 215 = .ok (.invokevirtual 222, 3) := by decide +kernel
theorem dX7_readStatement_218 : decode cX7_readStatement 218 = .ok (.aload_n 0, 1) := by decide +kernel
theorem dX7_readStatement_219 : decode cX7_readStatement 219 = .ok (.bipush 59, 2) := by decide +kernel
theorem dX7_readStatement_221 : decode cX7_readStatement 221 = .ok (.invokevirtual 135, 3) := by decide +kernel
theorem dX7_readStatement_224 : decode cX7_readStatement 224 = .ok (.iload_n 3, 1) := by decide +kernel
theorem dX7_readStatement_225 : decode cX7_readStatement 225 = .ok (.ireturn, 1) := by decide +kernel
def bX7_readStatement_28 (g : GgX7_readBlock) (t : zS) : zR := zbd (mX7_refuse  t) fun r809 t810 => some ((-1), t810)
def bX7_readStatement_218 (g : GgX7_readBlock) (x3 : Int32) (t : zS) : zR := zbd (mX7_expect 59 t) fun r812 t813 => some (x3, t813)
def bX7_readStatement_213 (g : GgX7_readBlock) (x3 : Int32) (t : zS) : zR := zbd (mX7_readFormula x3 t) fun r815 t816 => bX7_readStatement_218 g x3 t816
def bX7_readStatement_58 (g : GgX7_readBlock) (x2 : Int32) (x3 : Int32) (t : zS) : zR := if x2 = 7 then zbd (mX7_readSlot x3 t) fun r818 t819 => zbd (g.2.2 x3 t819) fun r821 t822 => some (x3, t822) else if x2 = 8 then zbd (mX7_readCall x3 x2 t) fun r825 t826 => some (x3, t826) else if x2 = 9 then zbd (mX7_readCall x3 x2 t) fun r829 t830 => some (x3, t830) else if x2 = 10 then zbd (mX7_readFormula x3 t) fun r833 t834 => zbd (g.1 x3 t834) fun r836 t837 => zbd (mX9_addBranch x3 (-1) (-1) r836 t837) fun r839 t840 => zbd (mX7_expect 11 t840) fun r842 t843 => zbd (g.1 x3 t843) fun r845 t846 => zbd (mX9_addBranch x3 r839 (-1) r845 t846) fun r848 t849 => some (x3, t849) else if x2 = 11 then zbd (mX7_readNames x3 x2 t) fun r852 t853 => if x2 = 17 then bX7_readStatement_213 g x3 t853 else if x2 = 2 then bX7_readStatement_213 g x3 t853 else if x2 = 13 then bX7_readStatement_213 g x3 t853 else bX7_readStatement_218 g x3 t853 else if x2 = 12 then zbd (mX7_readFormula x3 t) fun r856 t857 => zbd (g.1 x3 t857) fun r859 t860 => zbd (mX9_addBranch x3 (-1) (-1) r859 t860) fun r862 t863 => some (x3, t863) else zbd (mX7_readNames x3 x2 t) fun r866 t867 => if x2 = 17 then bX7_readStatement_213 g x3 t867 else if x2 = 2 then bX7_readStatement_213 g x3 t867 else if x2 = 13 then bX7_readStatement_213 g x3 t867 else bX7_readStatement_218 g x3 t867
def bX7_readStatement_34 (g : GgX7_readBlock) (x1 : Int32) (x2 : Int32) (t : zS) : zR := zbd (mX9_add x2 (t 5 10) x1 t) fun r869 t870 => if x2 = 17 then bX7_readStatement_58 g x2 r869 t870 else zbd (mX7_step  t870) fun r872 t873 => bX7_readStatement_58 g x2 r869 t873
def mX7_readStatement (g : GgX7_readBlock) (x1 : Int32) (t : zS) : zR := zlet (t 5 9) fun v875 => if v875 = 17 then bX7_readStatement_34 g x1 v875 t else if v875 < 2 then bX7_readStatement_28 g  t else if 14 < v875 then bX7_readStatement_28 g  t else if v875 = 11 then bX7_readStatement_28 g  t else bX7_readStatement_34 g x1 v875 t
set_option maxHeartbeats 4000000 in
set_option maxRecDepth 20000 in
theorem wbX7_readStatement_28 {E : zE} {C : zC} {f : Nat} {ro : Int32 × zS} (hf : 305 ≤ f) {g : GgX7_readBlock} (hg : HgX7_readBlock E (f - 1) g) (t : zS) (hF : bX7_readStatement_28 g  t = some ro) : zJ E shC C cX7_readStatement RX7 5 f (some .int) ro t 28 [(0, .ref (za E 5))] [] := by
  unfold bX7_readStatement_28 at hF
  refine z_aload_n 0 dX7_readStatement_28 rfl rfl ?_
  obtain ⟨r809, t810, hc811, hF⟩ := zbd_at hF
  refine z_callVv (ctX7_refuse (E := E) (f := f - 1) (by omega) hc811) yy_X7_refuse yv_X7_refuse ob_C_5 lk_RX7_89 (by omega) rfl rfl (Nat.le_of_ble_eq_true rfl) dX7_readStatement_29 ?_
  refine z_iconst (v := (-1)) dX7_readStatement_32 (by decide) ?_
  exact z_iret hF dX7_readStatement_33
set_option maxHeartbeats 4000000 in
set_option maxRecDepth 20000 in
theorem wbX7_readStatement_218 {E : zE} {C : zC} {f : Nat} {ro : Int32 × zS} (hf : 305 ≤ f) {g : GgX7_readBlock} (hg : HgX7_readBlock E (f - 1) g) (x3 : Int32) (t : zS) (hF : bX7_readStatement_218 g x3 t = some ro) : zJ E shC C cX7_readStatement RX7 5 f (some .int) ro t 218 [(0, .ref (za E 5)), (3, .int x3)] [] := by
  unfold bX7_readStatement_218 at hF
  refine z_aload_n 0 dX7_readStatement_218 rfl rfl ?_
  refine z_bipush (v := 59) dX7_readStatement_219 (by decide) ?_
  obtain ⟨r812, t813, hc814, hF⟩ := zbd_at hF
  refine z_callVv (ctX7_expect (E := E) (f := f - 1) (by omega) hc814) yy_X7_expect yv_X7_expect ob_C_5 lk_RX7_135 (by omega) rfl rfl (Nat.le_of_ble_eq_true rfl) dX7_readStatement_221 ?_
  refine z_iload_n 1 dX7_readStatement_224 rfl rfl ?_
  exact z_iret hF dX7_readStatement_225
set_option maxHeartbeats 4000000 in
set_option maxRecDepth 20000 in
theorem wbX7_readStatement_213 {E : zE} {C : zC} {f : Nat} {ro : Int32 × zS} (hf : 305 ≤ f) {g : GgX7_readBlock} (hg : HgX7_readBlock E (f - 1) g) (x3 : Int32) (t : zS) (hF : bX7_readStatement_213 g x3 t = some ro) : zJ E shC C cX7_readStatement RX7 5 f (some .int) ro t 213 [(0, .ref (za E 5)), (3, .int x3)] [] := by
  unfold bX7_readStatement_213 at hF
  refine z_aload_n 0 dX7_readStatement_213 rfl rfl ?_
  refine z_iload_n 1 dX7_readStatement_214 rfl rfl ?_
  obtain ⟨r815, t816, hc817, hF⟩ := zbd_at hF
  refine z_callVv (ctX7_readFormula (E := E) (f := f - 1) (by omega) hc817) yy_X7_readFormula yv_X7_readFormula ob_C_5 lk_RX7_222 (by omega) rfl rfl (Nat.le_of_ble_eq_true rfl) dX7_readStatement_215 ?_
  exact wbX7_readStatement_218 hf hg x3 _ hF
set_option maxHeartbeats 4000000 in
set_option maxRecDepth 20000 in
theorem wbX7_readStatement_58 {E : zE} {C : zC} {f : Nat} {ro : Int32 × zS} (hf : 305 ≤ f) {g : GgX7_readBlock} (hg : HgX7_readBlock E (f - 1) g) (x2 : Int32) (x3 : Int32) (t : zS) (hF : bX7_readStatement_58 g x2 x3 t = some ro) : zJ E shC C cX7_readStatement RX7 5 f (some .int) ro t 58 [(0, .ref (za E 5)), (2, .int x2), (3, .int x3)] [] := by
  unfold bX7_readStatement_58 at hF
  refine z_iload_n 1 dX7_readStatement_58 rfl rfl ?_
  by_cases hc : x2 = 7
  · have hF := zif_t hc hF
    refine z_tabIn (tgt := 105) dX7_readStatement_59 (by rw [hc]; decide) (by rw [hc]; decide) (by rw [hc]; rfl) (by decide) ?_
    refine z_aload_n 0 dX7_readStatement_105 rfl rfl ?_
    refine z_iload_n 2 dX7_readStatement_106 rfl rfl ?_
    obtain ⟨r818, t819, hc820, hF⟩ := zbd_at hF
    refine z_callVv (ctX7_readSlot (E := E) (f := f - 1) (by omega) hc820) yy_X7_readSlot yv_X7_readSlot ob_C_5 lk_RX7_216 (by omega) rfl rfl (Nat.le_of_ble_eq_true rfl) dX7_readStatement_107 ?_
    refine z_aload_n 0 dX7_readStatement_110 rfl rfl ?_
    refine z_iload_n 2 dX7_readStatement_111 rfl rfl ?_
    obtain ⟨r821, t822, hc823, hF⟩ := zbd_at hF
    refine z_callVv (z_hgX7_readCases hg hc823) yy_X7_readCases yv_X7_readCases ob_C_5 lk_RX7_219 (by omega) rfl rfl (Nat.le_of_ble_eq_true rfl) dX7_readStatement_112 ?_
    refine z_goto (tgt := 224) dX7_readStatement_115 (by decide) ?_
    refine z_iload_n 2 dX7_readStatement_224 rfl rfl ?_
    exact z_iret hF dX7_readStatement_225
  have hF := zif_f hc hF
  have hn824 := hc; clear hc
  by_cases hc : x2 = 8
  · have hF := zif_t hc hF
    refine z_tabIn (tgt := 96) dX7_readStatement_59 (by rw [hc]; decide) (by rw [hc]; decide) (by rw [hc]; rfl) (by decide) ?_
    refine z_aload_n 0 dX7_readStatement_96 rfl rfl ?_
    refine z_iload_n 2 dX7_readStatement_97 rfl rfl ?_
    refine z_iload_n 1 dX7_readStatement_98 rfl rfl ?_
    obtain ⟨r825, t826, hc827, hF⟩ := zbd_at hF
    refine z_callVv (ctX7_readCall (E := E) (f := f - 1) (by omega) hc827) yy_X7_readCall yv_X7_readCall ob_C_5 lk_RX7_213 (by omega) rfl rfl (Nat.le_of_ble_eq_true rfl) dX7_readStatement_99 ?_
    refine z_goto (tgt := 224) dX7_readStatement_102 (by decide) ?_
    refine z_iload_n 2 dX7_readStatement_224 rfl rfl ?_
    exact z_iret hF dX7_readStatement_225
  have hF := zif_f hc hF
  have hn828 := hc; clear hc
  by_cases hc : x2 = 9
  · have hF := zif_t hc hF
    refine z_tabIn (tgt := 96) dX7_readStatement_59 (by rw [hc]; decide) (by rw [hc]; decide) (by rw [hc]; rfl) (by decide) ?_
    refine z_aload_n 0 dX7_readStatement_96 rfl rfl ?_
    refine z_iload_n 2 dX7_readStatement_97 rfl rfl ?_
    refine z_iload_n 1 dX7_readStatement_98 rfl rfl ?_
    obtain ⟨r829, t830, hc831, hF⟩ := zbd_at hF
    refine z_callVv (ctX7_readCall (E := E) (f := f - 1) (by omega) hc831) yy_X7_readCall yv_X7_readCall ob_C_5 lk_RX7_213 (by omega) rfl rfl (Nat.le_of_ble_eq_true rfl) dX7_readStatement_99 ?_
    refine z_goto (tgt := 224) dX7_readStatement_102 (by decide) ?_
    refine z_iload_n 2 dX7_readStatement_224 rfl rfl ?_
    exact z_iret hF dX7_readStatement_225
  have hF := zif_f hc hF
  have hn832 := hc; clear hc
  by_cases hc : x2 = 10
  · have hF := zif_t hc hF
    refine z_tabIn (tgt := 118) dX7_readStatement_59 (by rw [hc]; decide) (by rw [hc]; decide) (by rw [hc]; rfl) (by decide) ?_
    refine z_aload_n 0 dX7_readStatement_118 rfl rfl ?_
    refine z_iload_n 2 dX7_readStatement_119 rfl rfl ?_
    obtain ⟨r833, t834, hc835, hF⟩ := zbd_at hF
    refine z_callVv (ctX7_readFormula (E := E) (f := f - 1) (by omega) hc835) yy_X7_readFormula yv_X7_readFormula ob_C_5 lk_RX7_222 (by omega) rfl rfl (Nat.le_of_ble_eq_true rfl) dX7_readStatement_120 ?_
    refine z_aload_n 0 dX7_readStatement_123 rfl rfl ?_
    refine z_getr fr_RX7_38 dX7_readStatement_124 ?_
    refine z_iload_n 2 dX7_readStatement_127 rfl rfl ?_
    refine z_iconst (v := (-1)) dX7_readStatement_128 (by decide) ?_
    refine z_iconst (v := (-1)) dX7_readStatement_129 (by decide) ?_
    refine z_aload_n 0 dX7_readStatement_130 rfl rfl ?_
    refine z_iload_n 2 dX7_readStatement_131 rfl rfl ?_
    obtain ⟨r836, t837, hc838, hF⟩ := zbd_at hF
    refine z_callVi (z_hgX7_readBlock hg hc838) yy_X7_readBlock yv_X7_readBlock ob_C_5 lk_RX7_188 (by omega) rfl rfl (Nat.le_of_ble_eq_true rfl) dX7_readStatement_132 ?_
    obtain ⟨r839, t840, hc841, hF⟩ := zbd_at hF
    refine z_callVi (ctX9_addBranch (E := E) (f := f - 1) (by omega) hc841) yy_X9_addBranch yv_X9_addBranch ob_C_52 lk_RX7_225 (by omega) rfl rfl (Nat.le_of_ble_eq_true rfl) dX7_readStatement_135 ?_
    refine z_istore (lv' := [(4, .int r839), (0, .ref (za E 5)), (2, .int x2), (3, .int x3)]) dX7_readStatement_138 (by decide) rfl ?_
    refine z_aload_n 1 dX7_readStatement_140 rfl rfl ?_
    refine z_bipush (v := 11) dX7_readStatement_141 (by decide) ?_
    obtain ⟨r842, t843, hc844, hF⟩ := zbd_at hF
    refine z_callVv (ctX7_expect (E := E) (f := f - 1) (by omega) hc844) yy_X7_expect yv_X7_expect ob_C_5 lk_RX7_135 (by omega) rfl rfl (Nat.le_of_ble_eq_true rfl) dX7_readStatement_143 ?_
    refine z_aload_n 1 dX7_readStatement_146 rfl rfl ?_
    refine z_getr fr_RX7_38 dX7_readStatement_147 ?_
    refine z_iload_n 3 dX7_readStatement_150 rfl rfl ?_
    refine z_iload 0 dX7_readStatement_151 rfl ?_
    refine z_iconst (v := (-1)) dX7_readStatement_153 (by decide) ?_
    refine z_aload_n 1 dX7_readStatement_154 rfl rfl ?_
    refine z_iload_n 3 dX7_readStatement_155 rfl rfl ?_
    obtain ⟨r845, t846, hc847, hF⟩ := zbd_at hF
    refine z_callVi (z_hgX7_readBlock hg hc847) yy_X7_readBlock yv_X7_readBlock ob_C_5 lk_RX7_188 (by omega) rfl rfl (Nat.le_of_ble_eq_true rfl) dX7_readStatement_156 ?_
    obtain ⟨r848, t849, hc850, hF⟩ := zbd_at hF
    refine z_callVi (ctX9_addBranch (E := E) (f := f - 1) (by omega) hc850) yy_X9_addBranch yv_X9_addBranch ob_C_52 lk_RX7_225 (by omega) rfl rfl (Nat.le_of_ble_eq_true rfl) dX7_readStatement_159 ?_
    refine z_pop dX7_readStatement_162 rfl ?_
    refine z_goto (tgt := 224) dX7_readStatement_163 (by decide) ?_
    refine z_iload_n 3 dX7_readStatement_224 rfl rfl ?_
    exact z_iret hF dX7_readStatement_225
  have hF := zif_f hc hF
  have hn851 := hc; clear hc
  by_cases hc : x2 = 11
  · have hF := zif_t hc hF
    refine z_tabIn (tgt := 190) dX7_readStatement_59 (by rw [hc]; decide) (by rw [hc]; decide) (by rw [hc]; rfl) (by decide) ?_
    refine z_aload_n 0 dX7_readStatement_190 rfl rfl ?_
    refine z_iload_n 2 dX7_readStatement_191 rfl rfl ?_
    refine z_iload_n 1 dX7_readStatement_192 rfl rfl ?_
    obtain ⟨r852, t853, hc854, hF⟩ := zbd_at hF
    refine z_callVv (ctX7_readNames (E := E) (f := f - 1) (by omega) hc854) yy_X7_readNames yv_X7_readNames ob_C_5 lk_RX7_228 (by omega) rfl rfl (Nat.le_of_ble_eq_true rfl) dX7_readStatement_193 ?_
    refine z_iload_n 1 dX7_readStatement_196 rfl rfl ?_
    refine z_bipush (v := 17) dX7_readStatement_197 (by decide) ?_
    refine z_icmp_eq (tgt := 213) dX7_readStatement_199 (by decide) (fun hc => ?_) (fun hc => ?_)
    · have hF := zif_t hc hF
      refine z_sub [0, 2] rfl ?_
      exact wbX7_readStatement_213 hf hg x3 _ hF
    · have hF := zif_f hc hF
      refine z_iload_n 1 dX7_readStatement_202 rfl rfl ?_
      refine z_iconst (v := 2) dX7_readStatement_203 (by decide) ?_
      refine z_icmp_eq (tgt := 213) dX7_readStatement_204 (by decide) (fun hc => ?_) (fun hc => ?_)
      · have hF := zif_t hc hF
        refine z_sub [0, 2] rfl ?_
        exact wbX7_readStatement_213 hf hg x3 _ hF
      · have hF := zif_f hc hF
        refine z_iload_n 1 dX7_readStatement_207 rfl rfl ?_
        refine z_bipush (v := 13) dX7_readStatement_208 (by decide) ?_
        refine z_icmp_ne (tgt := 218) dX7_readStatement_210 (by decide) (fun hc => ?_) (fun hc => ?_)
        · have hF := zif_f hc hF
          refine z_sub [0, 2] rfl ?_
          exact wbX7_readStatement_218 hf hg x3 _ hF
        · have hF := zif_t hc hF
          refine z_sub [0, 2] rfl ?_
          exact wbX7_readStatement_213 hf hg x3 _ hF
  have hF := zif_f hc hF
  have hn855 := hc; clear hc
  by_cases hc : x2 = 12
  · have hF := zif_t hc hF
    refine z_tabIn (tgt := 166) dX7_readStatement_59 (by rw [hc]; decide) (by rw [hc]; decide) (by rw [hc]; rfl) (by decide) ?_
    refine z_aload_n 0 dX7_readStatement_166 rfl rfl ?_
    refine z_iload_n 2 dX7_readStatement_167 rfl rfl ?_
    obtain ⟨r856, t857, hc858, hF⟩ := zbd_at hF
    refine z_callVv (ctX7_readFormula (E := E) (f := f - 1) (by omega) hc858) yy_X7_readFormula yv_X7_readFormula ob_C_5 lk_RX7_222 (by omega) rfl rfl (Nat.le_of_ble_eq_true rfl) dX7_readStatement_168 ?_
    refine z_aload_n 0 dX7_readStatement_171 rfl rfl ?_
    refine z_getr fr_RX7_38 dX7_readStatement_172 ?_
    refine z_iload_n 2 dX7_readStatement_175 rfl rfl ?_
    refine z_iconst (v := (-1)) dX7_readStatement_176 (by decide) ?_
    refine z_iconst (v := (-1)) dX7_readStatement_177 (by decide) ?_
    refine z_aload_n 0 dX7_readStatement_178 rfl rfl ?_
    refine z_iload_n 2 dX7_readStatement_179 rfl rfl ?_
    obtain ⟨r859, t860, hc861, hF⟩ := zbd_at hF
    refine z_callVi (z_hgX7_readBlock hg hc861) yy_X7_readBlock yv_X7_readBlock ob_C_5 lk_RX7_188 (by omega) rfl rfl (Nat.le_of_ble_eq_true rfl) dX7_readStatement_180 ?_
    obtain ⟨r862, t863, hc864, hF⟩ := zbd_at hF
    refine z_callVi (ctX9_addBranch (E := E) (f := f - 1) (by omega) hc864) yy_X9_addBranch yv_X9_addBranch ob_C_52 lk_RX7_225 (by omega) rfl rfl (Nat.le_of_ble_eq_true rfl) dX7_readStatement_183 ?_
    refine z_pop dX7_readStatement_186 rfl ?_
    refine z_goto (tgt := 224) dX7_readStatement_187 (by decide) ?_
    refine z_iload_n 2 dX7_readStatement_224 rfl rfl ?_
    exact z_iret hF dX7_readStatement_225
  have hF := zif_f hc hF
  have hn865 := hc; clear hc
  have hO : (x2).toInt < 7 ∨ 12 < (x2).toInt := by
    have qhn824 := lv_neT (a := 7) hn824 (by decide)
    have qhn828 := lv_neT (a := 8) hn828 (by decide)
    have qhn832 := lv_neT (a := 9) hn832 (by decide)
    have qhn851 := lv_neT (a := 10) hn851 (by decide)
    have qhn855 := lv_neT (a := 11) hn855 (by decide)
    have qhn865 := lv_neT (a := 12) hn865 (by decide)
    omega
  refine z_tabOut (tgt := 190) dX7_readStatement_59 hO (by decide) ?_
  refine z_aload_n 0 dX7_readStatement_190 rfl rfl ?_
  refine z_iload_n 2 dX7_readStatement_191 rfl rfl ?_
  refine z_iload_n 1 dX7_readStatement_192 rfl rfl ?_
  obtain ⟨r866, t867, hc868, hF⟩ := zbd_at hF
  refine z_callVv (ctX7_readNames (E := E) (f := f - 1) (by omega) hc868) yy_X7_readNames yv_X7_readNames ob_C_5 lk_RX7_228 (by omega) rfl rfl (Nat.le_of_ble_eq_true rfl) dX7_readStatement_193 ?_
  refine z_iload_n 1 dX7_readStatement_196 rfl rfl ?_
  refine z_bipush (v := 17) dX7_readStatement_197 (by decide) ?_
  refine z_icmp_eq (tgt := 213) dX7_readStatement_199 (by decide) (fun hc => ?_) (fun hc => ?_)
  · have hF := zif_t hc hF
    refine z_sub [0, 2] rfl ?_
    exact wbX7_readStatement_213 hf hg x3 _ hF
  · have hF := zif_f hc hF
    refine z_iload_n 1 dX7_readStatement_202 rfl rfl ?_
    refine z_iconst (v := 2) dX7_readStatement_203 (by decide) ?_
    refine z_icmp_eq (tgt := 213) dX7_readStatement_204 (by decide) (fun hc => ?_) (fun hc => ?_)
    · have hF := zif_t hc hF
      refine z_sub [0, 2] rfl ?_
      exact wbX7_readStatement_213 hf hg x3 _ hF
    · have hF := zif_f hc hF
      refine z_iload_n 1 dX7_readStatement_207 rfl rfl ?_
      refine z_bipush (v := 13) dX7_readStatement_208 (by decide) ?_
      refine z_icmp_ne (tgt := 218) dX7_readStatement_210 (by decide) (fun hc => ?_) (fun hc => ?_)
      · have hF := zif_f hc hF
        refine z_sub [0, 2] rfl ?_
        exact wbX7_readStatement_218 hf hg x3 _ hF
      · have hF := zif_t hc hF
        refine z_sub [0, 2] rfl ?_
        exact wbX7_readStatement_213 hf hg x3 _ hF
set_option maxHeartbeats 4000000 in
set_option maxRecDepth 20000 in
theorem wbX7_readStatement_34 {E : zE} {C : zC} {f : Nat} {ro : Int32 × zS} (hf : 305 ≤ f) {g : GgX7_readBlock} (hg : HgX7_readBlock E (f - 1) g) (x1 : Int32) (x2 : Int32) (t : zS) (hF : bX7_readStatement_34 g x1 x2 t = some ro) : zJ E shC C cX7_readStatement RX7 5 f (some .int) ro t 34 [(0, .ref (za E 5)), (1, .int x1), (2, .int x2)] [] := by
  unfold bX7_readStatement_34 at hF
  refine z_aload_n 0 dX7_readStatement_34 rfl rfl ?_
  refine z_getr fr_RX7_38 dX7_readStatement_35 ?_
  refine z_iload_n 2 dX7_readStatement_38 rfl rfl ?_
  refine z_aload_n 0 dX7_readStatement_39 rfl rfl ?_
  refine z_geti fi_RX7_118 dX7_readStatement_40 ?_
  refine z_iload_n 1 dX7_readStatement_43 rfl rfl ?_
  obtain ⟨r869, t870, hc871, hF⟩ := zbd_at hF
  refine z_callVi (ctX9_add (E := E) (f := f - 1) (by omega) hc871) yy_X9_add yv_X9_add ob_C_52 lk_RX7_209 (by omega) rfl rfl (Nat.le_of_ble_eq_true rfl) dX7_readStatement_44 ?_
  refine z_istore_n (lv' := [(3, .int r869), (0, .ref (za E 5)), (1, .int x1), (2, .int x2)]) dX7_readStatement_47 rfl (by decide) rfl ?_
  refine z_iload_n 3 dX7_readStatement_48 rfl rfl ?_
  refine z_bipush (v := 17) dX7_readStatement_49 (by decide) ?_
  refine z_icmp_eq (tgt := 58) dX7_readStatement_51 (by decide) (fun hc => ?_) (fun hc => ?_)
  · have hF := zif_t hc hF
    refine z_sub [1, 3, 0] rfl ?_
    exact wbX7_readStatement_58 hf hg x2 r869 _ hF
  · have hF := zif_f hc hF
    refine z_aload_n 1 dX7_readStatement_54 rfl rfl ?_
    obtain ⟨r872, t873, hc874, hF⟩ := zbd_at hF
    refine z_callVv (ctX7_step (E := E) (f := f - 1) (by omega) hc874) yy_X7_step yv_X7_step ob_C_5 lk_RX7_77 (by omega) rfl rfl (Nat.le_of_ble_eq_true rfl) dX7_readStatement_55 ?_
    refine z_sub [1, 3, 0] rfl ?_
    exact wbX7_readStatement_58 hf hg x2 r869 _ hF
set_option maxHeartbeats 4000000 in
set_option maxRecDepth 20000 in
theorem ctX7_readStatement {E : zE} {f : Nat} (hf : 305 ≤ f) {g : GgX7_readBlock} (hg : HgX7_readBlock E (f - 1) g) {x1 : Int32} {t : zS} {ro : Int32 × zS} (hF : mX7_readStatement g x1 t = some ro) : zM E shC f yX7_readStatement cX7_readStatement 5 (some .int) [.ref (za E 5), .int x1] t ro := by
  refine zM_of (by decide) (Nat.le_of_ble_eq_true rfl) (fun C => ?_)
  show zJ E shC C cX7_readStatement RX7 5 f (some .int) ro t 0 [(0, .ref (za E 5)), (1, .int x1)] []
  unfold mX7_readStatement at hF
  refine z_aload_n 0 dX7_readStatement_0 rfl rfl ?_
  refine z_geti fi_RX7_80 dX7_readStatement_1 ?_
  refine z_topi (fun v875 ev875 => ?_)
  have hF := zlet_at ev875 hF
  refine z_istore_n (lv' := [(2, .int v875), (0, .ref (za E 5)), (1, .int x1)]) dX7_readStatement_4 rfl (by decide) rfl ?_
  refine z_iload_n 0 dX7_readStatement_5 rfl rfl ?_
  refine z_bipush (v := 17) dX7_readStatement_6 (by decide) ?_
  refine z_icmp_eq (tgt := 34) dX7_readStatement_8 (by decide) (fun hc => ?_) (fun hc => ?_)
  · have hF := zif_t hc hF
    refine z_sub [1, 2, 0] rfl ?_
    exact wbX7_readStatement_34 hf hg x1 v875 _ hF
  · have hF := zif_f hc hF
    refine z_iload_n 0 dX7_readStatement_11 rfl rfl ?_
    refine z_iconst (v := 2) dX7_readStatement_12 (by decide) ?_
    refine z_icmp_lt (tgt := 28) dX7_readStatement_13 (by decide) (fun hc => ?_) (fun hc => ?_)
    · have hF := zif_t hc hF
      refine z_sub [1] rfl ?_
      exact wbX7_readStatement_28 hf hg  _ hF
    · have hF := zif_f hc hF
      refine z_iload_n 0 dX7_readStatement_16 rfl rfl ?_
      refine z_bipush (v := 14) dX7_readStatement_17 (by decide) ?_
      refine z_icmp_gt (tgt := 28) dX7_readStatement_19 (by decide) (fun hc => ?_) (fun hc => ?_)
      · have hF := zif_t hc hF
        refine z_sub [1] rfl ?_
        exact wbX7_readStatement_28 hf hg  _ hF
      · have hF := zif_f hc hF
        refine z_iload_n 0 dX7_readStatement_22 rfl rfl ?_
        refine z_bipush (v := 11) dX7_readStatement_23 (by decide) ?_
        refine z_icmp_ne (tgt := 34) dX7_readStatement_25 (by decide) (fun hc => ?_) (fun hc => ?_)
        · have hF := zif_f hc hF
          refine z_sub [1, 2, 0] rfl ?_
          exact wbX7_readStatement_34 hf hg x1 v875 _ hF
        · have hF := zif_t hc hF
          refine z_sub [1] rfl ?_
          exact wbX7_readStatement_28 hf hg  _ hF
-- SessionHouse$Reader.readCases(I)V
theorem dX7_readCases_0 : decode cX7_readCases 0 = .ok (.aload_n 0, 1) := by decide +kernel
theorem dX7_readCases_1 : decode cX7_readCases 1 = .ok (.bipush 123, 2) := by decide +kernel
theorem dX7_readCases_3 : decode cX7_readCases 3 = .ok (.invokevirtual 169, 3) := by decide +kernel
theorem dX7_readCases_6 : decode cX7_readCases 6 = .ok (.ifCond .ne 4, 3) := by decide +kernel
theorem dX7_readCases_9 : decode cX7_readCases 9 = .ok (.return_, 1) := by decide +kernel
theorem dX7_readCases_10 : decode cX7_readCases 10 = .ok (.iconst (-1), 1) := by decide +kernel
theorem dX7_readCases_11 : decode cX7_readCases 11 = .ok (.istore_n 2, 1) := by decide +kernel
theorem dX7_readCases_12 : decode cX7_readCases 12 = .ok (.iconst 0, 1) := by decide +kernel
theorem dX7_readCases_13 : decode cX7_readCases 13 = .ok (.istore_n 3, 1) := by decide +kernel
theorem dX7_readCases_14 : decode cX7_readCases 14 = .ok (.iload_n 3, 1) := by decide +kernel
theorem dX7_readCases_15 : decode cX7_readCases 15 = .ok (.sipush 3000, 3) := by decide +kernel
theorem dX7_readCases_18 : decode cX7_readCases 18 = .ok (.if_icmp .ge 87, 3) := by decide +kernel
theorem dX7_readCases_21 : decode cX7_readCases 21 = .ok (.aload_n 0, 1) := by decide +kernel
theorem dX7_readCases_22 : decode cX7_readCases 22 = .ok (.getfield 68, 3) := by decide +kernel
theorem dX7_readCases_25 : decode cX7_readCases 25 = .ok (.ifCond .ge 80, 3) := by decide +kernel
theorem dX7_readCases_28 : decode cX7_readCases 28 = .ok (.iload_n 3, 1) := by decide +kernel
theorem dX7_readCases_29 : decode cX7_readCases 29 = .ok (.ifCond .eq 12, 3) := by decide +kernel
theorem dX7_readCases_32 : decode cX7_readCases 32 = .ok (.aload_n 0, 1) := by decide +kernel
theorem dX7_readCases_33 : decode cX7_readCases 33 = .ok (.getfield 80, 3) := by decide +kernel
theorem dX7_readCases_36 : decode cX7_readCases 36 = .ok (.bipush 125, 2) := by decide +kernel
theorem dX7_readCases_38 : decode cX7_readCases 38 = .ok (.if_icmp .eq 67, 3) := by decide +kernel
theorem dX7_readCases_41 : decode cX7_readCases 41 = .ok (.aload_n 0, 1) := by decide +kernel
theorem dX7_readCases_42 : decode cX7_readCases 42 = .ok (.getfield 80, 3) := by decide +kernel
theorem dX7_readCases_45 : decode cX7_readCases 45 = .ok (.bipush 17, 2) := by decide +kernel
theorem dX7_readCases_47 : decode cX7_readCases 47 = .ok (.if_icmp .ne 18, 3) := by decide +kernel
theorem dX7_readCases_50 : decode cX7_readCases 50 = .ok (.aload_n 0, 1) := by decide +kernel
theorem dX7_readCases_51 : decode cX7_readCases 51 = .ok (.getfield 38, 3) := by decide +kernel
theorem dX7_readCases_54 : decode cX7_readCases 54 = .ok (.iload_n 1, 1) := by decide +kernel
theorem dX7_readCases_55 : decode cX7_readCases 55 = .ok (.aload_n 0, 1) := by decide +kernel
theorem dX7_readCases_56 : decode cX7_readCases 56 = .ok (.getfield 121, 3) := by decide +kernel
theorem dX7_readCases_59 : decode cX7_readCases 59 = .ok (.invokevirtual 253, 3) := by decide +kernel
theorem dX7_readCases_62 : decode cX7_readCases 62 = .ok (.ifCond .lt 10, 3) := by decide +kernel
theorem dX7_readCases_65 : decode cX7_readCases 65 = .ok (.aload_n 0, 1) := by decide +kernel
theorem dX7_readCases_66 : decode cX7_readCases 66 = .ok (.invokevirtual 89, 3) := by decide +kernel
theorem dX7_readCases_69 : decode cX7_readCases 69 = .ok (.goto 36, 3) := by decide +kernel
theorem dX7_readCases_72 : decode cX7_readCases 72 = .ok (.aload_n 0, 1) := by decide +kernel
theorem dX7_readCases_73 : decode cX7_readCases 73 = .ok (.getfield 121, 3) := by decide +kernel
theorem dX7_readCases_76 : decode cX7_readCases 76 = .ok (.istore 4, 2) := by decide +kernel
theorem dX7_readCases_78 : decode cX7_readCases 78 = .ok (.aload_n 0, 1) := by decide +kernel
theorem dX7_readCases_79 : decode cX7_readCases 79 = .ok (.invokevirtual 77, 3) := by decide +kernel
theorem dX7_readCases_82 : decode cX7_readCases 82 = .ok (.aload_n 0, 1) := by decide +kernel
theorem dX7_readCases_83 : decode cX7_readCases 83 = .ok (.getfield 38, 3) := by decide +kernel
theorem dX7_readCases_86 : decode cX7_readCases 86 = .ok (.iload_n 1, 1) := by decide +kernel
theorem dX7_readCases_87 : decode cX7_readCases 87 = .ok (.iload_n 2, 1) := by decide +kernel
theorem dX7_readCases_88 : decode cX7_readCases 88 = .ok (.iload 4, 2) := by decide +kernel
theorem dX7_readCases_90 : decode cX7_readCases 90 = .ok (.aload_n 0, 1) := by decide +kernel
theorem dX7_readCases_91 : decode cX7_readCases 91 = .ok (.iload_n 1, 1) := by decide +kernel
theorem dX7_readCases_92 : decode cX7_readCases 92 = .ok (.invokevirtual 188, 3) := by decide +kernel
theorem dX7_readCases_95 : decode cX7_readCases 95 = .ok (.invokevirtual 225, 3) := by decide +kernel
theorem dX7_readCases_98 : decode cX7_readCases 98 = .ok (.istore_n 2, 1) := by decide +kernel
theorem dX7_readCases_99 : decode cX7_readCases 99 = .ok (.iinc 3 1, 3) := by decide +kernel
theorem dX7_readCases_102 : decode cX7_readCases 102 = .ok (.goto (-88), 3) := by decide +kernel
theorem dX7_readCases_105 : decode cX7_readCases 105 = .ok (.aload_n 0, 1) := by decide +kernel
theorem dX7_readCases_106 : decode cX7_readCases 106 = .ok (.bipush 125, 2) := by decide +kernel
theorem dX7_readCases_108 : decode cX7_readCases 108 = .ok (.invokevirtual 172, 3) := by decide +kernel
theorem dX7_readCases_111 : decode cX7_readCases 111 = .ok (.return_, 1) := by decide +kernel
def bX7_readCases_105 (g : GgX7_readBlock) (t : zS) : zR := zbd (mX7_leave 125 t) fun r876 t877 => some (0, t877)
def bX7_readCases_65 (g : GgX7_readBlock) (t : zS) : zR := zbd (mX7_refuse  t) fun r879 t880 => bX7_readCases_105 g  t880
def bX7_readCases_41 (g : GgX7_readBlock) (k14 : Int32 → Int32 → Int32 → zS → zR) (x1 : Int32) (x2 : Int32) (x3 : Int32) (t : zS) : zR := if (t 5 9) = 17 then zbd (mX9_findBranch x1 (t 5 11) t) fun r882 t883 => if r882 < 0 then zlet (t883 5 11) fun v885 => zbd (mX7_step  t883) fun r886 t887 => zbd (g.1 x1 t887) fun r889 t890 => zbd (mX9_addBranch x1 x2 v885 r889 t890) fun r892 t893 => zlet (x3 + 1) fun v895 => k14 x1 r892 v895 t893 else bX7_readCases_65 g  t883 else bX7_readCases_65 g  t
def bX7_readCases_14 (g : GgX7_readBlock) (k14 : Int32 → Int32 → Int32 → zS → zR) (x1 : Int32) (x2 : Int32) (x3 : Int32) (t : zS) : zR := if 3000 ≤ x3 then bX7_readCases_105 g  t else if 0 ≤ (t 5 12) then bX7_readCases_105 g  t else if x3 = 0 then bX7_readCases_41 g k14 x1 x2 x3 t else if (t 5 9) = 125 then bX7_readCases_105 g  t else bX7_readCases_41 g k14 x1 x2 x3 t
def lX7_readCases_14 (g : GgX7_readBlock) : Nat → Int32 → Int32 → Int32 → zS → zR
  | 0, _, _, _, _ => none
  | fu + 1, x1, x2, x3, t => bX7_readCases_14 g (lX7_readCases_14 g fu) x1 x2 x3 t
def mX7_readCases (g : GgX7_readBlock) (x1 : Int32) (t : zS) : zR := zbd (mX7_enter 123 t) fun r896 t897 => if r896 = 0 then some (0, t897) else lX7_readCases_14 g zFU x1 (-1) 0 t897
set_option maxHeartbeats 4000000 in
set_option maxRecDepth 20000 in
theorem wbX7_readCases_105 {E : zE} {C : zC} {f : Nat} {ro : Int32 × zS} (hf : 305 ≤ f) {g : GgX7_readBlock} (hg : HgX7_readBlock E (f - 1) g) (t : zS) (hF : bX7_readCases_105 g  t = some ro) : zJ E shC C cX7_readCases RX7 5 f none ro t 105 [(0, .ref (za E 5))] [] := by
  unfold bX7_readCases_105 at hF
  refine z_aload_n 0 dX7_readCases_105 rfl rfl ?_
  refine z_bipush (v := 125) dX7_readCases_106 (by decide) ?_
  obtain ⟨r876, t877, hc878, hF⟩ := zbd_at hF
  refine z_callVv (ctX7_leave (E := E) (f := f - 1) (by omega) hc878) yy_X7_leave yv_X7_leave ob_C_5 lk_RX7_172 (by omega) rfl rfl (Nat.le_of_ble_eq_true rfl) dX7_readCases_108 ?_
  exact z_vret hF dX7_readCases_111
set_option maxHeartbeats 4000000 in
set_option maxRecDepth 20000 in
theorem wbX7_readCases_65 {E : zE} {C : zC} {f : Nat} {ro : Int32 × zS} (hf : 305 ≤ f) {g : GgX7_readBlock} (hg : HgX7_readBlock E (f - 1) g) (t : zS) (hF : bX7_readCases_65 g  t = some ro) : zJ E shC C cX7_readCases RX7 5 f none ro t 65 [(0, .ref (za E 5))] [] := by
  unfold bX7_readCases_65 at hF
  refine z_aload_n 0 dX7_readCases_65 rfl rfl ?_
  obtain ⟨r879, t880, hc881, hF⟩ := zbd_at hF
  refine z_callVv (ctX7_refuse (E := E) (f := f - 1) (by omega) hc881) yy_X7_refuse yv_X7_refuse ob_C_5 lk_RX7_89 (by omega) rfl rfl (Nat.le_of_ble_eq_true rfl) dX7_readCases_66 ?_
  refine z_goto (tgt := 105) dX7_readCases_69 (by decide) ?_
  exact wbX7_readCases_105 hf hg  _ hF
set_option maxHeartbeats 4000000 in
set_option maxRecDepth 20000 in
theorem wbX7_readCases_41 {E : zE} {C : zC} {f : Nat} {ro : Int32 × zS} (hf : 305 ≤ f) {g : GgX7_readBlock} (hg : HgX7_readBlock E (f - 1) g) (k14 : Int32 → Int32 → Int32 → zS → zR) (hk14 : ∀ (x1 x2 x3 : Int32) (t : zS), k14 x1 x2 x3 t = some ro → zJ E shC C cX7_readCases RX7 5 f none ro t 14 [(0, .ref (za E 5)), (1, .int x1), (2, .int x2), (3, .int x3)] []) (x1 : Int32) (x2 : Int32) (x3 : Int32) (t : zS) (hF : bX7_readCases_41 g k14 x1 x2 x3 t = some ro) : zJ E shC C cX7_readCases RX7 5 f none ro t 41 [(0, .ref (za E 5)), (1, .int x1), (2, .int x2), (3, .int x3)] [] := by
  unfold bX7_readCases_41 at hF
  refine z_aload_n 0 dX7_readCases_41 rfl rfl ?_
  refine z_geti fi_RX7_80 dX7_readCases_42 ?_
  refine z_bipush (v := 17) dX7_readCases_45 (by decide) ?_
  refine z_icmp_ne (tgt := 65) dX7_readCases_47 (by decide) (fun hc => ?_) (fun hc => ?_)
  · have hF := zif_f hc hF
    refine z_sub [0] rfl ?_
    exact wbX7_readCases_65 hf hg  _ hF
  · have hF := zif_t hc hF
    refine z_aload_n 0 dX7_readCases_50 rfl rfl ?_
    refine z_getr fr_RX7_38 dX7_readCases_51 ?_
    refine z_iload_n 1 dX7_readCases_54 rfl rfl ?_
    refine z_aload_n 0 dX7_readCases_55 rfl rfl ?_
    refine z_geti fi_RX7_121 dX7_readCases_56 ?_
    obtain ⟨r882, t883, hc884, hF⟩ := zbd_at hF
    refine z_callVi (ctX9_findBranch (E := E) (f := f - 1) (by omega) hc884) yy_X9_findBranch yv_X9_findBranch ob_C_52 lk_RX7_253 (by omega) rfl rfl (Nat.le_of_ble_eq_true rfl) dX7_readCases_59 ?_
    refine z_if_lt (tgt := 72) dX7_readCases_62 (by decide) (fun hc => ?_) (fun hc => ?_)
    · have hF := zif_t hc hF
      refine z_aload_n 0 dX7_readCases_72 rfl rfl ?_
      refine z_geti fi_RX7_121 dX7_readCases_73 ?_
      refine z_topi (fun v885 ev885 => ?_)
      have hF := zlet_at ev885 hF
      refine z_istore (lv' := [(4, .int v885), (0, .ref (za E 5)), (1, .int x1), (2, .int x2), (3, .int x3)]) dX7_readCases_76 (by decide) rfl ?_
      refine z_aload_n 1 dX7_readCases_78 rfl rfl ?_
      obtain ⟨r886, t887, hc888, hF⟩ := zbd_at hF
      refine z_callVv (ctX7_step (E := E) (f := f - 1) (by omega) hc888) yy_X7_step yv_X7_step ob_C_5 lk_RX7_77 (by omega) rfl rfl (Nat.le_of_ble_eq_true rfl) dX7_readCases_79 ?_
      refine z_aload_n 1 dX7_readCases_82 rfl rfl ?_
      refine z_getr fr_RX7_38 dX7_readCases_83 ?_
      refine z_iload_n 2 dX7_readCases_86 rfl rfl ?_
      refine z_iload_n 3 dX7_readCases_87 rfl rfl ?_
      refine z_iload 0 dX7_readCases_88 rfl ?_
      refine z_aload_n 1 dX7_readCases_90 rfl rfl ?_
      refine z_iload_n 2 dX7_readCases_91 rfl rfl ?_
      obtain ⟨r889, t890, hc891, hF⟩ := zbd_at hF
      refine z_callVi (z_hgX7_readBlock hg hc891) yy_X7_readBlock yv_X7_readBlock ob_C_5 lk_RX7_188 (by omega) rfl rfl (Nat.le_of_ble_eq_true rfl) dX7_readCases_92 ?_
      obtain ⟨r892, t893, hc894, hF⟩ := zbd_at hF
      refine z_callVi (ctX9_addBranch (E := E) (f := f - 1) (by omega) hc894) yy_X9_addBranch yv_X9_addBranch ob_C_52 lk_RX7_225 (by omega) rfl rfl (Nat.le_of_ble_eq_true rfl) dX7_readCases_95 ?_
      refine z_istore_n (lv' := [(2, .int r892), (4, .int v885), (0, .ref (za E 5)), (1, .int x1), (3, .int x3)]) dX7_readCases_98 rfl (by decide) rfl ?_
      obtain ⟨v895, ev895⟩ : ∃ y : Int32, y = (x3 + 1) := ⟨_, rfl⟩
      have hF := zlet_at ev895 hF
      refine z_iinc (v := v895) (lv' := [(3, .int v895), (2, .int r892), (4, .int v885), (0, .ref (za E 5)), (1, .int x1)]) (k := 4) dX7_readCases_99 rfl (by rw [ev895]; rfl) (by decide) rfl ?_
      refine z_goto (tgt := 14) dX7_readCases_102 (by decide) ?_
      refine z_sub [3, 4, 1, 0] rfl ?_
      exact hk14 x1 r892 v895 _ hF
    · have hF := zif_f hc hF
      refine z_sub [0] rfl ?_
      exact wbX7_readCases_65 hf hg  _ hF
set_option maxHeartbeats 4000000 in
set_option maxRecDepth 20000 in
theorem wbX7_readCases_14 {E : zE} {C : zC} {f : Nat} {ro : Int32 × zS} (hf : 305 ≤ f) {g : GgX7_readBlock} (hg : HgX7_readBlock E (f - 1) g) (k14 : Int32 → Int32 → Int32 → zS → zR) (hk14 : ∀ (x1 x2 x3 : Int32) (t : zS), k14 x1 x2 x3 t = some ro → zJ E shC C cX7_readCases RX7 5 f none ro t 14 [(0, .ref (za E 5)), (1, .int x1), (2, .int x2), (3, .int x3)] []) (x1 : Int32) (x2 : Int32) (x3 : Int32) (t : zS) (hF : bX7_readCases_14 g k14 x1 x2 x3 t = some ro) : zJ E shC C cX7_readCases RX7 5 f none ro t 14 [(0, .ref (za E 5)), (1, .int x1), (2, .int x2), (3, .int x3)] [] := by
  unfold bX7_readCases_14 at hF
  refine z_iload_n 3 dX7_readCases_14 rfl rfl ?_
  refine z_sipush (v := 3000) dX7_readCases_15 (by decide) ?_
  refine z_icmp_ge (tgt := 105) dX7_readCases_18 (by decide) (fun hc => ?_) (fun hc => ?_)
  · have hF := zif_t hc hF
    refine z_sub [0] rfl ?_
    exact wbX7_readCases_105 hf hg  _ hF
  · have hF := zif_f hc hF
    refine z_aload_n 0 dX7_readCases_21 rfl rfl ?_
    refine z_geti fi_RX7_68 dX7_readCases_22 ?_
    refine z_if_ge (tgt := 105) dX7_readCases_25 (by decide) (fun hc => ?_) (fun hc => ?_)
    · have hF := zif_t hc hF
      refine z_sub [0] rfl ?_
      exact wbX7_readCases_105 hf hg  _ hF
    · have hF := zif_f hc hF
      refine z_iload_n 3 dX7_readCases_28 rfl rfl ?_
      refine z_if_eq (tgt := 41) dX7_readCases_29 (by decide) (fun hc => ?_) (fun hc => ?_)
      · have hF := zif_t hc hF
        exact wbX7_readCases_41 hf hg k14 hk14 x1 x2 x3 _ hF
      · have hF := zif_f hc hF
        refine z_aload_n 0 dX7_readCases_32 rfl rfl ?_
        refine z_geti fi_RX7_80 dX7_readCases_33 ?_
        refine z_bipush (v := 125) dX7_readCases_36 (by decide) ?_
        refine z_icmp_eq (tgt := 105) dX7_readCases_38 (by decide) (fun hc => ?_) (fun hc => ?_)
        · have hF := zif_t hc hF
          refine z_sub [0] rfl ?_
          exact wbX7_readCases_105 hf hg  _ hF
        · have hF := zif_f hc hF
          exact wbX7_readCases_41 hf hg k14 hk14 x1 x2 x3 _ hF
set_option maxHeartbeats 4000000 in
set_option maxRecDepth 20000 in
theorem wlX7_readCases_14 {E : zE} {C : zC} {f : Nat} {ro : Int32 × zS} (hf : 305 ≤ f) {g : GgX7_readBlock} (hg : HgX7_readBlock E (f - 1) g) (fu : Nat) : ∀ (x1 x2 x3 : Int32) (t : zS), lX7_readCases_14 g fu x1 x2 x3 t = some ro → zJ E shC C cX7_readCases RX7 5 f none ro t 14 [(0, .ref (za E 5)), (1, .int x1), (2, .int x2), (3, .int x3)] [] := by
  induction fu with
  | zero => intro x1 x2 x3 t hF; cases hF
  | succ fu ih => intro x1 x2 x3 t hF; exact wbX7_readCases_14 hf hg (lX7_readCases_14 g fu) ih x1 x2 x3 t hF
set_option maxHeartbeats 4000000 in
set_option maxRecDepth 20000 in
theorem ctX7_readCases {E : zE} {f : Nat} (hf : 305 ≤ f) {g : GgX7_readBlock} (hg : HgX7_readBlock E (f - 1) g) {x1 : Int32} {t : zS} {ro : Int32 × zS} (hF : mX7_readCases g x1 t = some ro) : zM E shC f yX7_readCases cX7_readCases 5 none [.ref (za E 5), .int x1] t ro := by
  refine zM_of (by decide) (Nat.le_of_ble_eq_true rfl) (fun C => ?_)
  show zJ E shC C cX7_readCases RX7 5 f none ro t 0 [(0, .ref (za E 5)), (1, .int x1)] []
  unfold mX7_readCases at hF
  refine z_aload_n 0 dX7_readCases_0 rfl rfl ?_
  refine z_bipush (v := 123) dX7_readCases_1 (by decide) ?_
  obtain ⟨r896, t897, hc898, hF⟩ := zbd_at hF
  refine z_callVi (ctX7_enter (E := E) (f := f - 1) (by omega) hc898) yy_X7_enter yv_X7_enter ob_C_5 lk_RX7_169 (by omega) rfl rfl (Nat.le_of_ble_eq_true rfl) dX7_readCases_3 ?_
  refine z_if_ne (tgt := 10) dX7_readCases_6 (by decide) (fun hc => ?_) (fun hc => ?_)
  · have hF := zif_f hc hF
    refine z_iconst (v := (-1)) dX7_readCases_10 (by decide) ?_
    refine z_istore_n (lv' := [(2, .int (-1)), (0, .ref (za E 5)), (1, .int x1)]) dX7_readCases_11 rfl (by decide) rfl ?_
    refine z_iconst (v := 0) dX7_readCases_12 (by decide) ?_
    refine z_istore_n (lv' := [(3, .int 0), (2, .int (-1)), (0, .ref (za E 5)), (1, .int x1)]) dX7_readCases_13 rfl (by decide) rfl ?_
    refine z_sub [2, 3, 1, 0] rfl ?_
    exact wlX7_readCases_14 hf hg zFU x1 (-1) 0 _ hF
  · have hF := zif_t hc hF
    exact z_vret hF dX7_readCases_9
def grgX7_readBlock : Nat → GgX7_readBlock
  | 0 => (fun _ _ => none, fun _ _ => none, fun _ _ => none)
  | d + 1 => (mX7_readBlock (grgX7_readBlock d), mX7_readStatement (grgX7_readBlock d), mX7_readCases (grgX7_readBlock d))
theorem hrgX7_readBlock {E : zE} : ∀ (d f : Nat), 305 + d ≤ f → HgX7_readBlock E f (grgX7_readBlock d) := by
  intro d
  induction d with
  | zero => intro f hf; exact ⟨fun _ _ _ h => (by cases h), fun _ _ _ h => (by cases h), fun _ _ _ h => (by cases h)⟩
  | succ d ih => intro f hf; exact ⟨fun _ _ _ h => ctX7_readBlock (by omega) (ih (f - 1) (by omega)) h, fun _ _ _ h => ctX7_readStatement (by omega) (ih (f - 1) (by omega)) h, fun _ _ _ h => ctX7_readCases (by omega) (ih (f - 1) (by omega)) h⟩
def mX7_readBlockr (x1 : Int32) (t : zS) : zR := (grgX7_readBlock 300).1 x1 t
theorem ctX7_readBlockr {E : zE} {f : Nat} (hf : 605 ≤ f) {x1 : Int32} {t : zS} {ro : Int32 × zS} (h : mX7_readBlockr x1 t = some ro) : zM E shC f yX7_readBlock cX7_readBlock 6 (some .int) [.ref (za E 5), .int x1] t ro := z_hgX7_readBlock (hrgX7_readBlock 300 f (by omega)) h
def mX7_readStatementr (x1 : Int32) (t : zS) : zR := (grgX7_readBlock 300).2.1 x1 t
theorem ctX7_readStatementr {E : zE} {f : Nat} (hf : 605 ≤ f) {x1 : Int32} {t : zS} {ro : Int32 × zS} (h : mX7_readStatementr x1 t = some ro) : zM E shC f yX7_readStatement cX7_readStatement 5 (some .int) [.ref (za E 5), .int x1] t ro := z_hgX7_readStatement (hrgX7_readBlock 300 f (by omega)) h
def mX7_readCasesr (x1 : Int32) (t : zS) : zR := (grgX7_readBlock 300).2.2 x1 t
theorem ctX7_readCasesr {E : zE} {f : Nat} (hf : 605 ≤ f) {x1 : Int32} {t : zS} {ro : Int32 × zS} (h : mX7_readCasesr x1 t = some ro) : zM E shC f yX7_readCases cX7_readCases 5 none [.ref (za E 5), .int x1] t ro := z_hgX7_readCases (hrgX7_readBlock 300 f (by omega)) h
-- SessionHouse$Procs.close(II)V
theorem dX6_close_0 : decode cX6_close 0 = .ok (.aload_n 0, 1) := by decide +kernel
theorem dX6_close_1 : decode cX6_close 1 = .ok (.getfield 29, 3) := by decide +kernel
theorem dX6_close_4 : decode cX6_close 4 = .ok (.aload_n 0, 1) := by decide +kernel
theorem dX6_close_5 : decode cX6_close 5 = .ok (.getfield 44, 3) := by decide +kernel
theorem dX6_close_8 : decode cX6_close 8 = .ok (.iconst 1, 1) := by decide +kernel
theorem dX6_close_9 : decode cX6_close 9 = .ok (.isub, 1) := by decide +kernel
theorem dX6_close_10 : decode cX6_close 10 = .ok (.iload_n 1, 1) := by decide +kernel
theorem dX6_close_11 : decode cX6_close 11 = .ok (.invokevirtual 59, 3) := by decide +kernel
theorem dX6_close_14 : decode cX6_close 14 = .ok (.aload_n 0, 1) := by decide +kernel
theorem dX6_close_15 : decode cX6_close 15 = .ok (.getfield 32, 3) := by decide +kernel
theorem dX6_close_18 : decode cX6_close 18 = .ok (.aload_n 0, 1) := by decide +kernel
theorem dX6_close_19 : decode cX6_close 19 = .ok (.getfield 44, 3) := by decide +kernel
theorem dX6_close_22 : decode cX6_close 22 = .ok (.iconst 1, 1) := by decide +kernel
theorem dX6_close_23 : decode cX6_close 23 = .ok (.isub, 1) := by decide +kernel
theorem dX6_close_24 : decode cX6_close 24 = .ok (.iload_n 2, 1) := by decide +kernel
theorem dX6_close_25 : decode cX6_close 25 = .ok (.invokevirtual 59, 3) := by decide +kernel
theorem dX6_close_28 : decode cX6_close 28 = .ok (.return_, 1) := by decide +kernel
def mX6_close (x1 : Int32) (x2 : Int32) (t : zS) : zR := zbd (mX5_set 40 400 ((t 4 10) - 1) x1 t) fun r899 t900 => zbd (mX5_set 42 400 ((t900 4 10) - 1) x2 t900) fun r902 t903 => some (0, t903)
set_option maxHeartbeats 4000000 in
set_option maxRecDepth 20000 in
theorem ctX6_close {E : zE} {f : Nat} (hf : 2 ≤ f) {x1 : Int32} {x2 : Int32} {t : zS} {ro : Int32 × zS} (hF : mX6_close  x1 x2 t = some ro) : zM E shC f yX6_close cX6_close 3 none [.ref (za E 4), .int x1, .int x2] t ro := by
  refine zM_of (by decide) (Nat.le_of_ble_eq_true rfl) (fun C => ?_)
  show zJ E shC C cX6_close RX6 3 f none ro t 0 [(0, .ref (za E 4)), (1, .int x1), (2, .int x2)] []
  unfold mX6_close at hF
  refine z_aload_n 0 dX6_close_0 rfl rfl ?_
  refine z_getr fr_RX6_29 dX6_close_1 ?_
  refine z_aload_n 0 dX6_close_4 rfl rfl ?_
  refine z_geti fi_RX6_44 dX6_close_5 ?_
  refine z_iconst (v := 1) dX6_close_8 (by decide) ?_
  refine z_isub dX6_close_9 ?_
  refine z_iload_n 1 dX6_close_10 rfl rfl ?_
  obtain ⟨r899, t900, hc901, hF⟩ := zbd_at hF
  refine z_callVv (ctX5_set (E := E) (sh := shC) (f := f - 1) (by omega) (k := 40) (n := 400) rfl rfl hc901) yy_X5_set yv_X5_set ob_C_40 lk_RX6_59 (by omega) rfl rfl (Nat.le_of_ble_eq_true rfl) dX6_close_11 ?_
  refine z_aload_n 0 dX6_close_14 rfl rfl ?_
  refine z_getr fr_RX6_32 dX6_close_15 ?_
  refine z_aload_n 0 dX6_close_18 rfl rfl ?_
  refine z_geti fi_RX6_44 dX6_close_19 ?_
  refine z_iconst (v := 1) dX6_close_22 (by decide) ?_
  refine z_isub dX6_close_23 ?_
  refine z_iload_n 2 dX6_close_24 rfl rfl ?_
  obtain ⟨r902, t903, hc904, hF⟩ := zbd_at hF
  refine z_callVv (ctX5_set (E := E) (sh := shC) (f := f - 1) (by omega) (k := 42) (n := 400) rfl rfl hc904) yy_X5_set yv_X5_set ob_C_42 lk_RX6_59 (by omega) rfl rfl (Nat.le_of_ble_eq_true rfl) dX6_close_25 ?_
  exact z_vret hF dX6_close_28
-- SessionHouse$Reader.readProc()V
theorem dX7_readProc_0 : decode cX7_readProc 0 = .ok (.aload_n 0, 1) := by decide +kernel
theorem dX7_readProc_1 : decode cX7_readProc 1 = .ok (.invokevirtual 77, 3) := by decide +kernel
theorem dX7_readProc_4 : decode cX7_readProc 4 = .ok (.aload_n 0, 1) := by decide +kernel
theorem dX7_readProc_5 : decode cX7_readProc 5 = .ok (.getfield 80, 3) := by decide +kernel
theorem dX7_readProc_8 : decode cX7_readProc 8 = .ok (.bipush 17, 2) := by decide +kernel
theorem dX7_readProc_10 : decode cX7_readProc 10 = .ok (.if_icmp .ne 17, 3) := by decide +kernel
theorem dX7_readProc_13 : decode cX7_readProc 13 = .ok (.aload_n 0, 1) := by decide +kernel
theorem dX7_readProc_14 : decode cX7_readProc 14 = .ok (.getfield 42, 3) := by decide +kernel
theorem dX7_readProc_17 : decode cX7_readProc 17 = .ok (.aload_n 0, 1) := by decide +kernel
theorem dX7_readProc_18 : decode cX7_readProc 18 = .ok (.getfield 121, 3) := by decide +kernel
theorem dX7_readProc_21 : decode cX7_readProc 21 = .ok (.invokevirtual 103, 3) := by decide +kernel
theorem dX7_readProc_24 : decode cX7_readProc 24 = .ok (.ifCond .lt 8, 3) := by decide +kernel
theorem dX7_readProc_27 : decode cX7_readProc 27 = .ok (.aload_n 0, 1) := by decide +kernel
theorem dX7_readProc_28 : decode cX7_readProc 28 = .ok (.invokevirtual 89, 3) := by decide +kernel
theorem dX7_readProc_31 : decode cX7_readProc 31 = .ok (.return_, 1) := by decide +kernel
theorem dX7_readProc_32 : decode cX7_readProc 32 = .ok (.aload_n 0, 1) := by decide +kernel
theorem dX7_readProc_33 : decode cX7_readProc 33 = .ok (.getfield 42, 3) := by decide +kernel
theorem dX7_readProc_36 : decode cX7_readProc 36 = .ok (.aload_n 0, 1) := by decide +kernel
theorem dX7_readProc_37 : decode cX7_readProc 37 = .ok (.getfield 121, 3) := by decide +kernel
theorem dX7_readProc_40 : decode cX7_readProc 40 = .ok (.invokevirtual 182, 3) := by decide +kernel
theorem dX7_readProc_43 : decode cX7_readProc 43 = .ok (.aload_n 0, 1) := by decide +kernel
theorem dX7_readProc_44 : decode cX7_readProc 44 = .ok (.invokevirtual 77, 3) := by decide +kernel
theorem dX7_readProc_47 : decode cX7_readProc 47 = .ok (.aload_n 0, 1) := by decide +kernel
theorem dX7_readProc_48 : decode cX7_readProc 48 = .ok (.invokevirtual 185, 3) := by decide +kernel
theorem dX7_readProc_51 : decode cX7_readProc 51 = .ok (.aload_n 0, 1) := by decide +kernel
theorem dX7_readProc_52 : decode cX7_readProc 52 = .ok (.iconst (-1), 1) := by decide +kernel
theorem dX7_readProc_53 : decode cX7_readProc 53 = .ok (.invokevirtual 188, 3) := by decide +kernel
theorem dX7_readProc_56 : decode cX7_readProc 56 = .ok (.istore_n 1, 1) := by decide +kernel
theorem dX7_readProc_57 : decode cX7_readProc 57 = .ok (.aload_n 0, 1) := by decide +kernel
theorem dX7_readProc_58 : decode cX7_readProc 58 = .ok (.getfield 42, 3) := by decide +kernel
theorem dX7_readProc_61 : decode cX7_readProc 61 = .ok (.iload_n 1, 1) := by decide +kernel
theorem dX7_readProc_62 : decode cX7_readProc 62 = .ok (.aload_n 0, 1) := by decide +kernel
theorem dX7_readProc_63 : decode cX7_readProc 63 = .ok (.getfield 124, 3) := by decide +kernel
theorem dX7_readProc_66 : decode cX7_readProc 66 = .ok (.invokevirtual 191, 3) := by decide +kernel
theorem dX7_readProc_69 : decode cX7_readProc 69 = .ok (.return_, 1) := by decide +kernel
def bX7_readProc_27 (t : zS) : zR := zbd (mX7_refuse  t) fun r905 t906 => some (0, t906)
def mX7_readProc (t : zS) : zR := zbd (mX7_step  t) fun r908 t909 => if (t909 5 9) = 17 then zbd (mX6_find (t909 5 11) t909) fun r911 t912 => if r911 < 0 then zbd (mX6_begin (t912 5 11) t912) fun r914 t915 => zbd (mX7_step  t915) fun r917 t918 => zbd (mX7_readParameters  t918) fun r920 t921 => zbd (mX7_readBlockr (-1) t921) fun r923 t924 => zbd (mX6_close r923 (t924 5 14) t924) fun r926 t927 => some (0, t927) else bX7_readProc_27   t912 else bX7_readProc_27   t909
set_option maxHeartbeats 4000000 in
set_option maxRecDepth 20000 in
theorem wbX7_readProc_27 {E : zE} {C : zC} {f : Nat} {ro : Int32 × zS} (hf : 606 ≤ f) (t : zS) (hF : bX7_readProc_27   t = some ro) : zJ E shC C cX7_readProc RX7 2 f none ro t 27 [(0, .ref (za E 5))] [] := by
  unfold bX7_readProc_27 at hF
  refine z_aload_n 0 dX7_readProc_27 rfl rfl ?_
  obtain ⟨r905, t906, hc907, hF⟩ := zbd_at hF
  refine z_callVv (ctX7_refuse (E := E) (f := f - 1) (by omega) hc907) yy_X7_refuse yv_X7_refuse ob_C_5 lk_RX7_89 (by omega) rfl rfl (Nat.le_of_ble_eq_true rfl) dX7_readProc_28 ?_
  exact z_vret hF dX7_readProc_31
set_option maxHeartbeats 4000000 in
set_option maxRecDepth 20000 in
theorem ctX7_readProc {E : zE} {f : Nat} (hf : 606 ≤ f) {t : zS} {ro : Int32 × zS} (hF : mX7_readProc   t = some ro) : zM E shC f yX7_readProc cX7_readProc 2 none [.ref (za E 5)] t ro := by
  refine zM_of (by decide) (Nat.le_of_ble_eq_true rfl) (fun C => ?_)
  show zJ E shC C cX7_readProc RX7 2 f none ro t 0 [(0, .ref (za E 5))] []
  unfold mX7_readProc at hF
  refine z_aload_n 0 dX7_readProc_0 rfl rfl ?_
  obtain ⟨r908, t909, hc910, hF⟩ := zbd_at hF
  refine z_callVv (ctX7_step (E := E) (f := f - 1) (by omega) hc910) yy_X7_step yv_X7_step ob_C_5 lk_RX7_77 (by omega) rfl rfl (Nat.le_of_ble_eq_true rfl) dX7_readProc_1 ?_
  refine z_aload_n 0 dX7_readProc_4 rfl rfl ?_
  refine z_geti fi_RX7_80 dX7_readProc_5 ?_
  refine z_bipush (v := 17) dX7_readProc_8 (by decide) ?_
  refine z_icmp_ne (tgt := 27) dX7_readProc_10 (by decide) (fun hc => ?_) (fun hc => ?_)
  · have hF := zif_f hc hF
    exact wbX7_readProc_27 hf   _ hF
  · have hF := zif_t hc hF
    refine z_aload_n 0 dX7_readProc_13 rfl rfl ?_
    refine z_getr fr_RX7_42 dX7_readProc_14 ?_
    refine z_aload_n 0 dX7_readProc_17 rfl rfl ?_
    refine z_geti fi_RX7_121 dX7_readProc_18 ?_
    obtain ⟨r911, t912, hc913, hF⟩ := zbd_at hF
    refine z_callVi (ctX6_find (E := E) (f := f - 1) (by omega) hc913) yy_X6_find yv_X6_find ob_C_4 lk_RX7_103 (by omega) rfl rfl (Nat.le_of_ble_eq_true rfl) dX7_readProc_21 ?_
    refine z_if_lt (tgt := 32) dX7_readProc_24 (by decide) (fun hc => ?_) (fun hc => ?_)
    · have hF := zif_t hc hF
      refine z_aload_n 0 dX7_readProc_32 rfl rfl ?_
      refine z_getr fr_RX7_42 dX7_readProc_33 ?_
      refine z_aload_n 0 dX7_readProc_36 rfl rfl ?_
      refine z_geti fi_RX7_121 dX7_readProc_37 ?_
      obtain ⟨r914, t915, hc916, hF⟩ := zbd_at hF
      refine z_callVv (ctX6_begin (E := E) (f := f - 1) (by omega) hc916) yy_X6_begin yv_X6_begin ob_C_4 lk_RX7_182 (by omega) rfl rfl (Nat.le_of_ble_eq_true rfl) dX7_readProc_40 ?_
      refine z_aload_n 0 dX7_readProc_43 rfl rfl ?_
      obtain ⟨r917, t918, hc919, hF⟩ := zbd_at hF
      refine z_callVv (ctX7_step (E := E) (f := f - 1) (by omega) hc919) yy_X7_step yv_X7_step ob_C_5 lk_RX7_77 (by omega) rfl rfl (Nat.le_of_ble_eq_true rfl) dX7_readProc_44 ?_
      refine z_aload_n 0 dX7_readProc_47 rfl rfl ?_
      obtain ⟨r920, t921, hc922, hF⟩ := zbd_at hF
      refine z_callVv (ctX7_readParameters (E := E) (f := f - 1) (by omega) hc922) yy_X7_readParameters yv_X7_readParameters ob_C_5 lk_RX7_185 (by omega) rfl rfl (Nat.le_of_ble_eq_true rfl) dX7_readProc_48 ?_
      refine z_aload_n 0 dX7_readProc_51 rfl rfl ?_
      refine z_iconst (v := (-1)) dX7_readProc_52 (by decide) ?_
      obtain ⟨r923, t924, hc925, hF⟩ := zbd_at hF
      refine z_callVi (ctX7_readBlockr (E := E) (f := f - 1) (by omega) hc925) yy_X7_readBlock yv_X7_readBlock ob_C_5 lk_RX7_188 (by omega) rfl rfl (Nat.le_of_ble_eq_true rfl) dX7_readProc_53 ?_
      refine z_istore_n (lv' := [(1, .int r923), (0, .ref (za E 5))]) dX7_readProc_56 rfl (by decide) rfl ?_
      refine z_aload_n 1 dX7_readProc_57 rfl rfl ?_
      refine z_getr fr_RX7_42 dX7_readProc_58 ?_
      refine z_iload_n 0 dX7_readProc_61 rfl rfl ?_
      refine z_aload_n 1 dX7_readProc_62 rfl rfl ?_
      refine z_geti fi_RX7_124 dX7_readProc_63 ?_
      obtain ⟨r926, t927, hc928, hF⟩ := zbd_at hF
      refine z_callVv (ctX6_close (E := E) (f := f - 1) (by omega) hc928) yy_X6_close yv_X6_close ob_C_4 lk_RX7_191 (by omega) rfl rfl (Nat.le_of_ble_eq_true rfl) dX7_readProc_66 ?_
      exact z_vret hF dX7_readProc_69
    · have hF := zif_f hc hF
      exact wbX7_readProc_27 hf   _ hF
-- SessionHouse$Forms.isName(I)Z
theorem dX2_isName_0 : decode cX2_isName 0 = .ok (.aload_n 0, 1) := by decide +kernel
theorem dX2_isName_1 : decode cX2_isName 1 = .ok (.getfield 14, 3) := by decide +kernel
theorem dX2_isName_4 : decode cX2_isName 4 = .ok (.iload_n 1, 1) := by decide +kernel
theorem dX2_isName_5 : decode cX2_isName 5 = .ok (.invokevirtual 74, 3) := by decide +kernel
theorem dX2_isName_8 : decode cX2_isName 8 = .ok (.iconst 2, 1) := by decide +kernel
theorem dX2_isName_9 : decode cX2_isName 9 = .ok (.if_icmp .eq 15, 3) := by decide +kernel
theorem dX2_isName_12 : decode cX2_isName 12 = .ok (.aload_n 0, 1) := by decide +kernel
theorem dX2_isName_13 : decode cX2_isName 13 = .ok (.getfield 14, 3) := by decide +kernel
theorem dX2_isName_16 : decode cX2_isName 16 = .ok (.iload_n 1, 1) := by decide +kernel
theorem dX2_isName_17 : decode cX2_isName 17 = .ok (.invokevirtual 74, 3) := by decide +kernel
theorem dX2_isName_20 : decode cX2_isName 20 = .ok (.iconst 3, 1) := by decide +kernel
theorem dX2_isName_21 : decode cX2_isName 21 = .ok (.if_icmp .ne 7, 3) := by decide +kernel
theorem dX2_isName_24 : decode cX2_isName 24 = .ok (.iconst 1, 1) := by decide +kernel
theorem dX2_isName_25 : decode cX2_isName 25 = .ok (.goto 4, 3) := by decide +kernel
theorem dX2_isName_28 : decode cX2_isName 28 = .ok (.iconst 0, 1) := by decide +kernel
theorem dX2_isName_29 : decode cX2_isName 29 = .ok (.ireturn, 1) := by decide +kernel
def bX2_isName_24 (t : zS) : zR := some (1, t)
def mX2_isName (x1 : Int32) (t : zS) : zR := zbd (mX5_get 8 3000 x1 t) fun r929 t930 => if r929 = 2 then bX2_isName_24   t930 else zbd (mX5_get 8 3000 x1 t930) fun r932 t933 => if r932 = 3 then bX2_isName_24   t933 else some (0, t933)
set_option maxHeartbeats 4000000 in
set_option maxRecDepth 20000 in
theorem wbX2_isName_24 {E : zE} {C : zC} {f : Nat} {ro : Int32 × zS} (hf : 2 ≤ f) (t : zS) (hF : bX2_isName_24   t = some ro) : zJ E shC C cX2_isName RX2 2 f (some .boolean) ro t 24 [] [] := by
  unfold bX2_isName_24 at hF
  refine z_iconst (v := 1) dX2_isName_24 (by decide) ?_
  refine z_goto (tgt := 29) dX2_isName_25 (by decide) ?_
  exact z_zret hF (by decide) dX2_isName_29
set_option maxHeartbeats 4000000 in
set_option maxRecDepth 20000 in
theorem ctX2_isName {E : zE} {f : Nat} (hf : 2 ≤ f) {x1 : Int32} {t : zS} {ro : Int32 × zS} (hF : mX2_isName  x1 t = some ro) : zM E shC f yX2_isName cX2_isName 2 (some .boolean) [.ref (za E 3), .int x1] t ro := by
  refine zM_of (by decide) (Nat.le_of_ble_eq_true rfl) (fun C => ?_)
  show zJ E shC C cX2_isName RX2 2 f (some .boolean) ro t 0 [(0, .ref (za E 3)), (1, .int x1)] []
  unfold mX2_isName at hF
  refine z_aload_n 0 dX2_isName_0 rfl rfl ?_
  refine z_getr fr_RX2_14 dX2_isName_1 ?_
  refine z_iload_n 1 dX2_isName_4 rfl rfl ?_
  obtain ⟨r929, t930, hc931, hF⟩ := zbd_at hF
  refine z_callVi (ctX5_get (E := E) (sh := shC) (f := f - 1) (by omega) (k := 8) (n := 3000) rfl rfl hc931) yy_X5_get yv_X5_get ob_C_8 lk_RX2_74 (by omega) rfl rfl (Nat.le_of_ble_eq_true rfl) dX2_isName_5 ?_
  refine z_iconst (v := 2) dX2_isName_8 (by decide) ?_
  refine z_icmp_eq (tgt := 24) dX2_isName_9 (by decide) (fun hc => ?_) (fun hc => ?_)
  · have hF := zif_t hc hF
    refine z_sub [] rfl ?_
    exact wbX2_isName_24 hf   _ hF
  · have hF := zif_f hc hF
    refine z_aload_n 0 dX2_isName_12 rfl rfl ?_
    refine z_getr fr_RX2_14 dX2_isName_13 ?_
    refine z_iload_n 1 dX2_isName_16 rfl rfl ?_
    obtain ⟨r932, t933, hc934, hF⟩ := zbd_at hF
    refine z_callVi (ctX5_get (E := E) (sh := shC) (f := f - 1) (by omega) (k := 8) (n := 3000) rfl rfl hc934) yy_X5_get yv_X5_get ob_C_8 lk_RX2_74 (by omega) rfl rfl (Nat.le_of_ble_eq_true rfl) dX2_isName_17 ?_
    refine z_iconst (v := 3) dX2_isName_20 (by decide) ?_
    refine z_icmp_ne (tgt := 28) dX2_isName_21 (by decide) (fun hc => ?_) (fun hc => ?_)
    · have hF := zif_f hc hF
      refine z_iconst (v := 0) dX2_isName_28 (by decide) ?_
      exact z_zret hF (by decide) dX2_isName_29
    · have hF := zif_t hc hF
      refine z_sub [] rfl ?_
      exact wbX2_isName_24 hf   _ hF
-- SessionHouse$Forms.loopPlace()I
theorem dX2_loopPlace_0 : decode cX2_loopPlace 0 = .ok (.iconst 0, 1) := by decide +kernel
theorem dX2_loopPlace_1 : decode cX2_loopPlace 1 = .ok (.istore_n 1, 1) := by decide +kernel
theorem dX2_loopPlace_2 : decode cX2_loopPlace 2 = .ok (.iload_n 1, 1) := by decide +kernel
theorem dX2_loopPlace_3 : decode cX2_loopPlace 3 = .ok (.aload_n 0, 1) := by decide +kernel
theorem dX2_loopPlace_4 : decode cX2_loopPlace 4 = .ok (.getfield 60, 3) := by decide +kernel
theorem dX2_loopPlace_7 : decode cX2_loopPlace 7 = .ok (.if_icmp .ge 79, 3) := by decide +kernel
theorem dX2_loopPlace_10 : decode cX2_loopPlace 10 = .ok (.iload_n 1, 1) := by decide +kernel
theorem dX2_loopPlace_11 : decode cX2_loopPlace 11 = .ok (.istore_n 2, 1) := by decide +kernel
theorem dX2_loopPlace_12 : decode cX2_loopPlace 12 = .ok (.iconst 0, 1) := by decide +kernel
theorem dX2_loopPlace_13 : decode cX2_loopPlace 13 = .ok (.istore_n 3, 1) := by decide +kernel
theorem dX2_loopPlace_14 : decode cX2_loopPlace 14 = .ok (.iload_n 3, 1) := by decide +kernel
theorem dX2_loopPlace_15 : decode cX2_loopPlace 15 = .ok (.aload_n 0, 1) := by decide +kernel
theorem dX2_loopPlace_16 : decode cX2_loopPlace 16 = .ok (.getfield 60, 3) := by decide +kernel
theorem dX2_loopPlace_19 : decode cX2_loopPlace 19 = .ok (.if_icmp .ge 61, 3) := by decide +kernel
theorem dX2_loopPlace_22 : decode cX2_loopPlace 22 = .ok (.aload_n 0, 1) := by decide +kernel
theorem dX2_loopPlace_23 : decode cX2_loopPlace 23 = .ok (.aload_n 0, 1) := by decide +kernel
theorem dX2_loopPlace_24 : decode cX2_loopPlace 24 = .ok (.getfield 35, 3) := by decide +kernel
theorem dX2_loopPlace_27 : decode cX2_loopPlace 27 = .ok (.iload_n 2, 1) := by decide +kernel
theorem dX2_loopPlace_28 : decode cX2_loopPlace 28 = .ok (.invokevirtual 74, 3) := by decide +kernel
theorem dX2_loopPlace_31 : decode cX2_loopPlace 31 = .ok (.invokevirtual 78, 3) := by decide +kernel
theorem dX2_loopPlace_34 : decode cX2_loopPlace 34 = .ok (.ifCond .eq 46, 3) := by decide +kernel
theorem dX2_loopPlace_37 : decode cX2_loopPlace 37 = .ok (.aload_n 0, 1) := by decide +kernel
theorem dX2_loopPlace_38 : decode cX2_loopPlace 38 = .ok (.getfield 41, 3) := by decide +kernel
theorem dX2_loopPlace_41 : decode cX2_loopPlace 41 = .ok (.aload_n 0, 1) := by decide +kernel
theorem dX2_loopPlace_42 : decode cX2_loopPlace 42 = .ok (.getfield 20, 3) := by decide +kernel
theorem dX2_loopPlace_45 : decode cX2_loopPlace 45 = .ok (.aload_n 0, 1) := by decide +kernel
theorem dX2_loopPlace_46 : decode cX2_loopPlace 46 = .ok (.getfield 35, 3) := by decide +kernel
theorem dX2_loopPlace_49 : decode cX2_loopPlace 49 = .ok (.iload_n 2, 1) := by decide +kernel
theorem dX2_loopPlace_50 : decode cX2_loopPlace 50 = .ok (.invokevirtual 74, 3) := by decide +kernel
theorem dX2_loopPlace_53 : decode cX2_loopPlace 53 = .ok (.invokevirtual 74, 3) := by decide +kernel
theorem dX2_loopPlace_56 : decode cX2_loopPlace 56 = .ok (.invokevirtual 74, 3) := by decide +kernel
theorem dX2_loopPlace_59 : decode cX2_loopPlace 59 = .ok (.istore_n 2, 1) := by decide +kernel
theorem dX2_loopPlace_60 : decode cX2_loopPlace 60 = .ok (.iload_n 2, 1) := by decide +kernel
theorem dX2_loopPlace_61 : decode cX2_loopPlace 61 = .ok (.iload_n 1, 1) := by decide +kernel
theorem dX2_loopPlace_62 : decode cX2_loopPlace 62 = .ok (.if_icmp .ne 12, 3) := by decide +kernel
theorem dX2_loopPlace_65 : decode cX2_loopPlace 65 = .ok (.aload_n 0, 1) := by decide +kernel
theorem dX2_loopPlace_66 : decode cX2_loopPlace 66 = .ok (.getfield 38, 3) := by decide +kernel
theorem dX2_loopPlace_69 : decode cX2_loopPlace 69 = .ok (.iload_n 1, 1) := by decide +kernel
theorem dX2_loopPlace_70 : decode cX2_loopPlace 70 = .ok (.invokevirtual 74, 3) := by decide +kernel
theorem dX2_loopPlace_73 : decode cX2_loopPlace 73 = .ok (.ireturn, 1) := by decide +kernel
theorem dX2_loopPlace_74 : decode cX2_loopPlace 74 = .ok (.iinc 3 1, 3) := by decide +kernel
theorem dX2_loopPlace_77 : decode cX2_loopPlace 77 = .ok (.goto (-63), 3) := by decide +kernel
theorem dX2_loopPlace_80 : decode cX2_loopPlace 80 = .ok (.iinc 1 1, 3) := by decide +kernel
theorem dX2_loopPlace_83 : decode cX2_loopPlace 83 = .ok (.goto (-81), 3) := by decide +kernel
theorem dX2_loopPlace_86 : decode cX2_loopPlace 86 = .ok (.iconst (-1), 1) := by decide +kernel
theorem dX2_loopPlace_87 : decode cX2_loopPlace 87 = .ok (.ireturn, 1) := by decide +kernel
def bX2_loopPlace_80 (k2 : Int32 → zS → zR) (x1 : Int32) (t : zS) : zR := zlet (x1 + 1) fun v935 => k2 v935 t
def bX2_loopPlace_14 (k2 : Int32 → zS → zR) (k14 : Int32 → Int32 → Int32 → zS → zR) (x1 : Int32) (x2 : Int32) (x3 : Int32) (t : zS) : zR := if (t 3 15) ≤ x3 then bX2_loopPlace_80 k2 x1 t else zbd (mX5_get 20 400 x2 t) fun r936 t937 => zbd (mX2_isName r936 t937) fun r939 t940 => if r939 = 0 then bX2_loopPlace_80 k2 x1 t940 else zbd (mX5_get 20 400 x2 t940) fun r942 t943 => zbd (mX5_get 10 3000 r942 t943) fun r945 t946 => zbd (mX5_get 24 1600 r945 t946) fun r948 t949 => if r948 = x1 then zbd (mX5_get 22 400 x1 t949) fun r952 t953 => some (r952, t953) else zlet (x3 + 1) fun v951 => k14 x1 r948 v951 t949
def lX2_loopPlace_14 (k2 : Int32 → zS → zR) : Nat → Int32 → Int32 → Int32 → zS → zR
  | 0, _, _, _, _ => none
  | fu + 1, x1, x2, x3, t => bX2_loopPlace_14 k2 (lX2_loopPlace_14 k2 fu) x1 x2 x3 t
def bX2_loopPlace_2 (k2 : Int32 → zS → zR) (x1 : Int32) (t : zS) : zR := if (t 3 15) ≤ x1 then some ((-1), t) else lX2_loopPlace_14 k2 zFU x1 x1 0 t
def lX2_loopPlace_2 : Nat → Int32 → zS → zR
  | 0, _, _ => none
  | fu + 1, x1, t => bX2_loopPlace_2 (lX2_loopPlace_2  fu) x1 t
def mX2_loopPlace (t : zS) : zR := lX2_loopPlace_2  zFU 0 t
set_option maxHeartbeats 4000000 in
set_option maxRecDepth 20000 in
theorem wbX2_loopPlace_80 {E : zE} {C : zC} {f : Nat} {ro : Int32 × zS} (hf : 3 ≤ f) (k2 : Int32 → zS → zR) (hk2 : ∀ (x1 : Int32) (t : zS), k2 x1 t = some ro → zJ E shC C cX2_loopPlace RX2 4 f (some .int) ro t 2 [(0, .ref (za E 3)), (1, .int x1)] []) (x1 : Int32) (t : zS) (hF : bX2_loopPlace_80 k2 x1 t = some ro) : zJ E shC C cX2_loopPlace RX2 4 f (some .int) ro t 80 [(0, .ref (za E 3)), (1, .int x1)] [] := by
  unfold bX2_loopPlace_80 at hF
  obtain ⟨v935, ev935⟩ : ∃ y : Int32, y = (x1 + 1) := ⟨_, rfl⟩
  have hF := zlet_at ev935 hF
  refine z_iinc (v := v935) (lv' := [(1, .int v935), (0, .ref (za E 3))]) (k := 1) dX2_loopPlace_80 rfl (by rw [ev935]; rfl) (by decide) rfl ?_
  refine z_goto (tgt := 2) dX2_loopPlace_83 (by decide) ?_
  refine z_sub [1, 0] rfl ?_
  exact hk2 v935 _ hF
set_option maxHeartbeats 4000000 in
set_option maxRecDepth 20000 in
theorem wbX2_loopPlace_14 {E : zE} {C : zC} {f : Nat} {ro : Int32 × zS} (hf : 3 ≤ f) (k2 : Int32 → zS → zR) (hk2 : ∀ (x1 : Int32) (t : zS), k2 x1 t = some ro → zJ E shC C cX2_loopPlace RX2 4 f (some .int) ro t 2 [(0, .ref (za E 3)), (1, .int x1)] []) (k14 : Int32 → Int32 → Int32 → zS → zR) (hk14 : ∀ (x1 x2 x3 : Int32) (t : zS), k14 x1 x2 x3 t = some ro → zJ E shC C cX2_loopPlace RX2 4 f (some .int) ro t 14 [(0, .ref (za E 3)), (1, .int x1), (2, .int x2), (3, .int x3)] []) (x1 : Int32) (x2 : Int32) (x3 : Int32) (t : zS) (hF : bX2_loopPlace_14 k2 k14 x1 x2 x3 t = some ro) : zJ E shC C cX2_loopPlace RX2 4 f (some .int) ro t 14 [(0, .ref (za E 3)), (1, .int x1), (2, .int x2), (3, .int x3)] [] := by
  unfold bX2_loopPlace_14 at hF
  refine z_iload_n 3 dX2_loopPlace_14 rfl rfl ?_
  refine z_aload_n 0 dX2_loopPlace_15 rfl rfl ?_
  refine z_geti fi_RX2_60 dX2_loopPlace_16 ?_
  refine z_icmp_ge (tgt := 80) dX2_loopPlace_19 (by decide) (fun hc => ?_) (fun hc => ?_)
  · have hF := zif_t hc hF
    refine z_sub [0, 1] rfl ?_
    exact wbX2_loopPlace_80 hf k2 hk2 x1 _ hF
  · have hF := zif_f hc hF
    refine z_aload_n 0 dX2_loopPlace_22 rfl rfl ?_
    refine z_aload_n 0 dX2_loopPlace_23 rfl rfl ?_
    refine z_getr fr_RX2_35 dX2_loopPlace_24 ?_
    refine z_iload_n 2 dX2_loopPlace_27 rfl rfl ?_
    obtain ⟨r936, t937, hc938, hF⟩ := zbd_at hF
    refine z_callVi (ctX5_get (E := E) (sh := shC) (f := f - 1) (by omega) (k := 20) (n := 400) rfl rfl hc938) yy_X5_get yv_X5_get ob_C_20 lk_RX2_74 (by omega) rfl rfl (Nat.le_of_ble_eq_true rfl) dX2_loopPlace_28 ?_
    obtain ⟨r939, t940, hc941, hF⟩ := zbd_at hF
    refine z_callVi (ctX2_isName (E := E) (f := f - 1) (by omega) hc941) yy_X2_isName yv_X2_isName ob_C_3 lk_RX2_78 (by omega) rfl rfl (Nat.le_of_ble_eq_true rfl) dX2_loopPlace_31 ?_
    refine z_if_eq (tgt := 80) dX2_loopPlace_34 (by decide) (fun hc => ?_) (fun hc => ?_)
    · have hF := zif_t hc hF
      refine z_sub [0, 1] rfl ?_
      exact wbX2_loopPlace_80 hf k2 hk2 x1 _ hF
    · have hF := zif_f hc hF
      refine z_aload_n 0 dX2_loopPlace_37 rfl rfl ?_
      refine z_getr fr_RX2_41 dX2_loopPlace_38 ?_
      refine z_aload_n 0 dX2_loopPlace_41 rfl rfl ?_
      refine z_getr fr_RX2_20 dX2_loopPlace_42 ?_
      refine z_aload_n 0 dX2_loopPlace_45 rfl rfl ?_
      refine z_getr fr_RX2_35 dX2_loopPlace_46 ?_
      refine z_iload_n 2 dX2_loopPlace_49 rfl rfl ?_
      obtain ⟨r942, t943, hc944, hF⟩ := zbd_at hF
      refine z_callVi (ctX5_get (E := E) (sh := shC) (f := f - 1) (by omega) (k := 20) (n := 400) rfl rfl hc944) yy_X5_get yv_X5_get ob_C_20 lk_RX2_74 (by omega) rfl rfl (Nat.le_of_ble_eq_true rfl) dX2_loopPlace_50 ?_
      obtain ⟨r945, t946, hc947, hF⟩ := zbd_at hF
      refine z_callVi (ctX5_get (E := E) (sh := shC) (f := f - 1) (by omega) (k := 10) (n := 3000) rfl rfl hc947) yy_X5_get yv_X5_get ob_C_10 lk_RX2_74 (by omega) rfl rfl (Nat.le_of_ble_eq_true rfl) dX2_loopPlace_53 ?_
      obtain ⟨r948, t949, hc950, hF⟩ := zbd_at hF
      refine z_callVi (ctX5_get (E := E) (sh := shC) (f := f - 1) (by omega) (k := 24) (n := 1600) rfl rfl hc950) yy_X5_get yv_X5_get ob_C_24 lk_RX2_74 (by omega) rfl rfl (Nat.le_of_ble_eq_true rfl) dX2_loopPlace_56 ?_
      refine z_istore_n (lv' := [(2, .int r948), (0, .ref (za E 3)), (1, .int x1), (3, .int x3)]) dX2_loopPlace_59 rfl (by decide) rfl ?_
      refine z_iload_n 0 dX2_loopPlace_60 rfl rfl ?_
      refine z_iload_n 2 dX2_loopPlace_61 rfl rfl ?_
      refine z_icmp_ne (tgt := 74) dX2_loopPlace_62 (by decide) (fun hc => ?_) (fun hc => ?_)
      · have hF := zif_f hc hF
        obtain ⟨v951, ev951⟩ : ∃ y : Int32, y = (x3 + 1) := ⟨_, rfl⟩
        have hF := zlet_at ev951 hF
        refine z_iinc (v := v951) (lv' := [(3, .int v951), (2, .int r948), (0, .ref (za E 3)), (1, .int x1)]) (k := 3) dX2_loopPlace_74 rfl (by rw [ev951]; rfl) (by decide) rfl ?_
        refine z_goto (tgt := 14) dX2_loopPlace_77 (by decide) ?_
        refine z_sub [2, 3, 1, 0] rfl ?_
        exact hk14 x1 r948 v951 _ hF
      · have hF := zif_t hc hF
        refine z_aload_n 1 dX2_loopPlace_65 rfl rfl ?_
        refine z_getr fr_RX2_38 dX2_loopPlace_66 ?_
        refine z_iload_n 2 dX2_loopPlace_69 rfl rfl ?_
        obtain ⟨r952, t953, hc954, hF⟩ := zbd_at hF
        refine z_callVi (ctX5_get (E := E) (sh := shC) (f := f - 1) (by omega) (k := 22) (n := 400) rfl rfl hc954) yy_X5_get yv_X5_get ob_C_22 lk_RX2_74 (by omega) rfl rfl (Nat.le_of_ble_eq_true rfl) dX2_loopPlace_70 ?_
        exact z_iret hF dX2_loopPlace_73
set_option maxHeartbeats 4000000 in
set_option maxRecDepth 20000 in
theorem wlX2_loopPlace_14 {E : zE} {C : zC} {f : Nat} {ro : Int32 × zS} (hf : 3 ≤ f) (k2 : Int32 → zS → zR) (hk2 : ∀ (x1 : Int32) (t : zS), k2 x1 t = some ro → zJ E shC C cX2_loopPlace RX2 4 f (some .int) ro t 2 [(0, .ref (za E 3)), (1, .int x1)] []) (fu : Nat) : ∀ (x1 x2 x3 : Int32) (t : zS), lX2_loopPlace_14 k2 fu x1 x2 x3 t = some ro → zJ E shC C cX2_loopPlace RX2 4 f (some .int) ro t 14 [(0, .ref (za E 3)), (1, .int x1), (2, .int x2), (3, .int x3)] [] := by
  induction fu with
  | zero => intro x1 x2 x3 t hF; cases hF
  | succ fu ih => intro x1 x2 x3 t hF; exact wbX2_loopPlace_14 hf k2 hk2 (lX2_loopPlace_14 k2 fu) ih x1 x2 x3 t hF
set_option maxHeartbeats 4000000 in
set_option maxRecDepth 20000 in
theorem wbX2_loopPlace_2 {E : zE} {C : zC} {f : Nat} {ro : Int32 × zS} (hf : 3 ≤ f) (k2 : Int32 → zS → zR) (hk2 : ∀ (x1 : Int32) (t : zS), k2 x1 t = some ro → zJ E shC C cX2_loopPlace RX2 4 f (some .int) ro t 2 [(0, .ref (za E 3)), (1, .int x1)] []) (x1 : Int32) (t : zS) (hF : bX2_loopPlace_2 k2 x1 t = some ro) : zJ E shC C cX2_loopPlace RX2 4 f (some .int) ro t 2 [(0, .ref (za E 3)), (1, .int x1)] [] := by
  unfold bX2_loopPlace_2 at hF
  refine z_iload_n 1 dX2_loopPlace_2 rfl rfl ?_
  refine z_aload_n 0 dX2_loopPlace_3 rfl rfl ?_
  refine z_geti fi_RX2_60 dX2_loopPlace_4 ?_
  refine z_icmp_ge (tgt := 86) dX2_loopPlace_7 (by decide) (fun hc => ?_) (fun hc => ?_)
  · have hF := zif_t hc hF
    refine z_iconst (v := (-1)) dX2_loopPlace_86 (by decide) ?_
    exact z_iret hF dX2_loopPlace_87
  · have hF := zif_f hc hF
    refine z_iload_n 1 dX2_loopPlace_10 rfl rfl ?_
    refine z_istore_n (lv' := [(2, .int x1), (0, .ref (za E 3)), (1, .int x1)]) dX2_loopPlace_11 rfl (by decide) rfl ?_
    refine z_iconst (v := 0) dX2_loopPlace_12 (by decide) ?_
    refine z_istore_n (lv' := [(3, .int 0), (2, .int x1), (0, .ref (za E 3)), (1, .int x1)]) dX2_loopPlace_13 rfl (by decide) rfl ?_
    refine z_sub [2, 3, 1, 0] rfl ?_
    exact wlX2_loopPlace_14 hf k2 hk2 zFU x1 x1 0 _ hF
set_option maxHeartbeats 4000000 in
set_option maxRecDepth 20000 in
theorem wlX2_loopPlace_2 {E : zE} {C : zC} {f : Nat} {ro : Int32 × zS} (hf : 3 ≤ f) (fu : Nat) : ∀ (x1 : Int32) (t : zS), lX2_loopPlace_2  fu x1 t = some ro → zJ E shC C cX2_loopPlace RX2 4 f (some .int) ro t 2 [(0, .ref (za E 3)), (1, .int x1)] [] := by
  induction fu with
  | zero => intro x1 t hF; cases hF
  | succ fu ih => intro x1 t hF; exact wbX2_loopPlace_2 hf (lX2_loopPlace_2  fu) ih x1 t hF
set_option maxHeartbeats 4000000 in
set_option maxRecDepth 20000 in
theorem ctX2_loopPlace {E : zE} {f : Nat} (hf : 3 ≤ f) {t : zS} {ro : Int32 × zS} (hF : mX2_loopPlace   t = some ro) : zM E shC f yX2_loopPlace cX2_loopPlace 4 (some .int) [.ref (za E 3)] t ro := by
  refine zM_of (by decide) (Nat.le_of_ble_eq_true rfl) (fun C => ?_)
  show zJ E shC C cX2_loopPlace RX2 4 f (some .int) ro t 0 [(0, .ref (za E 3))] []
  unfold mX2_loopPlace at hF
  refine z_iconst (v := 0) dX2_loopPlace_0 (by decide) ?_
  refine z_istore_n (lv' := [(1, .int 0), (0, .ref (za E 3))]) dX2_loopPlace_1 rfl (by decide) rfl ?_
  refine z_sub [1, 0] rfl ?_
  exact wlX2_loopPlace_2 hf  zFU 0 _ hF
-- SessionHouse$Reader.lackingPlace(I)I
theorem dX7_lackingPlace_0 : decode cX7_lackingPlace 0 = .ok (.iconst 0, 1) := by decide +kernel
theorem dX7_lackingPlace_1 : decode cX7_lackingPlace 1 = .ok (.istore_n 2, 1) := by decide +kernel
theorem dX7_lackingPlace_2 : decode cX7_lackingPlace 2 = .ok (.iload_n 2, 1) := by decide +kernel
theorem dX7_lackingPlace_3 : decode cX7_lackingPlace 3 = .ok (.aload_n 0, 1) := by decide +kernel
theorem dX7_lackingPlace_4 : decode cX7_lackingPlace 4 = .ok (.getfield 64, 3) := by decide +kernel
theorem dX7_lackingPlace_7 : decode cX7_lackingPlace 7 = .ok (.if_icmp .ge 77, 3) := by decide +kernel
theorem dX7_lackingPlace_10 : decode cX7_lackingPlace 10 = .ok (.aload_n 0, 1) := by decide +kernel
theorem dX7_lackingPlace_11 : decode cX7_lackingPlace 11 = .ok (.getfield 27, 3) := by decide +kernel
theorem dX7_lackingPlace_14 : decode cX7_lackingPlace 14 = .ok (.iload_n 2, 1) := by decide +kernel
theorem dX7_lackingPlace_15 : decode cX7_lackingPlace 15 = .ok (.invokevirtual 100, 3) := by decide +kernel
theorem dX7_lackingPlace_18 : decode cX7_lackingPlace 18 = .ok (.iconst 1, 1) := by decide +kernel
theorem dX7_lackingPlace_19 : decode cX7_lackingPlace 19 = .ok (.ishr, 1) := by decide +kernel
theorem dX7_lackingPlace_20 : decode cX7_lackingPlace 20 = .ok (.istore_n 3, 1) := by decide +kernel
theorem dX7_lackingPlace_21 : decode cX7_lackingPlace 21 = .ok (.aload_n 0, 1) := by decide +kernel
theorem dX7_lackingPlace_22 : decode cX7_lackingPlace 22 = .ok (.getfield 27, 3) := by decide +kernel
theorem dX7_lackingPlace_25 : decode cX7_lackingPlace 25 = .ok (.iload_n 2, 1) := by decide +kernel
theorem dX7_lackingPlace_26 : decode cX7_lackingPlace 26 = .ok (.invokevirtual 100, 3) := by decide +kernel
theorem dX7_lackingPlace_29 : decode cX7_lackingPlace 29 = .ok (.iconst 1, 1) := by decide +kernel
theorem dX7_lackingPlace_30 : decode cX7_lackingPlace 30 = .ok (.iand, 1) := by decide +kernel
theorem dX7_lackingPlace_31 : decode cX7_lackingPlace 31 = .ok (.iconst 1, 1) := by decide +kernel
theorem dX7_lackingPlace_32 : decode cX7_lackingPlace 32 = .ok (.if_icmp .ne 7, 3) := by decide +kernel
theorem dX7_lackingPlace_35 : decode cX7_lackingPlace 35 = .ok (.iconst 1, 1) := by decide +kernel
theorem dX7_lackingPlace_36 : decode cX7_lackingPlace 36 = .ok (.goto 4, 3) := by decide +kernel
theorem dX7_lackingPlace_39 : decode cX7_lackingPlace 39 = .ok (.iconst 0, 1) := by decide +kernel
theorem dX7_lackingPlace_40 : decode cX7_lackingPlace 40 = .ok (.istore 4, 2) := by decide +kernel
theorem dX7_lackingPlace_42 : decode cX7_lackingPlace 42 = .ok (.iload 4, 2) := by decide +kernel
theorem dX7_lackingPlace_44 : decode cX7_lackingPlace 44 = .ok (.ifCond .eq 14, 3) := by decide +kernel
theorem dX7_lackingPlace_47 : decode cX7_lackingPlace 47 = .ok (.aload_n 0, 1) := by decide +kernel
theorem dX7_lackingPlace_48 : decode cX7_lackingPlace 48 = .ok (.getfield 42, 3) := by decide +kernel
theorem dX7_lackingPlace_51 : decode cX7_lackingPlace 51 = .ok (.iload_n 3, 1) := by decide +kernel
theorem dX7_lackingPlace_52 : decode cX7_lackingPlace 52 = .ok (.invokevirtual 103, 3) := by decide +kernel
theorem dX7_lackingPlace_55 : decode cX7_lackingPlace 55 = .ok (.goto 11, 3) := by decide +kernel
theorem dX7_lackingPlace_58 : decode cX7_lackingPlace 58 = .ok (.aload_n 0, 1) := by decide +kernel
theorem dX7_lackingPlace_59 : decode cX7_lackingPlace 59 = .ok (.getfield 30, 3) := by decide +kernel
theorem dX7_lackingPlace_62 : decode cX7_lackingPlace 62 = .ok (.iload_n 3, 1) := by decide +kernel
theorem dX7_lackingPlace_63 : decode cX7_lackingPlace 63 = .ok (.invokevirtual 106, 3) := by decide +kernel
theorem dX7_lackingPlace_66 : decode cX7_lackingPlace 66 = .ok (.ifCond .ge 12, 3) := by decide +kernel
theorem dX7_lackingPlace_69 : decode cX7_lackingPlace 69 = .ok (.aload_n 0, 1) := by decide +kernel
theorem dX7_lackingPlace_70 : decode cX7_lackingPlace 70 = .ok (.getfield 23, 3) := by decide +kernel
theorem dX7_lackingPlace_73 : decode cX7_lackingPlace 73 = .ok (.iload_n 2, 1) := by decide +kernel
theorem dX7_lackingPlace_74 : decode cX7_lackingPlace 74 = .ok (.invokevirtual 100, 3) := by decide +kernel
theorem dX7_lackingPlace_77 : decode cX7_lackingPlace 77 = .ok (.ireturn, 1) := by decide +kernel
theorem dX7_lackingPlace_78 : decode cX7_lackingPlace 78 = .ok (.iinc 2 1, 3) := by decide +kernel
theorem dX7_lackingPlace_81 : decode cX7_lackingPlace 81 = .ok (.goto (-79), 3) := by decide +kernel
theorem dX7_lackingPlace_84 : decode cX7_lackingPlace 84 = .ok (.aload_n 0, 1) := by decide +kernel
theorem dX7_lackingPlace_85 : decode cX7_lackingPlace 85 = .ok (.getfield 30, 3) := by decide +kernel
theorem dX7_lackingPlace_88 : decode cX7_lackingPlace 88 = .ok (.invokevirtual 107, 3) := by decide +kernel
theorem dX7_lackingPlace_91 : decode cX7_lackingPlace 91 = .ok (.istore_n 2, 1) := by decide +kernel
theorem dX7_lackingPlace_92 : decode cX7_lackingPlace 92 = .ok (.iload_n 2, 1) := by decide +kernel
theorem dX7_lackingPlace_93 : decode cX7_lackingPlace 93 = .ok (.ifCond .lt 5, 3) := by decide +kernel
theorem dX7_lackingPlace_96 : decode cX7_lackingPlace 96 = .ok (.iload_n 2, 1) := by decide +kernel
theorem dX7_lackingPlace_97 : decode cX7_lackingPlace 97 = .ok (.ireturn, 1) := by decide +kernel
theorem dX7_lackingPlace_98 : decode cX7_lackingPlace 98 = .ok (.aload_n 0, 1) := by decide +kernel
theorem dX7_lackingPlace_99 : decode cX7_lackingPlace 99 = .ok (.getfield 42, 3) := by decide +kernel
theorem dX7_lackingPlace_102 : decode cX7_lackingPlace 102 = .ok (.bipush 17, 2) := by decide +kernel
theorem dX7_lackingPlace_104 : decode cX7_lackingPlace 104 = .ok (.invokevirtual 103, 3) := by decide +kernel
theorem dX7_lackingPlace_107 : decode cX7_lackingPlace 107 = .ok (.istore_n 3, 1) := by decide +kernel
theorem dX7_lackingPlace_108 : decode cX7_lackingPlace 108 = .ok (.iload_n 3, 1) := by decide +kernel
theorem dX7_lackingPlace_109 : decode cX7_lackingPlace 109 = .ok (.ifCond .lt 17, 3) := by decide +kernel
theorem dX7_lackingPlace_112 : decode cX7_lackingPlace 112 = .ok (.aload_n 0, 1) := by decide +kernel
theorem dX7_lackingPlace_113 : decode cX7_lackingPlace 113 = .ok (.getfield 42, 3) := by decide +kernel
theorem dX7_lackingPlace_116 : decode cX7_lackingPlace 116 = .ok (.getfield 111, 3) := by decide +kernel
theorem dX7_lackingPlace_119 : decode cX7_lackingPlace 119 = .ok (.iload_n 3, 1) := by decide +kernel
theorem dX7_lackingPlace_120 : decode cX7_lackingPlace 120 = .ok (.invokevirtual 100, 3) := by decide +kernel
theorem dX7_lackingPlace_123 : decode cX7_lackingPlace 123 = .ok (.ifCond .le 7, 3) := by decide +kernel
theorem dX7_lackingPlace_126 : decode cX7_lackingPlace 126 = .ok (.iload_n 1, 1) := by decide +kernel
theorem dX7_lackingPlace_127 : decode cX7_lackingPlace 127 = .ok (.goto 4, 3) := by decide +kernel
theorem dX7_lackingPlace_130 : decode cX7_lackingPlace 130 = .ok (.iconst (-1), 1) := by decide +kernel
theorem dX7_lackingPlace_131 : decode cX7_lackingPlace 131 = .ok (.ireturn, 1) := by decide +kernel
def bX7_lackingPlace_66 (k2 : Int32 → Int32 → zS → zR) (x1 : Int32) (x2 : Int32) (y0 : Int32) (t : zS) : zR := if 0 ≤ y0 then zlet (x2 + 1) fun v955 => k2 x1 v955 t else zbd (mX5_get 53 1600 x2 t) fun r956 t957 => some (r956, t957)
def bX7_lackingPlace_40 (k2 : Int32 → Int32 → zS → zR) (x1 : Int32) (x2 : Int32) (x3 : Int32) (y0 : Int32) (t : zS) : zR := if y0 = 0 then zbd (mX2_find x3 t) fun r959 t960 => bX7_lackingPlace_66 k2 x1 x2 r959 t960 else zbd (mX6_find x3 t) fun r962 t963 => bX7_lackingPlace_66 k2 x1 x2 r962 t963
def bX7_lackingPlace_126 (x1 : Int32) (t : zS) : zR := some (x1, t)
def bX7_lackingPlace_2 (k2 : Int32 → Int32 → zS → zR) (x1 : Int32) (x2 : Int32) (t : zS) : zR := if (t 5 7) ≤ x2 then zbd (mX2_loopPlace  t) fun r965 t966 => if r965 < 0 then zbd (mX6_find 17 t966) fun r968 t969 => if r968 < 0 then bX7_lackingPlace_126  x1 t969 else zbd (mX5_get 36 400 r968 t969) fun r971 t972 => if r971 ≤ 0 then some ((-1), t972) else bX7_lackingPlace_126  x1 t972 else some (r965, t966) else zbd (mX5_get 55 1600 x2 t) fun r974 t975 => zlet (r974 >>> (1 &&& 31)) fun v977 => zbd (mX5_get 55 1600 x2 t975) fun r978 t979 => if (r978 &&& 1) = 1 then bX7_lackingPlace_40 k2 x1 x2 v977 1 t979 else bX7_lackingPlace_40 k2 x1 x2 v977 0 t979
def lX7_lackingPlace_2 : Nat → Int32 → Int32 → zS → zR
  | 0, _, _, _ => none
  | fu + 1, x1, x2, t => bX7_lackingPlace_2 (lX7_lackingPlace_2  fu) x1 x2 t
def mX7_lackingPlace (x1 : Int32) (t : zS) : zR := lX7_lackingPlace_2  zFU x1 0 t
set_option maxHeartbeats 4000000 in
set_option maxRecDepth 20000 in
theorem wbX7_lackingPlace_66 {E : zE} {C : zC} {f : Nat} {ro : Int32 × zS} (hf : 4 ≤ f) (k2 : Int32 → Int32 → zS → zR) (hk2 : ∀ (x1 x2 : Int32) (t : zS), k2 x1 x2 t = some ro → zJ E shC C cX7_lackingPlace RX7 5 f (some .int) ro t 2 [(0, .ref (za E 5)), (1, .int x1), (2, .int x2)] []) (x1 : Int32) (x2 : Int32) (y0 : Int32) (t : zS) (hF : bX7_lackingPlace_66 k2 x1 x2 y0 t = some ro) : zJ E shC C cX7_lackingPlace RX7 5 f (some .int) ro t 66 [(0, .ref (za E 5)), (1, .int x1), (2, .int x2)] [.int y0] := by
  unfold bX7_lackingPlace_66 at hF
  refine z_if_ge (tgt := 78) dX7_lackingPlace_66 (by decide) (fun hc => ?_) (fun hc => ?_)
  · have hF := zif_t hc hF
    obtain ⟨v955, ev955⟩ : ∃ y : Int32, y = (x2 + 1) := ⟨_, rfl⟩
    have hF := zlet_at ev955 hF
    refine z_iinc (v := v955) (lv' := [(2, .int v955), (0, .ref (za E 5)), (1, .int x1)]) (k := 2) dX7_lackingPlace_78 rfl (by rw [ev955]; rfl) (by decide) rfl ?_
    refine z_goto (tgt := 2) dX7_lackingPlace_81 (by decide) ?_
    refine z_sub [1, 2, 0] rfl ?_
    exact hk2 x1 v955 _ hF
  · have hF := zif_f hc hF
    refine z_aload_n 0 dX7_lackingPlace_69 rfl rfl ?_
    refine z_getr fr_RX7_23 dX7_lackingPlace_70 ?_
    refine z_iload_n 2 dX7_lackingPlace_73 rfl rfl ?_
    obtain ⟨r956, t957, hc958, hF⟩ := zbd_at hF
    refine z_callVi (ctX5_get (E := E) (sh := shC) (f := f - 1) (by omega) (k := 53) (n := 1600) rfl rfl hc958) yy_X5_get yv_X5_get ob_C_53 lk_RX7_100 (by omega) rfl rfl (Nat.le_of_ble_eq_true rfl) dX7_lackingPlace_74 ?_
    exact z_iret hF dX7_lackingPlace_77
set_option maxHeartbeats 4000000 in
set_option maxRecDepth 20000 in
theorem wbX7_lackingPlace_40 {E : zE} {C : zC} {f : Nat} {ro : Int32 × zS} (hf : 4 ≤ f) (k2 : Int32 → Int32 → zS → zR) (hk2 : ∀ (x1 x2 : Int32) (t : zS), k2 x1 x2 t = some ro → zJ E shC C cX7_lackingPlace RX7 5 f (some .int) ro t 2 [(0, .ref (za E 5)), (1, .int x1), (2, .int x2)] []) (x1 : Int32) (x2 : Int32) (x3 : Int32) (y0 : Int32) (t : zS) (hF : bX7_lackingPlace_40 k2 x1 x2 x3 y0 t = some ro) : zJ E shC C cX7_lackingPlace RX7 5 f (some .int) ro t 40 [(0, .ref (za E 5)), (1, .int x1), (2, .int x2), (3, .int x3)] [.int y0] := by
  unfold bX7_lackingPlace_40 at hF
  refine z_istore (lv' := [(4, .int y0), (0, .ref (za E 5)), (1, .int x1), (2, .int x2), (3, .int x3)]) dX7_lackingPlace_40 (by decide) rfl ?_
  refine z_iload 0 dX7_lackingPlace_42 rfl ?_
  refine z_if_eq (tgt := 58) dX7_lackingPlace_44 (by decide) (fun hc => ?_) (fun hc => ?_)
  · have hF := zif_t hc hF
    refine z_aload_n 1 dX7_lackingPlace_58 rfl rfl ?_
    refine z_getr fr_RX7_30 dX7_lackingPlace_59 ?_
    refine z_iload_n 4 dX7_lackingPlace_62 rfl rfl ?_
    obtain ⟨r959, t960, hc961, hF⟩ := zbd_at hF
    refine z_callVi (ctX2_find (E := E) (f := f - 1) (by omega) hc961) yy_X2_find yv_X2_find ob_C_3 lk_RX7_106 (by omega) rfl rfl (Nat.le_of_ble_eq_true rfl) dX7_lackingPlace_63 ?_
    refine z_sub [1, 2, 3] rfl ?_
    exact wbX7_lackingPlace_66 hf k2 hk2 x1 x2 r959 _ hF
  · have hF := zif_f hc hF
    refine z_aload_n 1 dX7_lackingPlace_47 rfl rfl ?_
    refine z_getr fr_RX7_42 dX7_lackingPlace_48 ?_
    refine z_iload_n 4 dX7_lackingPlace_51 rfl rfl ?_
    obtain ⟨r962, t963, hc964, hF⟩ := zbd_at hF
    refine z_callVi (ctX6_find (E := E) (f := f - 1) (by omega) hc964) yy_X6_find yv_X6_find ob_C_4 lk_RX7_103 (by omega) rfl rfl (Nat.le_of_ble_eq_true rfl) dX7_lackingPlace_52 ?_
    refine z_goto (tgt := 66) dX7_lackingPlace_55 (by decide) ?_
    refine z_sub [1, 2, 3] rfl ?_
    exact wbX7_lackingPlace_66 hf k2 hk2 x1 x2 r962 _ hF
set_option maxHeartbeats 4000000 in
set_option maxRecDepth 20000 in
theorem wbX7_lackingPlace_126 {E : zE} {C : zC} {f : Nat} {ro : Int32 × zS} (hf : 4 ≤ f) (x1 : Int32) (t : zS) (hF : bX7_lackingPlace_126  x1 t = some ro) : zJ E shC C cX7_lackingPlace RX7 5 f (some .int) ro t 126 [(1, .int x1)] [] := by
  unfold bX7_lackingPlace_126 at hF
  refine z_iload_n 0 dX7_lackingPlace_126 rfl rfl ?_
  refine z_goto (tgt := 131) dX7_lackingPlace_127 (by decide) ?_
  exact z_iret hF dX7_lackingPlace_131
set_option maxHeartbeats 4000000 in
set_option maxRecDepth 20000 in
theorem wbX7_lackingPlace_2 {E : zE} {C : zC} {f : Nat} {ro : Int32 × zS} (hf : 4 ≤ f) (k2 : Int32 → Int32 → zS → zR) (hk2 : ∀ (x1 x2 : Int32) (t : zS), k2 x1 x2 t = some ro → zJ E shC C cX7_lackingPlace RX7 5 f (some .int) ro t 2 [(0, .ref (za E 5)), (1, .int x1), (2, .int x2)] []) (x1 : Int32) (x2 : Int32) (t : zS) (hF : bX7_lackingPlace_2 k2 x1 x2 t = some ro) : zJ E shC C cX7_lackingPlace RX7 5 f (some .int) ro t 2 [(0, .ref (za E 5)), (1, .int x1), (2, .int x2)] [] := by
  unfold bX7_lackingPlace_2 at hF
  refine z_iload_n 2 dX7_lackingPlace_2 rfl rfl ?_
  refine z_aload_n 0 dX7_lackingPlace_3 rfl rfl ?_
  refine z_geti fi_RX7_64 dX7_lackingPlace_4 ?_
  refine z_icmp_ge (tgt := 84) dX7_lackingPlace_7 (by decide) (fun hc => ?_) (fun hc => ?_)
  · have hF := zif_t hc hF
    refine z_aload_n 0 dX7_lackingPlace_84 rfl rfl ?_
    refine z_getr fr_RX7_30 dX7_lackingPlace_85 ?_
    obtain ⟨r965, t966, hc967, hF⟩ := zbd_at hF
    refine z_callVi (ctX2_loopPlace (E := E) (f := f - 1) (by omega) hc967) yy_X2_loopPlace yv_X2_loopPlace ob_C_3 lk_RX7_107 (by omega) rfl rfl (Nat.le_of_ble_eq_true rfl) dX7_lackingPlace_88 ?_
    refine z_istore_n (lv' := [(2, .int r965), (0, .ref (za E 5)), (1, .int x1)]) dX7_lackingPlace_91 rfl (by decide) rfl ?_
    refine z_iload_n 0 dX7_lackingPlace_92 rfl rfl ?_
    refine z_if_lt (tgt := 98) dX7_lackingPlace_93 (by decide) (fun hc => ?_) (fun hc => ?_)
    · have hF := zif_t hc hF
      refine z_aload_n 1 dX7_lackingPlace_98 rfl rfl ?_
      refine z_getr fr_RX7_42 dX7_lackingPlace_99 ?_
      refine z_bipush (v := 17) dX7_lackingPlace_102 (by decide) ?_
      obtain ⟨r968, t969, hc970, hF⟩ := zbd_at hF
      refine z_callVi (ctX6_find (E := E) (f := f - 1) (by omega) hc970) yy_X6_find yv_X6_find ob_C_4 lk_RX7_103 (by omega) rfl rfl (Nat.le_of_ble_eq_true rfl) dX7_lackingPlace_104 ?_
      refine z_istore_n (lv' := [(3, .int r968), (2, .int r965), (0, .ref (za E 5)), (1, .int x1)]) dX7_lackingPlace_107 rfl (by decide) rfl ?_
      refine z_iload_n 0 dX7_lackingPlace_108 rfl rfl ?_
      refine z_if_lt (tgt := 126) dX7_lackingPlace_109 (by decide) (fun hc => ?_) (fun hc => ?_)
      · have hF := zif_t hc hF
        refine z_sub [3] rfl ?_
        exact wbX7_lackingPlace_126 hf  x1 _ hF
      · have hF := zif_f hc hF
        refine z_aload_n 2 dX7_lackingPlace_112 rfl rfl ?_
        refine z_getr fr_RX7_42 dX7_lackingPlace_113 ?_
        refine z_getr fr_RX7_111 dX7_lackingPlace_116 ?_
        refine z_iload_n 0 dX7_lackingPlace_119 rfl rfl ?_
        obtain ⟨r971, t972, hc973, hF⟩ := zbd_at hF
        refine z_callVi (ctX5_get (E := E) (sh := shC) (f := f - 1) (by omega) (k := 36) (n := 400) rfl rfl hc973) yy_X5_get yv_X5_get ob_C_36 lk_RX7_100 (by omega) rfl rfl (Nat.le_of_ble_eq_true rfl) dX7_lackingPlace_120 ?_
        refine z_if_le (tgt := 130) dX7_lackingPlace_123 (by decide) (fun hc => ?_) (fun hc => ?_)
        · have hF := zif_t hc hF
          refine z_iconst (v := (-1)) dX7_lackingPlace_130 (by decide) ?_
          exact z_iret hF dX7_lackingPlace_131
        · have hF := zif_f hc hF
          refine z_sub [3] rfl ?_
          exact wbX7_lackingPlace_126 hf  x1 _ hF
    · have hF := zif_f hc hF
      refine z_iload_n 0 dX7_lackingPlace_96 rfl rfl ?_
      exact z_iret hF dX7_lackingPlace_97
  · have hF := zif_f hc hF
    refine z_aload_n 0 dX7_lackingPlace_10 rfl rfl ?_
    refine z_getr fr_RX7_27 dX7_lackingPlace_11 ?_
    refine z_iload_n 2 dX7_lackingPlace_14 rfl rfl ?_
    obtain ⟨r974, t975, hc976, hF⟩ := zbd_at hF
    refine z_callVi (ctX5_get (E := E) (sh := shC) (f := f - 1) (by omega) (k := 55) (n := 1600) rfl rfl hc976) yy_X5_get yv_X5_get ob_C_55 lk_RX7_100 (by omega) rfl rfl (Nat.le_of_ble_eq_true rfl) dX7_lackingPlace_15 ?_
    refine z_iconst (v := 1) dX7_lackingPlace_18 (by decide) ?_
    refine z_ishr dX7_lackingPlace_19 ?_
    refine z_topi (fun v977 ev977 => ?_)
    have hF := zlet_at ev977 hF
    refine z_istore_n (lv' := [(3, .int v977), (0, .ref (za E 5)), (1, .int x1), (2, .int x2)]) dX7_lackingPlace_20 rfl (by decide) rfl ?_
    refine z_aload_n 1 dX7_lackingPlace_21 rfl rfl ?_
    refine z_getr fr_RX7_27 dX7_lackingPlace_22 ?_
    refine z_iload_n 3 dX7_lackingPlace_25 rfl rfl ?_
    obtain ⟨r978, t979, hc980, hF⟩ := zbd_at hF
    refine z_callVi (ctX5_get (E := E) (sh := shC) (f := f - 1) (by omega) (k := 55) (n := 1600) rfl rfl hc980) yy_X5_get yv_X5_get ob_C_55 lk_RX7_100 (by omega) rfl rfl (Nat.le_of_ble_eq_true rfl) dX7_lackingPlace_26 ?_
    refine z_iconst (v := 1) dX7_lackingPlace_29 (by decide) ?_
    refine z_iand dX7_lackingPlace_30 ?_
    refine z_iconst (v := 1) dX7_lackingPlace_31 (by decide) ?_
    refine z_icmp_ne (tgt := 39) dX7_lackingPlace_32 (by decide) (fun hc => ?_) (fun hc => ?_)
    · have hF := zif_f hc hF
      refine z_iconst (v := 0) dX7_lackingPlace_39 (by decide) ?_
      refine z_sub [1, 2, 3, 0] rfl ?_
      exact wbX7_lackingPlace_40 hf k2 hk2 x1 x2 v977 0 _ hF
    · have hF := zif_t hc hF
      refine z_iconst (v := 1) dX7_lackingPlace_35 (by decide) ?_
      refine z_goto (tgt := 40) dX7_lackingPlace_36 (by decide) ?_
      refine z_sub [1, 2, 3, 0] rfl ?_
      exact wbX7_lackingPlace_40 hf k2 hk2 x1 x2 v977 1 _ hF
set_option maxHeartbeats 4000000 in
set_option maxRecDepth 20000 in
theorem wlX7_lackingPlace_2 {E : zE} {C : zC} {f : Nat} {ro : Int32 × zS} (hf : 4 ≤ f) (fu : Nat) : ∀ (x1 x2 : Int32) (t : zS), lX7_lackingPlace_2  fu x1 x2 t = some ro → zJ E shC C cX7_lackingPlace RX7 5 f (some .int) ro t 2 [(0, .ref (za E 5)), (1, .int x1), (2, .int x2)] [] := by
  induction fu with
  | zero => intro x1 x2 t hF; cases hF
  | succ fu ih => intro x1 x2 t hF; exact wbX7_lackingPlace_2 hf (lX7_lackingPlace_2  fu) ih x1 x2 t hF
set_option maxHeartbeats 4000000 in
set_option maxRecDepth 20000 in
theorem ctX7_lackingPlace {E : zE} {f : Nat} (hf : 4 ≤ f) {x1 : Int32} {t : zS} {ro : Int32 × zS} (hF : mX7_lackingPlace  x1 t = some ro) : zM E shC f yX7_lackingPlace cX7_lackingPlace 5 (some .int) [.ref (za E 5), .int x1] t ro := by
  refine zM_of (by decide) (Nat.le_of_ble_eq_true rfl) (fun C => ?_)
  show zJ E shC C cX7_lackingPlace RX7 5 f (some .int) ro t 0 [(0, .ref (za E 5)), (1, .int x1)] []
  unfold mX7_lackingPlace at hF
  refine z_iconst (v := 0) dX7_lackingPlace_0 (by decide) ?_
  refine z_istore_n (lv' := [(2, .int 0), (0, .ref (za E 5)), (1, .int x1)]) dX7_lackingPlace_1 rfl (by decide) rfl ?_
  refine z_sub [1, 2, 0] rfl ?_
  exact wlX7_lackingPlace_2 hf  zFU x1 0 _ hF
